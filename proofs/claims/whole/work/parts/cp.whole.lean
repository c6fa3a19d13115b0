section XJ
theorem cw_astore {G : AG} {d : Nat} {mi : MI} {mc ms : Nat} {RC : RCt} {pc : Nat} {L : AL} {S : List AV} {n : Nat} {M : AM} {cl sl : Nat} {k : Fin 4} {i a : Nat} (hd : decode mi.2.1 pc = .ok (.astore_n k, 1)) (hk : k.val = i) (hi : i < mi.2.2.1) (kk : CW G d mi mc ms RC (pc + 1) (st1 L i (vr (a : Int))) S n M cl sl) : CW G d mi mc ms RC pc L (vr (a : Int) :: S) n M cl sl := by
  intro p e R s m args below meth c Z H locs ls hS hR hN
  rw [List.map_cons, cv_r (nat_ne a)]
  exact lv_astore_n hS.1.1 hS.1.2.1 hd hk hN.2.2.2.1.1 hi rfl (fun ls' hl => kk p e R s m args below meth c Z H locs ls' hS hR ⟨hN.1, hN.2.1, hN.2.2.1, LR.st1 hN.2.2.2.1.2 (by rw [cv_r (nat_ne a)]; exact hl), st1_ok hN.2.2.2.2.1 (okS_c.mp hN.2.2.2.2.2.1).1, (okS_c.mp hN.2.2.2.2.2.1).2, hN.2.2.2.2.2.2⟩)
/-- the law from its entry to its loop -/
def RCL (G : AG) : RCt := fun p e R s m args below meth c Z => RetOK G mi_Lw_law QL p e R s m args below meth c 138 345797 Z
theorem lw_cw {G : AG} {d : Nat} (hd : 100 ≤ d) (hL : G.2.2.2.2.1.2.1 ≤ 3072) : CW G d mi_Lw_law 138 345797 (RCL G) 0 [some (vr (-50)), none, none, none] [] 0 D0 0 0 := by
  refine cw_new (ix := 7) (ci := 0) (q := (RC0, TC0, 18)) (n := 0) (cl := 0) (sl := 0) (pc := 0) (by decide +kernel) (by decide +kernel) rfl (tb_in (i := 1023) (by decide +kernel)) (tb_in (i := 1024) (by decide +kernel)) (tb_in (i := 1001) (by decide +kernel)) (by decide) (by decide) ?_
  refine cw_dup (pc := 3) (by decide +kernel) (fun x h => by cases h) ?_
  refine cw_init (ix := 9) (mi2 := mi_H_init) (z := 0) (n := 1) (n' := 117) (mc2 := 116) (ms2 := 92656) (M' := mH_E) (cl := 1) (sl := 18) (pc := 4) (by decide +kernel) (i_H (by omega)) (Or.inl (tb_in (i := 1025) (by decide +kernel))) (tb_in (i := 1026) (by decide +kernel)) (tb_in (i := 1001) (by decide +kernel)) rfl nm_H (by decide) trivial (by omega) rfl (by decide) (by decide) ?_
  refine cw_astore (k := 1) (i := 1) (a := 0) (L := [some (vr (-50)), none, none, none]) (pc := 7) (by decide +kernel) rfl (by decide) ?_
  refine cw_new (ix := 10) (ci := 12) (q := (RC12, TC12, 35)) (n := 117) (cl := 117) (sl := 92674) (L := [some (vr (-50)), some (vr ((0 : Nat) : Int)), none, none]) (pc := 8) (by decide +kernel) (by decide +kernel) rfl (tb_in (i := 6126) (by decide +kernel)) (tb_in (i := 6127) (by decide +kernel)) (tb_in (i := 1013) (by decide +kernel)) (by decide) (by decide) ?_
  refine cw_dup (pc := 11) (by decide +kernel) (fun x h => by cases h) ?_
  refine cw_init (ix := 12) (mi2 := mi_Md_init) (z := 117) (n := 118) (n' := 138) (mc2 := 20) (ms2 := 253088) (M' := mEnd) (cl := 118) (sl := 92709) (pc := 12) (by decide +kernel) (i_Md (by omega)) (Or.inl (tb_in (i := 6128) (by decide +kernel))) (tb_in (i := 6129) (by decide +kernel)) (tb_in (i := 1013) (by decide +kernel)) rfl nm_Md (by decide) trivial (by omega) rfl (by decide) (by decide) ?_
  refine cw_astore (k := 2) (i := 2) (a := 117) (L := [some (vr (-50)), some (vr ((0 : Nat) : Int)), none, none]) (pc := 15) (by decide +kernel) rfl (by decide) ?_
  refine cw_iconst (x := 0) (L := [some (vr (-50)), some (vr ((0 : Nat) : Int)), some (vr ((117 : Nat) : Int)), none]) (pc := 16) (by decide +kernel) ⟨by omega, by omega⟩ ?_
  refine cw_istore (k := 3) (i := 3) (a := 0) (pc := 17) (by decide +kernel) rfl (by decide) ?_
  refine cw_aw (Q := QL) (pc := 18) (L := [some (vr (-50)), some (vr 0), some (vr 117), some (vi ((6 * 0 : Nat) : Int))]) okM_mEnd (lw_loop (by omega) hL 513 0 mEnd sg0 (by omega) (by omega) sg0_ok CR0 MR0) (by omega) (by omega) ?_
  intro p e R s m args below meth c Z hS hR hcnt
  exact hR
end XJ
