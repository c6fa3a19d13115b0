section XH
variable {G : AG} {d : Nat}
theorem i_H (hd : 3 ≤ d) : CI G d mi_H_init 116 92656 0 1 D0 117 mH_E := by
  refine CI.of (L := [some (vr ((0 : Nat) : Int)), none]) (tb_in (i := 1027) (by decide +kernel)) rfl rfl (by decide) rfl ?_
  refine i_H_0 hd (i_H_1 hd (i_H_2 hd (i_H_3 hd (i_H_4 hd (i_H_5 hd (i_H_6 hd (i_H_7 hd (i_H_8 hd (i_H_9 hd (i_H_10 hd (i_H_11 hd (i_H_12 hd (i_H_13 hd (i_H_14 hd ?_))))))))))))))
  exact cw_ret (pc := 251) (cl := 116) (sl := 92656) (n := 117) (by decide +kernel)
theorem aw_plain (hd : 1 ≤ d) : AW G d mi_Md_init (fun r M' => r = none ∧ M' = mEnd) 194 [some (vr ((117 : Nat) : Int))] [] mMd_5 := by
  have hz : arT 118 .int := shMd.2.1.1
  refine aw_aload_n (n := 0) (i := 0) (pc := 194) (by decide +kernel) rfl rfl ?_
  refine aw_getF (ci := 12) (j := 1) (ix := 13) (z := 117) (v := 1) (q := (RC12, TC12, 35)) (pc := 195) (by decide +kernel) shMd.1 rfl (by decide) (tb_in (i := 6137) (by decide +kernel)) (by decide +kernel) (by decide +kernel) (fun _ => rfl) ?_
  refine aw_invS (mi2 := mi_Md_plain) (ix := 81) (as := [vr 118]) (S' := []) (k := fun L S M => L = [some (vr ((117 : Nat) : Int))] ∧ S = [] ∧ M = mEnd) (pc := 198) (by decide +kernel) (Or.inl (tb_in (i := 6133) (by decide +kernel))) (tb_in (i := 6134) (by decide +kernel)) (tb_in (i := 1013) (by decide +kernel)) ⟨by decide +kernel, by decide +kernel, by decide +kernel⟩ (by decide) trivial hd ?_ ?_
  · refine (c_Md_plain hz (by rw [shMd.2.1.2]; omega) (by rw [shMd.2.1.2]; omega)).mono ?_
    rintro r M' _ ⟨rfl, rfl⟩
    exact ⟨rfl, rfl, rfl⟩
  · rintro L S M ⟨rfl, rfl, rfl⟩
    exact aw_ret (pc := 201) none (by decide +kernel) trivial ⟨rfl, rfl⟩
theorem i_Md (hd : 1 ≤ d) : CI G d mi_Md_init 20 253088 117 118 mH_E 138 mEnd := by
  refine CI.of (L := [some (vr ((117 : Nat) : Int))]) (tb_in (i := 6130) (by decide +kernel)) rfl rfl (by decide) rfl ?_
  refine i_Md_0 hd (i_Md_1 hd (i_Md_2 hd (i_Md_3 hd (i_Md_4 hd ?_))))
  refine cw_aw okM_mMd (aw_plain hd) (by omega) (by omega) ?_
  intro p e R s m args below meth c Z hS hR hcnt r M' H' locs' ls' pc' hq hf hP hS' hM' hdc
  obtain ⟨rfl, rfl⟩ := hq
  have hs : shL[137]? = some (.inl (.long, 160)) := by decide +kernel
  have hlt := (hP 137 _ (wsOf_at (G := G) (M := mEnd) hs)).lt
  have hL := hS.2.1.s 137
  refine W_size hcnt ?_ fun hsz => hR H' locs' ls' pc' (by rw [show (138 : Nat) = NN from rfl, wsN_all]; exact hP) hsz hS' mEnd_fr (by decide) hdc
  show G.2.2.1 ((137 + 1 : Nat) : Int) ≤ H'.size
  rw [hL]
  exact hlt
/-! what stands behind the constructors -/
def sg0 : Sg := mkS 0 (fun _ => 0) 0 (-1) hl0 mo0 0 (fun _ => mo0) (fun _ => (-1, 0, fun _ => 0)) (fun _ => none)
theorem sg0_ok : SgOK 0 sg0 := by
  have hh : HlOK hl0 := ⟨by show 0 ≤ 5; omega, by show 1 ≤ 5; omega, fun p => ⟨by show 0 ≤ 9; omega, by show 0 ≤ 1; omega⟩, fun q => absurd rfl q, fun q => absurd rfl q, fun k hk => absurd hk (by show ¬ k < 0; omega), by show 0 ≤ 900; omega, by show 0 ≤ 900; omega, by show 0 ≤ 1000; omega⟩
  have hm : MoB 0 mo0 := ⟨⟨fun p => ⟨by show 0 ≤ 1; omega, by show 0 ≤ 4; omega⟩, by show 0 ≤ 9; omega⟩, by show 0 ≤ 0; omega⟩
  exact ⟨by show 0 ≤ 900; omega, fun k => by show 0 ≤ 255; omega, hh, hm, by show 0 ≤ 10; omega, fun i hi => absurd hi (by show ¬ i < 0; omega), fun i hi => ⟨by show (-1 : Int) ≤ -1; omega, by show (-1 : Int) ≤ 3; omega, by show 0 ≤ 40; omega⟩, fun i x hi hx => by cases hx⟩
theorem mE_row0 {k : Int} (h8 : k ≠ 118) (h : UL.all (fun u => decide (u.1 ≠ k)) = true) : mEnd k = D0 k := by
  rw [mEnd_o h8, mM_row h]
theorem CR0 : CR mEnd sg0 := by
  have r26 : mEnd 26 = D0 26 := mE_row0 (by omega) (by decide +kernel)
  have r60 : mEnd 60 = D0 60 := mE_row0 (by omega) (by decide +kernel)
  have r64 : mEnd 64 = D0 64 := mE_row0 (by omega) (by decide +kernel)
  have d26 : ∀ y : Int, D0 26 y = 0 := fun y => rfl
  have d60 : ∀ y : Int, D0 60 y = 0 := fun y => rfl
  have d64 : ∀ y : Int, D0 64 y = 0 := fun y => rfl
  have k29 : ∀ i : Fin 10, mEnd 29 ((i.val : Nat) : Int) = 67 + 2 * ((i.val : Nat) : Int) ∧ shL[67 + 2 * i.val]? = some (.inr 4) := by decide +kernel
  have k30 : ∀ i : Fin 4, mEnd 30 ((i.val : Nat) : Int) = 87 + 2 * ((i.val : Nat) : Int) ∧ mEnd (87 + 2 * ((i.val : Nat) : Int)) 0 = -1 ∧ 0 ≤ mEnd (87 + 2 * ((i.val : Nat) : Int)) 1 := by decide +kernel
  refine ⟨7, ⟨by decide +kernel, by decide +kernel, Or.inl rfl, ⟨by decide +kernel, by decide +kernel, by decide +kernel, by decide +kernel, fun p hp => absurd hp (by show ¬ p < 0; omega), ⟨by decide +kernel, fun k hk => absurd hk (by show ¬ k < 0; omega)⟩, ⟨by decide +kernel, fun k hk => absurd hk (by show ¬ k < 0; omega)⟩⟩⟩, ⟨by decide +kernel, fun k hk => absurd hk (by show ¬ k < 0; omega)⟩, ⟨by decide +kernel, by decide +kernel⟩, ⟨by decide +kernel, by decide +kernel, by decide +kernel, fun p hp => ?_⟩, ⟨by decide +kernel, by show 0 ≤ 10; omega, fun i => 67 + 2 * (i : Int), fun i hi => ?_, fun i j _ _ e => by have e : 67 + 2 * (i : Int) = 67 + 2 * (j : Int) := e; omega, fun i hi => absurd hi (by show ¬ i < 0; omega)⟩, fun i hi => ?_, ⟨by decide +kernel, by decide +kernel, by decide +kernel, by decide +kernel, by decide +kernel, fun i x hi hx => by cases hx⟩, Or.inl (by decide +kernel), ⟨58, 62, by decide +kernel, by decide +kernel, Or.inl ⟨rfl, rfl⟩, ⟨[], by decide +kernel, fun j hj => absurd hj (by simp), List.nodup_nil, fun s hs => absurd hs List.not_mem_nil, fun s hs _ => ?_⟩, ⟨[], by decide +kernel, fun j hj => absurd hj (by simp), List.nodup_nil, fun s hs => absurd hs List.not_mem_nil, fun s hs _ => ?_⟩⟩⟩
  · show mEnd 26 (p : Int) = ((if p < 0 then _ else 0 : Nat) : Int)
    rw [if_neg (by omega), r26, d26]; rfl
  · obtain ⟨a, b⟩ := k29 ⟨i, hi⟩
    exact ⟨a, isO_of b (by show 67 + 2 * (i : Int) = ((67 + 2 * i : Nat) : Int); omega), by show (67 : Int) ≤ 67 + 2 * (i : Int); omega, by show 67 + 2 * (i : Int) ≤ 85; omega⟩
  · obtain ⟨a, b, c⟩ := k30 ⟨i, hi⟩
    exact ⟨a, b, c, fun q => absurd rfl q⟩
  · show mEnd 60 (s : Int) = 0
    rw [r60, d60]
  · show mEnd 64 (s : Int) = 0
    rw [r64, d64]
theorem MR0 : MR mEnd sg0 := by
  have k135 : ∀ i : Fin 4, mEnd 135 ((i.val : Nat) : Int) = -1 := by decide +kernel
  have k119 : ∀ i : Fin 2, mEnd 119 ((i.val : Nat) : Int) = 0 := by decide +kernel
  refine ⟨⟨by decide +kernel, fun k hk => absurd hk (by show ¬ k < 0; omega)⟩, ⟨by decide +kernel, by decide +kernel⟩, ⟨by decide +kernel, by decide +kernel, by decide +kernel, fun p hp => absurd hp (by show ¬ p < 0; omega), ⟨by decide +kernel, fun q => absurd rfl q⟩, ⟨by decide +kernel, fun q => absurd rfl q⟩⟩, ⟨fun p hp => absurd hp (by show ¬ p < 0; omega), by decide +kernel, by decide +kernel⟩, ⟨by decide +kernel, fun i hi => absurd hi (by show ¬ i < 0; omega)⟩, fun i hi => ⟨k135 ⟨i, hi⟩, fun q => absurd rfl q⟩, fun i hi => ⟨k119 ⟨i, hi⟩, fun x hx => by cases hx⟩⟩
theorem okM_mEnd : okM mEnd := by
  have h1 := okM_mMd
  have hs : shL[118]? = some (.inl (.int, 3159)) := by decide +kernel
  have h2 : okM (pln mMd_5 118 1053) := by
    refine ⟨fun k ty n hs' i hi => ?_, fun k ci hs' j hj => ?_⟩
    · unfold pln
      split
      · next q =>
        have e : k = 118 := by omega
        subst e
        rw [hs] at hs'
        cases hs'
        exact ⟨by omega, by omega⟩
      · exact h1.1 k ty n hs' i hi
    · have hk : k ≠ 118 := by
        intro e; subst e; rw [hs] at hs'; cases hs'
      have e : pln mMd_5 118 1053 (k : Int) (j : Int) = mMd_5 (k : Int) (j : Int) := by
        unfold pln
        rw [if_neg (by omega)]
      rw [e]
      exact h1.2 k ci hs' j hj
  exact okM_arr (k := 118) (i := 2) h2 hs ⟨by omega, by omega⟩ (by omega)
end XH
