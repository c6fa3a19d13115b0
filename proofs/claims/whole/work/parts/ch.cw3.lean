section XD
variable {G : AG} {d : Nat} {mi : MI} {mc ms : Nat} {RC : RCt} {pc : Nat} {L : AL} {S : List AV} {n : Nat} {M : AM} {cl sl : Nat}
theorem rmI_ok {R : Room} {d n mc ms : Nat} (h1 : 1 ≤ d) (hf : d ≤ R.frames) (hl : 64 * d ≤ R.locals) (hn : n ≤ 40) : (rmI (d - 1) mc ms).frames + 1 ≤ R.frames ∧ 8 + (n + 11) + (rmI (d - 1) mc ms).locals ≤ R.locals := by
  show d - 1 + 1 ≤ R.frames ∧ 8 + (n + 11) + 64 * (d - 1) ≤ R.locals
  omega
/-- a constructor called -/
theorem cw_init {mi2 : MI} {ix z n' mc2 ms2 : Nat} {M' : AM} (hd : decode mi.2.1 pc = .ok (.invokespecial ix, 3)) (hM : CI G (d - 1) mi2 mc2 ms2 z n M n' M') (hw1 : Jvm.Cond.methodLink mi.1.cls ix mi2.1 ∈ TG ∨ ∃ host, Jvm.Cond.methodLinkNest mi.1.cls ix mi2.1 host ∈ lw_tbl) (hw2 : Jvm.Cond.instanceMethod mi2.1 ∈ TG) (hw5 : Jvm.Cond.initialized mi2.1.cls ∈ TG) (hini : mi2.1.name = "<init>") (hnm : nmOK mi2 0) (hml : mi2.2.2.1 ≤ 40) (h4 : s4 S) (h1 : 1 ≤ d) (hnn : n' = n + mc2) (hcl : cl + mc2 ≤ mc) (hsl : sl + ms2 ≤ ms)
    (kk : CW G d mi mc ms RC (pc + 3) L S n' M' (cl + mc2) (sl + ms2)) : CW G d mi mc ms RC pc L (vr (z : Int) :: S) n M cl sl := by
  obtain ⟨hw4, hret, hM⟩ := hM
  intro p e R s m args below meth c Z H locs ls hS hR hN
  have hN2 : NowC G mi s H locs ls L S n M cl := hN.to fun h => okS_r.mp h
  have hfc : cl + mc2 ≤ R.cells ∧ sl + ms2 ≤ R.slots := by have := hS.2.2.2.1; omega
  have hts := hS.1.2.2.2.2.1
  have hwsI : GoodIn TG (wsM mi2) := GoodIn_TG (wsM_TG hw4)
  have hrun : va_Run p G.1 e R s m args below meth c H locs cl sl mc2 ms2 (F0 m pc ls ((vr (z : Int) :: S).map (cv G))) (S.map (cv G)) (va_Qv (fun _ : Unit => True) (fun _ t => WdC G M' n' t) (Aof G) [cv G (vr (z : Int))].toArray) (Aof G) := by
    have hpre : PreS s H (va_Pc [cv G (vr (z : Int))] (fun U => WdC G M n U)) [cv G (vr (z : Int))] := ⟨WdC_blind, fun U hU hW => ⟨rfl, WdC_call hS hN2 U hU hW⟩⟩
    rw [List.map_cons]
    rw [cv_r (nat_ne z)] at hM hpre ⊢
    rcases hw1 with hw1 | ⟨host, hw1⟩
    · exact va_runI (Ts := TG) (As := []) (rest := S.map (cv G)) ⟨hS.1.1, hS.1.2.1, hS.1.2.2.1, hS.1.2.2.2.1, hts⟩ hM ⟨callB_of 0 hts hwsI (by unfold wsM; rw [hret]) rfl rfl (hts _ hw5) (hts _ hw1) hnm (rmI_ok h1 hS.1.2.2.2.2.2.1 hS.1.2.2.2.2.2.2.1 hml), hini, hts _ hw2⟩ hpre rfl rfl hN.2.2.2.1.1.1 rfl (lv_room (cat_s4 h4)) hd hfc
    · exact va_runIN (Ts := TG) (As := []) (rest := S.map (cv G)) (host := host) ⟨hS.1.1, hS.1.2.1, hS.1.2.2.1, hS.1.2.2.2.1, hts⟩ hM ⟨va_cnB 0 hts hwsI (by unfold wsM; rw [hret]) rfl rfl ((hS.1.2.2.2.2.2.2.2.2.1).2.2.2.2.2.1.2 _ hw1 rfl) (hts _ hw5) hnm (rmI_ok h1 hS.1.2.2.2.2.2.1 hS.1.2.2.2.2.2.2.1 hml), hini, hts _ hw2⟩ hpre rfl rfl hN.2.2.2.1.1.1 rfl (lv_room (cat_s4 h4)) hd hfc
  refine va_callv hrun hN.2.2.1 (fun q _ h => h) (fun q h => h) (fun u t H1 locs1 ht hvm hp hB hz hk1 hS1 => ?_)
  obtain ⟨-, w2, -, w4, w5, -, w7, w8⟩ := hB
  rw [ht] at w2 w4
  have hcnt : s.heap.size + (cl + mc2) = G.2.2.1 (n' : Int) := by
    have h9 := hN.2.2.2.2.2.2.2.2
    rw [w5 n] at h9
    rw [w5 n', hnn]
    omega
  exact kk p e R s m args below meth c Z H1 locs1 ls hS hR ⟨w2, w4, hS1, hN2.2.2.2.1, hN2.2.2.2.2.1, hN2.2.2.2.2.2.1, w7, w8, hcnt⟩
/-- a constructor's end -/
def RetI (G : AG) (mi : MI) (n' : Nat) (M' : AM) (mc ms : Nat) : RCt := fun p e R s m args below meth c Z => ∀ (H' : Heap) (locs' : List Loc) (ls' : Array Slot) (pc' : Nat), va_P G.2.1 vcl (wsN G M' n') H' → H'.size = G.2.2.1 (n' : Int) → va_S (Aof G) s.heap H' locs' → Fr M' n' → n' ≤ NN → decode mi.2.1 pc' = .ok (.return_, 1) → W p G.1 e R s m args below meth c H' locs' mc ms Z (F0 m pc' ls' [])
theorem cw_ret (hd : decode mi.2.1 pc = .ok (.return_, 1)) : CW G d mi mc ms (RetI G mi n M cl sl) pc L [] n M cl sl := by
  intro p e R s m args below meth c Z H locs ls hS hR hN
  exact hR H locs ls pc hN.1 hN.2.1 hN.2.2.1 hN.2.2.2.2.2.2.1 hN.2.2.2.2.2.2.2.1 hd
theorem CI.of {z n' : Nat} {M' : AM} (hcd : Jvm.Cond.code mi.1 mi.2.1 mi.2.2.1 mi.2.2.2 ∈ TG) (hret : mi.2.2.2 = none) (hp : plainName mi.1.cls = true) (hw : 1 ≤ mi.2.2.1) (hL : ent mi.2.2.1 [vr (z : Int)] = L) (h : CW G d mi mc ms (RetI G mi n' M' mc ms) 0 L [] n M 0 0) : CI G d mi mc ms z n M n' M' := by
  refine ⟨hcd, hret, ?_⟩
  refine Met.ofW (cc := mi.2.1) (maxL := mi.2.2.1) (ret := mi.2.2.2) hp rfl ?_
  intro p e s m args below meth c s₁ B hml hv
  obtain ⟨rfl, hK, hP, hRo, hsz, hLin, hA, hFr, hn⟩ := hv
  have hts : ∀ w ∈ TG, w.before [cv G (vr (z : Int))].toArray s = true := fun w hw => atoms_spec (ws := wsM mi) B.pre w (List.mem_cons_of_mem _ hw)
  have hown : s.vm.findClass mi.1.cls = some m.cls := findClass_of_methodNamed B.named
  have hnm : meth.name = mi.1.name := (name_of_methodNamed B.named B.method).1
  have hl := lv_entry ([vr (z : Int)].map (cv G)) (n := mi.2.2.1) (by rw [wgt_sl]; exact hw)
  have hl' := hl
  rw [lg_entry_eq]
  have hLR : ∀ ls : Array Slot, lv_has ls mi.2.2.1 (lv_args 0 ([vr (z : Int)].map (cv G))) → LR G ls mi.2.2.1 L := by
    intro ls hl
    rw [← hL]
    exact ⟨⟨hl.1, hl.2.1, fun q hq => hl.2.2 q (ent_asc [vr (z : Int)] _ 0 q hq)⟩, ent_len [vr (z : Int)] _ hw⟩
  have hok : okS [vr (z : Int)] := okS_r.mpr (fun _ h => absurd h List.not_mem_nil)
  have hlocks := B.notSynchronized
  have hr := B.returns
  rw [hret] at hr
  refine h p e (headSpec (wsM mi) (rmI d mc ms)).room s m [cv G (vr (z : Int))].toArray below meth c _ s.heap [] _ ⟨⟨B.exec, B.bytes, hml, hown, hts, Nat.le_refl _, Nat.le_refl _, hK, hRo, hLin.inj⟩, hLin, hA, ⟨Nat.le_refl _, Nat.le_refl _⟩, fun h => by rw [hnm]; exact h⟩ ?_ ⟨hP, hsz, va_S.rf, hLR _ hl', by rw [← hL]; exact ent_ok [vr (z : Int)] _ hok, fun _ h => absurd h List.not_mem_nil, hFr, hn, hsz⟩
  intro H' locs' ls' pc' hP' hsz' hS' hFr' hn' hd
  refine W.vret B.exec B.bytes hr (fun t ht hW => ⟨⟨(), rfl, trivial, va_K.moved hW.alike hK, by rw [ht]; exact hP', ?_, by rw [ht]; exact hsz', hLin, hA.moved hW.alike, hFr', hn'⟩, hS'.F ht⟩) hS'.2.2 hd
  rw [ht]
  exact Rom.moved hW (hRo.kept hS'.1 hS'.2.1)
/-- all places stand: the other machine goes on -/
theorem cw_aw {Q : Option AV → AM → Prop} (hM : okM M) (h : AW G d mi Q pc L S M) (hcl : cl ≤ mc) (hsl : sl ≤ ms) (hr : ∀ (p : Program) (e : Env) (R : Room) (s : State) (m : MethodId) (args : Array Value) (below : List Frame) (meth : Method) (c : Code) (Z : State → Prop), SitC G d mi mc ms p R s m args meth c → RC p e R s m args below meth c Z → s.heap.size + cl = G.2.2.1 (NN : Int) → RetOK G mi Q p e R s m args below meth c cl sl Z) : CW G d mi mc ms RC pc L S NN M cl sl := by
  intro p e R s m args below meth c Z H locs ls hS hR hN
  have hP := hN.1
  rw [wsN_all] at hP
  exact h p e R s m args below meth c cl sl Z H locs ls hS.1 (by have := hS.2.2.2.1; omega) (hr p e R s m args below meth c Z hS hR hN.2.2.2.2.2.2.2.2) ⟨hP, hN.2.2.1, hN.2.2.2.1, hN.2.2.2.2.1, hN.2.2.2.2.2.1, hM⟩
end XD
