/-! calls -/
theorem Wd_blind {G : AG} {M : AM} {as : List AV} : FrameBlind (va_Pc (as.map (cv G)) (fun U => okS as ∧ Wd G M U)) := by
  intro a U g mk h
  obtain ⟨h1, h2, h3, h4, h5, h6⟩ := h
  exact ⟨h1, h2, va_K.moved (u := U) (U := U.calling g mk a) (Vm.Alike.refl U.vm) h3, h4, Rom.same (s := U) (U := U.calling g mk a) rfl h5, h6⟩
theorem QcM_v {G : AG} {mi : MI} {Q : Option AV → AM → Prop} (h : mi.2.2.2 = none) : QcM G mi Q = va_Qv (fun M' => Q none M') (fun M' t => Wd G M' t) (Aof G) := by
  unfold QcM; rw [h]
theorem QcM_l {G : AG} {mi : MI} {Q : Option AV → AM → Prop} (h : mi.2.2.2 = some .long) : QcM G mi Q = va_Ql (fun r M' => Q (some (vl r.toInt)) M') (fun M' t => Wd G M' t) (Aof G) := by
  unfold QcM; rw [h]
theorem QcM_i {G : AG} {mi : MI} {Q : Option AV → AM → Prop} {ty : FieldType} (h : mi.2.2.2 = some ty) (hne : ty ≠ .long) : QcM G mi Q = va_Qi (fun r M' => Q (some (vi r.toInt)) M') (fun M' t => Wd G M' t) (Aof G) := by
  unfold QcM; rw [h]
  cases ty <;> first | rfl | exact absurd rfl hne
section AWR
variable {G : AG} {d : Nat} {mi : MI} {Q : Option AV → AM → Prop} {pc : Nat} {L : AL} {S : List AV} {M : AM}
theorem cat_s4 {S : List AV} (h : s4 S) : ((S.map (cv G)).map fun v => v.category).sum ≤ 8 := by
  have hc : ∀ v : AV, (cv G v).category ≤ 2 := fun v => by rcases lv_cat (cv G v) with q | q <;> omega
  match S, h with
  | [], _ => simp
  | [a], _ => have := hc a; simp; omega
  | [a, b], _ => have := hc a; have := hc b; simp; omega
  | [a, b, c], _ => have := hc a; have := hc b; have := hc c; simp; omega
  | [a, b, c, d], _ => have := hc a; have := hc b; have := hc c; have := hc d; simp; omega
  | _ :: _ :: _ :: _ :: _ :: _, h => exact h.elim
/-- the world at a call's start -/
theorem Wd_call {p : Program} {R : Room} {s : State} {m : MethodId} {args : Array Value} {c : Code} {H : Heap} {locs : List Loc} {ls : Array Slot} (hS : Sit G d mi p R s m args c) (hN : Now G mi s H locs ls L S M) : ∀ U : State, U.heap = H → s.WarmedH U.vm → Wd G M U := by
  intro U hU hW
  obtain ⟨-, -, -, -, -, -, -, hK, hRo, hi⟩ := hS
  refine ⟨va_K.moved hW.alike hK, by rw [hU]; exact hN.1, ?_, hi, hN.2.2.2.2.2⟩
  rw [hU]
  exact Rom.moved hW (hRo.kept hN.2.1.1 hN.2.1.2.1)
/-- behind a call, by what it answers -/
theorem aw_back {mi2 : MI} {S' : List AV} {av : Array Value} {k : PK} {p : Program} {e : Env} {R : Room} {s : State} {m : MethodId} {args : Array Value} {below : List Frame} {meth : Method} {c : Code} {cells slots : Nat} {Z : State → Prop} {H : Heap} {locs : List Loc} {ls : Array Slot} {st0 : List Value} (hS : Sit G d mi p R s m args c) (hc : cells ≤ R.cells ∧ slots ≤ R.slots) (hR : RetOK G mi Q p e R s m args below meth c cells slots Z) (hN : Now G mi s H locs ls L S' M)
    (hr : va_Run p G.1 e R s m args below meth c H locs cells slots 0 0 (F0 m pc ls st0) (S'.map (cv G)) (QcM G mi2 (cK k L S') av) (Aof G)) (kk : ∀ L S M, k L S M → AW G d mi Q (pc + 3) L S M) : W p G.1 e R s m args below meth c H locs cells slots Z (F0 m pc ls st0) := by
  rcases hret : mi2.2.2.2 with _ | ty
  · rw [QcM_v hret] at hr
    refine va_callv hr hN.2.1 (fun q _ h => h) (fun q h => h) (fun u t H1 locs1 ht hvm hp hB hz hk1 hS1 => ?_)
    obtain ⟨-, w2, -, -, w5⟩ := hB
    rw [ht] at w2
    exact kk _ _ _ hp p e R s m args below meth c cells slots Z H1 locs1 ls hS hc hR ⟨w2, hS1, hN.2.2.1, hN.2.2.2.1, hN.2.2.2.2.1, w5⟩
  by_cases hty : ty = .long
  · rw [QcM_l (by rw [hret, hty])] at hr
    refine va_calll hr hN.2.1 (fun q _ h => h) (fun q h => h) (fun r u t H1 locs1 ht hvm hp hB hz hk1 hS1 => ?_)
    obtain ⟨-, w2, -, -, w5⟩ := hB
    rw [ht] at w2
    have := kk _ _ _ hp p e R s m args below meth c cells slots Z H1 locs1 ls hS hc hR ⟨w2, hS1, hN.2.2.1, hN.2.2.2.1, okS_l.mpr ⟨i6_in r, hN.2.2.2.2.1⟩, w5⟩
    rw [show psh (some (vl r.toInt)) S' = vl r.toInt :: S' from rfl, List.map_cons, show cv G (vl r.toInt) = .long r from by show Value.long (i6 _) = _; rw [i6_of]] at this
    exact this
  · rw [QcM_i hret hty] at hr
    refine va_calli hr hN.2.1 (fun q _ h => h) (fun q h => h) (fun r u t H1 locs1 ht hvm hp hB hz hk1 hS1 => ?_)
    obtain ⟨-, w2, -, -, w5⟩ := hB
    rw [ht] at w2
    have := kk _ _ _ hp p e R s m args below meth c cells slots Z H1 locs1 ls hS hc hR ⟨w2, hS1, hN.2.2.1, hN.2.2.2.1, okS_i.mpr ⟨i3_in r, hN.2.2.2.2.1⟩, w5⟩
    rw [show psh (some (vi r.toInt)) S' = vi r.toInt :: S' from rfl, List.map_cons, show cv G (vi r.toInt) = .int r from by show Value.int (i3 _) = _; rw [i3_of]] at this
    exact this
/-- what a call wants of the callee's name -/
def nmOK (mi2 : MI) (n : Nat) : Prop := mi2.1.cls ≠ "java/lang/invoke/MethodHandle" ∧ mi2.1.cls ≠ "java/lang/invoke/VarHandle" ∧ (parseMethodDescriptor mi2.1.desc).map (fun d => d.parameters.length) = some n
theorem GoodIn_TG {ws : List Jvm.Cond} (h : ∀ w ∈ ws, w ∈ TG) : GoodIn TG ws := fun w hw => TG_good w (h w hw)
theorem wsM_TG {mi2 : MI} (h : Jvm.Cond.code mi2.1 mi2.2.1 mi2.2.2.1 mi2.2.2.2 ∈ TG) : ∀ w ∈ wsM mi2, w ∈ TG := fun w hw => (List.mem_cons.mp hw).elim (fun e => by rw [e]; exact h) id
theorem rm_ok {R : Room} {d n : Nat} (h1 : 1 ≤ d) (hf : d ≤ R.frames) (hl : 64 * d ≤ R.locals) (hn : n ≤ 40) : (rmD (d - 1)).frames + 1 ≤ R.frames ∧ 8 + (n + 11) + (rmD (d - 1)).locals ≤ R.locals := by
  show d - 1 + 1 ≤ R.frames ∧ 8 + (n + 11) + 64 * (d - 1) ≤ R.locals
  omega
theorem aw_invV {mi2 : MI} {ix ci : Nat} {z : Int} {as S' : List AV} {q : vw_C} {k : PK} (hd : decode mi.2.1 pc = .ok (.invokevirtual ix, 3)) (hz : isO z ci) (hq : vcl[ci]? = some q) (hcl : mi2.1.cls = q.1) (hw1 : Jvm.Cond.methodLink mi.1.cls ix mi2.1 ∈ TG) (hw2 : Jvm.Cond.instanceMethod mi2.1 ∈ TG) (hw3 : Jvm.Cond.selects mi2.1.cls mi2.1 mi2.1 ∈ TG) (hw5 : Jvm.Cond.initialized mi2.1.cls ∈ TG) (hnm : nmOK mi2 as.length) (hml : mi2.2.2.1 ≤ 40) (h4 : s4 S') (h1 : 1 ≤ d)
    (hM : MS G (d - 1) mi2 (vr z :: as) M (cK k L S')) (kk : ∀ L S M, k L S M → AW G d mi Q (pc + 3) L S M) : AW G d mi Q pc L (as.reverse ++ vr z :: S') M := by
  obtain ⟨hw4, hM⟩ := hM
  intro p e R s m args below meth c cells slots Z H locs ls hS hc hR hN
  obtain ⟨kz, rfl, hsz⟩ := isO_at hz
  have hat := wsOf_at (G := G) (M := M) hsz
  have hok : okS (vr kz :: as) ∧ okS S' := by
    have := hN.2.2.2.2.1
    refine ⟨okS_r.mpr fun v hv => this v (List.mem_append_left _ (List.mem_reverse.mpr hv)), fun v hv => this v (List.mem_append_right _ (List.mem_cons_of_mem _ hv))⟩
  refine aw_back (mi2 := mi2) (S' := S') (av := ((vr kz :: as).map (cv G)).toArray) hS hc hR (hN.to fun _ => hok.2) (k := k) ?_ kk
  have hst : (as.reverse ++ vr kz :: S').map (cv G) = (as.map (cv G)).reverse ++ .ref (G.2.2.1 kz) :: S'.map (cv G) := by
    rw [List.map_append, List.map_reverse, List.map_cons, cv_r (nat_ne kz)]
  have hav : ((vr (kz : Int) :: as).map (cv G)).toArray = (Value.ref (G.2.2.1 kz) :: as.map (cv G)).toArray := by rw [List.map_cons, cv_r (nat_ne kz)]
  rw [hst, hav]
  refine va_runV (Ts := TG) (As := as.map (cv G)) (rest := S'.map (cv G)) (C := q.1) ⟨hS.1, hS.2.1, hS.2.2.1, hS.2.2.2.1, hS.2.2.2.2.1⟩ hM (cwV as.length hS.2.2.2.2.1 (GoodIn_TG ?_) rfl rfl rfl ⟨hcl, hnm⟩ (rm_ok h1 hS.2.2.2.2.2.1 hS.2.2.2.2.2.2.1 hml)) ⟨Wd_blind, va_recv hS.2.2.2.2.2.2.2.1 hN.1 hq hat, fun U hU hW => ⟨hav.symm ▸ rfl, hok.1, Wd_call hS hN U hU hW⟩⟩ rfl (by simp) hN.2.2.1.1.1 rfl (lv_room (cat_s4 h4)) hd hc
  intro w hw
  unfold wsV at hw
  rw [← hcl] at hw
  rcases List.mem_append.mp hw with h | h
  · simp only [List.mem_cons, List.not_mem_nil, or_false] at h
    rcases h with rfl | rfl | rfl | rfl
    · exact hw1
    · exact hw2
    · exact hw3
    · exact hw5
  · exact wsM_TG hw4 w h
theorem aw_invT {mi2 : MI} {ix : Nat} {z : Int} {as S' : List AV} {k : PK} (hd : decode mi.2.1 pc = .ok (.invokevirtual ix, 3)) (hz : -13 ≤ z ∧ z ≤ -10) (hcl : mi2.1.cls = "java/lang/String") (hw1 : Jvm.Cond.methodLink mi.1.cls ix mi2.1 ∈ TG) (hw2 : Jvm.Cond.instanceMethod mi2.1 ∈ TG) (hw3 : Jvm.Cond.selects mi2.1.cls mi2.1 mi2.1 ∈ TG) (hw5 : Jvm.Cond.initialized mi2.1.cls ∈ TG) (hnm : nmOK mi2 as.length) (hml : mi2.2.2.1 ≤ 40) (h4 : s4 S') (h1 : 1 ≤ d)
    (hM : MS G (d - 1) mi2 (vr z :: as) M (cK k L S')) (kk : ∀ L S M, k L S M → AW G d mi Q (pc + 3) L S M) : AW G d mi Q pc L (as.reverse ++ vr z :: S') M := by
  obtain ⟨hw4, hM⟩ := hM
  intro p e R s m args below meth c cells slots Z H locs ls hS hc hR hN
  obtain ⟨n, hn, rfl⟩ : ∃ n : Nat, n < 4 ∧ z = -10 - n := ⟨(-10 - z).toNat, by omega, by omega⟩
  have hne : ¬ (-10 - (n : Int)) = -1 := by omega
  have hok : okS (vr (-10 - (n : Int)) :: as) ∧ okS S' := by
    have := hN.2.2.2.2.1
    refine ⟨okS_r.mpr fun v hv => this v (List.mem_append_left _ (List.mem_reverse.mpr hv)), fun v hv => this v (List.mem_append_right _ (List.mem_cons_of_mem _ hv))⟩
  refine aw_back (mi2 := mi2) (S' := S') (av := ((vr (-10 - (n : Int)) :: as).map (cv G)).toArray) hS hc hR (hN.to fun _ => hok.2) (k := k) ?_ kk
  have hst : (as.reverse ++ vr (-10 - (n : Int)) :: S').map (cv G) = (as.map (cv G)).reverse ++ .ref (G.2.2.1 (-10 - (n : Int))) :: S'.map (cv G) := by
    rw [List.map_append, List.map_reverse, List.map_cons, cv_r hne]
  have hav : ((vr (-10 - (n : Int)) :: as).map (cv G)).toArray = (Value.ref (G.2.2.1 (-10 - (n : Int))) :: as.map (cv G)).toArray := by rw [List.map_cons, cv_r hne]
  rw [hst, hav]
  have hO := ((hS.2.2.2.2.2.2.2.2.1.kept hN.2.1.1 hN.2.1.2.1).2.2.2.2.1 n hn).1
  refine va_runV (Ts := TG) (As := as.map (cv G)) (rest := S'.map (cv G)) (C := "java/lang/String") ⟨hS.1, hS.2.1, hS.2.2.1, hS.2.2.2.1, hS.2.2.2.2.1⟩ hM (cwV as.length hS.2.2.2.2.1 (GoodIn_TG ?_) rfl rfl rfl ⟨hcl, hnm⟩ (rm_ok h1 hS.2.2.2.2.2.1 hS.2.2.2.2.2.2.1 hml)) ⟨Wd_blind, ?_, fun U hU hW => ⟨hav.symm ▸ rfl, hok.1, Wd_call hS hN U hU hW⟩⟩ rfl (by simp) hN.2.2.1.1.1 rfl (lv_room (cat_s4 h4)) hd hc
  · intro w hw
    unfold wsV at hw
    rw [← hcl] at hw
    rcases List.mem_append.mp hw with h | h
    · simp only [List.mem_cons, List.not_mem_nil, or_false] at h
      rcases h with rfl | rfl | rfl | rfl
      · exact hw1
      · exact hw2
      · exact hw3
      · exact hw5
    · exact wsM_TG hw4 w h
  · obtain ⟨cell, o1, o2, o3, -⟩ := hO
    exact ⟨cell, o1, o2, o3⟩
theorem aw_invS {mi2 : MI} {ix : Nat} {as S' : List AV} {k : PK} (hd : decode mi.2.1 pc = .ok (.invokestatic ix, 3)) (hw1 : Jvm.Cond.methodLink mi.1.cls ix mi2.1 ∈ TG ∨ ∃ host, Jvm.Cond.methodLinkNest mi.1.cls ix mi2.1 host ∈ lw_tbl) (hw2 : Jvm.Cond.static mi2.1 ∈ TG) (hw5 : Jvm.Cond.initialized mi2.1.cls ∈ TG) (hnm : nmOK mi2 as.length) (hml : mi2.2.2.1 ≤ 40) (h4 : s4 S') (h1 : 1 ≤ d)
    (hM : MS G (d - 1) mi2 as M (cK k L S')) (kk : ∀ L S M, k L S M → AW G d mi Q (pc + 3) L S M) : AW G d mi Q pc L (as.reverse ++ S') M := by
  obtain ⟨hw4, hM⟩ := hM
  intro p e R s m args below meth c cells slots Z H locs ls hS hc hR hN
  have hok : okS as ∧ okS S' := by
    have := hN.2.2.2.2.1
    refine ⟨fun v hv => this v (List.mem_append_left _ (List.mem_reverse.mpr hv)), fun v hv => this v (List.mem_append_right _ hv)⟩
  refine aw_back (mi2 := mi2) (S' := S') (av := (as.map (cv G)).toArray) hS hc hR (hN.to fun _ => hok.2) (k := k) ?_ kk
  have hst : (as.reverse ++ S').map (cv G) = (as.map (cv G)).reverse ++ S'.map (cv G) := by
    rw [List.map_append, List.map_reverse]
  rw [hst]
  rcases hw1 with hw1 | ⟨host, hw1⟩
  · exact va_runS (Ts := TG) (As := as.map (cv G)) (rest := S'.map (cv G)) ⟨hS.1, hS.2.1, hS.2.2.1, hS.2.2.2.1, hS.2.2.2.2.1⟩ hM ⟨callB_of as.length hS.2.2.2.2.1 (GoodIn_TG (wsM_TG hw4)) rfl rfl rfl (hS.2.2.2.2.1 _ hw5) (hS.2.2.2.2.1 _ hw1) hnm (rm_ok h1 hS.2.2.2.2.2.1 hS.2.2.2.2.2.2.1 hml), hS.2.2.2.2.1 _ hw2⟩ ⟨Wd_blind, fun U hU hW => ⟨rfl, hok.1, Wd_call hS hN U hU hW⟩⟩ rfl (by simp) hN.2.2.1.1.1 rfl (lv_room (cat_s4 h4)) hd hc
  · exact va_runSN (Ts := TG) (As := as.map (cv G)) (rest := S'.map (cv G)) (host := host) ⟨hS.1, hS.2.1, hS.2.2.1, hS.2.2.2.1, hS.2.2.2.2.1⟩ hM ⟨va_cnB as.length hS.2.2.2.2.1 (GoodIn_TG (wsM_TG hw4)) rfl rfl rfl ((hS.2.2.2.2.2.2.2.2.1).2.2.2.2.2.1.2 _ hw1 rfl) (hS.2.2.2.2.1 _ hw5) hnm (rm_ok h1 hS.2.2.2.2.2.1 hS.2.2.2.2.2.2.1 hml), hS.2.2.2.2.1 _ hw2, trivial⟩ ⟨Wd_blind, fun U hU hW => ⟨rfl, hok.1, Wd_call hS hN U hU hW⟩⟩ rfl (by simp) hN.2.2.1.1.1 rfl (lv_room (cat_s4 h4)) hd hc
theorem aw_mmax {ix : Nat} {a b : Int} (hd : decode mi.2.1 pc = .ok (.invokestatic ix, 3)) (hw1 : Jvm.Cond.methodLink mi.1.cls ix Lib.Math.max.name ∈ TG) (hw2 : Jvm.Cond.static Lib.Math.max.name ∈ TG) (hw3 : Jvm.Cond.code Lib.Math.max.name Lib.Math.max.code 2 (some .int) ∈ TG) (hw4 : Jvm.Cond.initialized "java/lang/Math" ∈ TG) (h4 : s4 S) (h1 : 1 ≤ d) (k : AW G d mi Q (pc + 3) L (vi (if a < b then b else a) :: S) M) : AW G d mi Q pc L (vi b :: vi a :: S) M := by
  intro p e R s m args below meth c cells slots Z H locs ls hS hc hR hN
  have hb := (okS_i.mp hN.2.2.2.2.1).1
  have ha := (okS_i.mp (okS_i.mp hN.2.2.2.2.1).2).1
  have hml : c.maxLocals = ls.size := by rw [hS.2.2.1]; exact hN.2.2.1.1.1.symm
  have hl := cat_s4 (G := G) h4
  have hfr := hS.2.2.2.2.2.1
  have hlo := hS.2.2.2.2.2.2.1
  refine va_mmax (x := i3 a) (y := i3 b) (rest := S.map (cv G)) hS.1 hS.2.1 hml hS.2.2.2.1 (hS.2.2.2.2.1 _ hw1) (hS.2.2.2.2.1 _ hw2) (hS.2.2.2.2.1 _ hw4) (hS.2.2.2.2.1 _ hw3) (by omega) (by omega) hc.1 hc.2 hd ?_
  have hk := k p e R s m args below meth c cells slots Z H locs ls hS hc hR (hN.to fun h => okS_i.mpr ⟨by split <;> assumption, (okS_i.mp (okS_i.mp h).2).2⟩)
  rw [List.map_cons] at hk
  have e1 : (if i3 a < i3 b then i3 b else i3 a) = i3 (if a < b then b else a) := by
    by_cases h : a < b
    · rw [if_pos h, if_pos ((i3_lt ha hb).mpr h)]
    · rw [if_neg h, if_neg (fun q => h ((i3_lt ha hb).mp q))]
  rw [e1]
  exact hk
theorem aw_mmin {ix : Nat} {a b : Int} (hd : decode mi.2.1 pc = .ok (.invokestatic ix, 3)) (hw1 : Jvm.Cond.methodLink mi.1.cls ix Lib.Math.min.name ∈ TG) (hw2 : Jvm.Cond.static Lib.Math.min.name ∈ TG) (hw3 : Jvm.Cond.code Lib.Math.min.name Lib.Math.min.code 2 (some .int) ∈ TG) (hw4 : Jvm.Cond.initialized "java/lang/Math" ∈ TG) (h4 : s4 S) (h1 : 1 ≤ d) (k : AW G d mi Q (pc + 3) L (vi (if b < a then b else a) :: S) M) : AW G d mi Q pc L (vi b :: vi a :: S) M := by
  intro p e R s m args below meth c cells slots Z H locs ls hS hc hR hN
  have hb := (okS_i.mp hN.2.2.2.2.1).1
  have ha := (okS_i.mp (okS_i.mp hN.2.2.2.2.1).2).1
  have hml : c.maxLocals = ls.size := by rw [hS.2.2.1]; exact hN.2.2.1.1.1.symm
  have hl := cat_s4 (G := G) h4
  have hfr := hS.2.2.2.2.2.1
  have hlo := hS.2.2.2.2.2.2.1
  refine va_mmin (x := i3 a) (y := i3 b) (rest := S.map (cv G)) hS.1 hS.2.1 hml hS.2.2.2.1 (hS.2.2.2.2.1 _ hw1) (hS.2.2.2.2.1 _ hw2) (hS.2.2.2.2.1 _ hw4) (hS.2.2.2.2.1 _ hw3) (by omega) (by omega) hc.1 hc.2 hd ?_
  have hk := k p e R s m args below meth c cells slots Z H locs ls hS hc hR (hN.to fun h => okS_i.mpr ⟨by split <;> assumption, (okS_i.mp (okS_i.mp h).2).2⟩)
  rw [List.map_cons] at hk
  have e1 : (if i3 b < i3 a then i3 b else i3 a) = i3 (if b < a then b else a) := by
    by_cases h : b < a
    · rw [if_pos h, if_pos ((i3_lt hb ha).mpr h)]
    · rw [if_neg h, if_neg (fun q => h ((i3_lt hb ha).mp q))]
  rw [e1]
  exact hk
end AWR
