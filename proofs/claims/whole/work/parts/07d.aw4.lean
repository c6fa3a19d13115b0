/-! arrays, statics, texts -/
section AWR
variable {G : AG} {d : Nat} {mi : MI} {Q : Option AV → AM → Prop} {pc : Nat} {L : AL} {S : List AV} {M : AM}
theorem aw_iaload {z i : Int} (hd : decode mi.2.1 pc = .ok (.iaload, 1)) (hz : arT z .int) (hi : 0 ≤ i ∧ i < alen z) (k : AW G d mi Q (pc + 1) L (vi (M z i) :: S) M) : AW G d mi Q pc L (vi i :: vr z :: S) M := by
  intro p e R s m args below meth c cells slots Z H locs ls hS hc hR hN
  obtain ⟨kk, n, rfl, hs, hl⟩ := arT_at hz
  have hat := wsOf_at (G := G) (M := M) hs
  obtain ⟨t0, ht0⟩ := tysOf_at (G := G) hs
  obtain ⟨j, rfl⟩ := Int.eq_ofNat_of_zero_le hi.1
  have hj : j < n := by have := hi.2; rw [hl] at this; omega
  have hin := (okS_i.mp hN.2.2.2.2.1).1
  have hf := hN.2.2.2.2.2.1 kk .int n hs j hj
  rw [List.map_cons, List.map_cons, cv_r (nat_ne kk)]
  have hk := k p e R s m args below meth c cells slots Z H locs ls hS hc hR (hN.to fun h => okS_i.mpr ⟨hf, okS_r.mp (okS_i.mp h).2⟩)
  refine va_iald hS.1 hS.2.1 hS.2.2.2.2.2.2.2.1 hN.1 kk t0 hat ht0 (i3_vpin hin hi.1 (by omega)) hd ?_
  rw [i3_nat hin hi.1, show ((j : Nat) : Int).toNat = j from rfl]
  exact hk
theorem aw_baload {z i : Int} (hd : decode mi.2.1 pc = .ok (.baload, 1)) (hz : arT z .byte) (hi : 0 ≤ i ∧ i < alen z) (k : AW G d mi Q (pc + 1) L (vi (M z i) :: S) M) : AW G d mi Q pc L (vi i :: vr z :: S) M := by
  intro p e R s m args below meth c cells slots Z H locs ls hS hc hR hN
  obtain ⟨kk, n, rfl, hs, hl⟩ := arT_at hz
  have hat := wsOf_at (G := G) (M := M) hs
  obtain ⟨t0, ht0⟩ := tysOf_at (G := G) hs
  obtain ⟨j, rfl⟩ := Int.eq_ofNat_of_zero_le hi.1
  have hj : j < n := by have := hi.2; rw [hl] at this; omega
  have hin := (okS_i.mp hN.2.2.2.2.1).1
  have hf := hN.2.2.2.2.2.1 kk .byte n hs j hj
  rw [List.map_cons, List.map_cons, cv_r (nat_ne kk)]
  have hk := k p e R s m args below meth c cells slots Z H locs ls hS hc hR (hN.to fun h => okS_i.mpr ⟨⟨by have := hf.1; omega, by have := hf.2; omega⟩, okS_r.mp (okS_i.mp h).2⟩)
  refine va_bald hS.1 hS.2.1 hS.2.2.2.2.2.2.2.1 hN.1 kk t0 hat ht0 (i3_vpin hin hi.1 (by omega)) hd ?_
  rw [i3_nat hin hi.1, show ((j : Nat) : Int).toNat = j from rfl]
  exact hk
theorem aw_baloadZ {z i : Int} (hd : decode mi.2.1 pc = .ok (.baload, 1)) (hz : arT z .boolean) (hi : 0 ≤ i ∧ i < alen z) (k : AW G d mi Q (pc + 1) L (vi (M z i) :: S) M) : AW G d mi Q pc L (vi i :: vr z :: S) M := by
  intro p e R s m args below meth c cells slots Z H locs ls hS hc hR hN
  obtain ⟨kk, n, rfl, hs, hl⟩ := arT_at hz
  have hat := wsOf_at (G := G) (M := M) hs
  obtain ⟨t0, ht0⟩ := tysOf_at (G := G) hs
  obtain ⟨j, rfl⟩ := Int.eq_ofNat_of_zero_le hi.1
  have hj : j < n := by have := hi.2; rw [hl] at this; omega
  have hin := (okS_i.mp hN.2.2.2.2.1).1
  have hf := hN.2.2.2.2.2.1 kk .boolean n hs j hj
  rw [List.map_cons, List.map_cons, cv_r (nat_ne kk)]
  have hk := k p e R s m args below meth c cells slots Z H locs ls hS hc hR (hN.to fun h => okS_i.mpr ⟨(by rcases hf with h | h <;> rw [h] <;> exact ⟨by omega, by omega⟩), okS_r.mp (okS_i.mp h).2⟩)
  refine va_zald hS.1 hS.2.1 hS.2.2.2.2.2.2.2.1 hN.1 kk t0 hat ht0 (i3_vpin hin hi.1 (by omega)) hd ?_
  rw [i3_nat hin hi.1, show ((j : Nat) : Int).toNat = j from rfl]
  exact hk
theorem aw_laload {z i : Int} (hd : decode mi.2.1 pc = .ok (.laload, 1)) (hz : arT z .long) (hi : 0 ≤ i ∧ i < alen z) (k : AW G d mi Q (pc + 1) L (vl (M z i) :: S) M) : AW G d mi Q pc L (vi i :: vr z :: S) M := by
  intro p e R s m args below meth c cells slots Z H locs ls hS hc hR hN
  obtain ⟨kk, n, rfl, hs, hl⟩ := arT_at hz
  have hat := wsOf_at (G := G) (M := M) hs
  obtain ⟨t0, ht0⟩ := tysOf_at (G := G) hs
  obtain ⟨j, rfl⟩ := Int.eq_ofNat_of_zero_le hi.1
  have hj : j < n := by have := hi.2; rw [hl] at this; omega
  have hin := (okS_i.mp hN.2.2.2.2.1).1
  have hf := hN.2.2.2.2.2.1 kk .long n hs j hj
  rw [List.map_cons, List.map_cons, cv_r (nat_ne kk)]
  have hk := k p e R s m args below meth c cells slots Z H locs ls hS hc hR (hN.to fun h => okS_l.mpr ⟨hf, okS_r.mp (okS_i.mp h).2⟩)
  refine va_lald hS.1 hS.2.1 hS.2.2.2.2.2.2.2.1 hN.1 kk t0 hat ht0 (i3_vpin hin hi.1 (by omega)) hd ?_
  rw [i3_nat hin hi.1, show ((j : Nat) : Int).toNat = j from rfl]
  exact hk
theorem aw_iastore {z i x : Int} (hd : decode mi.2.1 pc = .ok (.iastore, 1)) (hz : arT z .int) (hi : 0 ≤ i ∧ i < alen z) (k : AW G d mi Q (pc + 1) L S (up M z i x)) : AW G d mi Q pc L (vi x :: vi i :: vr z :: S) M := by
  intro p e R s m args below meth c cells slots Z H locs ls hS hc hR hN
  obtain ⟨kk, n, rfl, hs, hl⟩ := arT_at hz
  have hat := wsOf_at (G := G) (M := M) hs
  obtain ⟨t0, ht0⟩ := tysOf_at (G := G) hs
  have hj : i < n := by have := hi.2; rw [hl] at this; exact this
  have h2 := (okS_i.mp hN.2.2.2.2.1).2
  have hin := (okS_i.mp h2).1
  rw [List.map_cons, List.map_cons, List.map_cons, cv_r (nat_ne kk)]
  refine va_iast hS.1 hS.2.1 hS.2.2.2.2.2.2.2.1 hN.1 (wsOf_D hS.2.2.2.2.2.2.2.2.2) hN.2.1 kk t0 hat ht0 (i3_vpin hin hi.1 hj) hd (fun H1 locs1 hP1 _ hS1 => ?_)
  rw [i3_nat hin hi.1, arr_i hi.1] at hP1
  have hP2 := (wsOf_set (G := G) (M := M) (M' := up M kk i x) hs up_other) ▸ hP1
  exact k p e R s m args below meth c cells slots Z H1 locs1 ls hS hc hR ⟨hP2, hS1, hN.2.2.1, hN.2.2.2.1, okS_r.mp (okS_i.mp h2).2, okM_arr hN.2.2.2.2.2 hs (okS_i.mp hN.2.2.2.2.1).1 hi.1⟩
theorem aw_bastore {z i x : Int} (hd : decode mi.2.1 pc = .ok (.bastore, 1)) (hz : arT z .byte) (hi : 0 ≤ i ∧ i < alen z) (hx : -128 ≤ x ∧ x ≤ 127) (k : AW G d mi Q (pc + 1) L S (up M z i x)) : AW G d mi Q pc L (vi x :: vi i :: vr z :: S) M := by
  intro p e R s m args below meth c cells slots Z H locs ls hS hc hR hN
  obtain ⟨kk, n, rfl, hs, hl⟩ := arT_at hz
  have hat := wsOf_at (G := G) (M := M) hs
  obtain ⟨t0, ht0⟩ := tysOf_at (G := G) hs
  have hj : i < n := by have := hi.2; rw [hl] at this; exact this
  have h2 := (okS_i.mp hN.2.2.2.2.1).2
  have hin := (okS_i.mp h2).1
  rw [List.map_cons, List.map_cons, List.map_cons, cv_r (nat_ne kk)]
  have hnar : vp_nar .byte (i3 x) = i3 x := by
    have := (fit_cvT (G := G) (ty := .byte) (x := x) hx).1
    unfold vp_nar
    rw [show narrow .byte (.int (i3 x)) = .int (i3 x) from this]
  refine va_bast hS.1 hS.2.1 hS.2.2.2.2.2.2.2.1 hN.1 (wsOf_D hS.2.2.2.2.2.2.2.2.2) hN.2.1 kk t0 hat ht0 (i3_vpin hin hi.1 hj) hd (fun H1 locs1 hP1 _ hS1 => ?_)
  rw [hnar, i3_nat hin hi.1, arr_i hi.1] at hP1
  have hP2 := (wsOf_set (G := G) (M := M) (M' := up M kk i x) hs up_other) ▸ hP1
  exact k p e R s m args below meth c cells slots Z H1 locs1 ls hS hc hR ⟨hP2, hS1, hN.2.2.1, hN.2.2.2.1, okS_r.mp (okS_i.mp h2).2, okM_arr hN.2.2.2.2.2 hs hx hi.1⟩
theorem aw_bastoreZ {z i x : Int} (hd : decode mi.2.1 pc = .ok (.bastore, 1)) (hz : arT z .boolean) (hi : 0 ≤ i ∧ i < alen z) (hx : x = 0 ∨ x = 1) (k : AW G d mi Q (pc + 1) L S (up M z i x)) : AW G d mi Q pc L (vi x :: vi i :: vr z :: S) M := by
  intro p e R s m args below meth c cells slots Z H locs ls hS hc hR hN
  obtain ⟨kk, n, rfl, hs, hl⟩ := arT_at hz
  have hat := wsOf_at (G := G) (M := M) hs
  obtain ⟨t0, ht0⟩ := tysOf_at (G := G) hs
  have hj : i < n := by have := hi.2; rw [hl] at this; exact this
  have h2 := (okS_i.mp hN.2.2.2.2.1).2
  have hin := (okS_i.mp h2).1
  rw [List.map_cons, List.map_cons, List.map_cons, cv_r (nat_ne kk)]
  have hnar : vp_nar .boolean (i3 x) = i3 x := by
    have := (fit_cvT (G := G) (ty := .boolean) (x := x) hx).1
    unfold vp_nar
    rw [show narrow .boolean (.int (i3 x)) = .int (i3 x) from this]
  refine va_zast hS.1 hS.2.1 hS.2.2.2.2.2.2.2.1 hN.1 (wsOf_D hS.2.2.2.2.2.2.2.2.2) hN.2.1 kk t0 hat ht0 (i3_vpin hin hi.1 hj) hd (fun H1 locs1 hP1 _ hS1 => ?_)
  rw [hnar, i3_nat hin hi.1, arr_i hi.1] at hP1
  have hP2 := (wsOf_set (G := G) (M := M) (M' := up M kk i x) hs up_other) ▸ hP1
  exact k p e R s m args below meth c cells slots Z H1 locs1 ls hS hc hR ⟨hP2, hS1, hN.2.2.1, hN.2.2.2.1, okS_r.mp (okS_i.mp h2).2, okM_arr hN.2.2.2.2.2 hs hx hi.1⟩
theorem aw_lastore {z i x : Int} (hd : decode mi.2.1 pc = .ok (.lastore, 1)) (hz : arT z .long) (hi : 0 ≤ i ∧ i < alen z) (k : AW G d mi Q (pc + 1) L S (up M z i x)) : AW G d mi Q pc L (vl x :: vi i :: vr z :: S) M := by
  intro p e R s m args below meth c cells slots Z H locs ls hS hc hR hN
  obtain ⟨kk, n, rfl, hs, hl⟩ := arT_at hz
  have hat := wsOf_at (G := G) (M := M) hs
  obtain ⟨t0, ht0⟩ := tysOf_at (G := G) hs
  have hj : i < n := by have := hi.2; rw [hl] at this; exact this
  have h2 := (okS_l.mp hN.2.2.2.2.1).2
  have hin := (okS_i.mp h2).1
  rw [List.map_cons, List.map_cons, List.map_cons, cv_r (nat_ne kk)]
  refine va_last hS.1 hS.2.1 hS.2.2.2.2.2.2.2.1 hN.1 (wsOf_D hS.2.2.2.2.2.2.2.2.2) hN.2.1 kk t0 hat ht0 (i3_vpin hin hi.1 hj) hd (fun H1 locs1 hP1 _ hS1 => ?_)
  rw [i3_nat hin hi.1, arr_l hi.1] at hP1
  have hP2 := (wsOf_set (G := G) (M := M) (M' := up M kk i x) hs up_other) ▸ hP1
  exact k p e R s m args below meth c cells slots Z H1 locs1 ls hS hc hR ⟨hP2, hS1, hN.2.2.1, hN.2.2.2.1, okS_r.mp (okS_i.mp h2).2, okM_arr hN.2.2.2.2.2 hs (okS_l.mp hN.2.2.2.2.1).1 hi.1⟩
theorem aw_aaload {z i : Int} {ci : Nat} (hd : decode mi.2.1 pc = .ok (.aaload, 1)) (hz : arR z ci) (hi : 0 ≤ i ∧ i < alen z) (k : AW G d mi Q (pc + 1) L (vr (M z i) :: S) M) : AW G d mi Q pc L (vi i :: vr z :: S) M := by
  intro p e R s m args below meth c cells slots Z H locs ls hS hc hR hN
  obtain ⟨kk, n, rfl, hs, hl⟩ := arT_at hz
  have hat := wsOf_at (G := G) (M := M) hs
  obtain ⟨t0, ht0⟩ := tysOf_at (G := G) hs
  obtain ⟨j, rfl⟩ := Int.eq_ofNat_of_zero_le hi.1
  have hj : j < n := by have := hi.2; rw [hl] at this; omega
  have hin := (okS_i.mp hN.2.2.2.2.1).1
  rw [List.map_cons, List.map_cons, cv_r (nat_ne kk)]
  have hk := k p e R s m args below meth c cells slots Z H locs ls hS hc hR (hN.to fun h => okS_r.mpr (okS_r.mp (okS_i.mp h).2))
  refine va_aldq hS.1 hS.2.1 hS.2.2.2.2.2.2.2.1 hN.1 kk t0 hat ht0 (i3_vpin hin hi.1 (by omega)) hd ?_
  rw [i3_nat hin hi.1, show ((j : Nat) : Int).toNat = j from rfl]
  exact hk
theorem aw_aastore {z i x : Int} {ci : Nat} (hd : decode mi.2.1 pc = .ok (.aastore, 1)) (hz : arR z ci) (hx : isO x ci) (hi : 0 ≤ i ∧ i < alen z) (k : AW G d mi Q (pc + 1) L S (up M z i x)) : AW G d mi Q pc L (vr x :: vi i :: vr z :: S) M := by
  intro p e R s m args below meth c cells slots Z H locs ls hS hc hR hN
  obtain ⟨kk, n, rfl, hs, hl⟩ := arT_at hz
  obtain ⟨kx, rfl, hsx⟩ := isO_at hx
  have hat := wsOf_at (G := G) (M := M) hs
  have hatx := wsOf_at (G := G) (M := M) hsx
  obtain ⟨t0, ht0⟩ := tysOf_at (G := G) hs
  obtain ⟨q, hq⟩ := vcl_get (shO_lt hsx)
  have hcn : cname ci = q.1 := by unfold cname; rw [hq]
  rw [hcn] at ht0
  have hj : i < n := by have := hi.2; rw [hl] at this; exact this
  have h2 := okS_r.mp hN.2.2.2.2.1
  have hin := (okS_i.mp h2).1
  rw [List.map_cons, List.map_cons, List.map_cons, cv_r (nat_ne kk), cv_r (nat_ne kx)]
  refine va_astq hS.1 hS.2.1 hS.2.2.2.2.2.2.2.1 hN.1 (wsOf_D hS.2.2.2.2.2.2.2.2.2) hN.2.1 kk t0 kx ci hat ht0 hatx hq (i3_vpin hin hi.1 hj) hd (fun H1 locs1 hP1 _ hS1 => ?_)
  rw [i3_nat hin hi.1, show some (G.2.2.1 (kx : Int)) = adr G kx by simp [adr, nat_ne kx], arr_q hi.1] at hP1
  have hP2 := (wsOf_set (G := G) (M := M) (M' := up M kk i kx) hs up_other) ▸ hP1
  exact k p e R s m args below meth c cells slots Z H1 locs1 ls hS hc hR ⟨hP2, hS1, hN.2.2.1, hN.2.2.2.1, okS_r.mp (okS_i.mp h2).2, okM_arr hN.2.2.2.2.2 hs trivial hi.1⟩
theorem aw_alen {z : Int} (hd : decode mi.2.1 pc = .ok (.arraylength, 1)) (hz : isArr z) (k : AW G d mi Q (pc + 1) L (vi (alen z) :: S) M) : AW G d mi Q pc L (vr z :: S) M := by
  intro p e R s m args below meth c cells slots Z H locs ls hS hc hR hN
  obtain ⟨ty, hz⟩ := hz
  obtain ⟨kk, n, rfl, hs, hl⟩ := arT_at hz
  have hat := wsOf_at (G := G) (M := M) hs
  obtain ⟨t0, ht0⟩ := tysOf_at (G := G) hs
  have hn : n ≤ 100000 := by
    have h2 : shL.all (fun s => match s with
      | .inl (_, n) => decide (n ≤ 100000)
      | _ => true) = true := by decide +kernel
    simpa using List.all_eq_true.mp h2 _ (List.mem_of_getElem? hs)
  rw [List.map_cons, cv_r (nat_ne kk)]
  exact va_alen hS.1 hS.2.1 hS.2.2.2.2.2.2.2.1 hN.1 kk t0 hat ht0 (by rw [hl]; rfl) hd (k p e R s m args below meth c cells slots Z H locs ls hS hc hR (hN.to fun h => okS_i.mpr ⟨by rw [hl]; exact ⟨by omega, by omega⟩, okS_r.mp h⟩))
theorem romP_in : ∀ i : Nat, i < 6 → inI (romA (-2) i) := by
  intro i hi
  have : ∀ j : Fin 6, -2147483648 ≤ romA (-2) j.val ∧ romA (-2) j.val < 2147483648 := by decide +kernel
  exact this ⟨i, hi⟩
theorem aw_power {i : Int} (hd : decode mi.2.1 pc = .ok (.iaload, 1)) (hi : 0 ≤ i ∧ i < 6) (k : AW G d mi Q (pc + 1) L (vi (romA (-2) i) :: S) M) : AW G d mi Q pc L (vi i :: vr (-2) :: S) M := by
  intro p e R s m args below meth c cells slots Z H locs ls hS hc hR hN
  have hin := (okS_i.mp hN.2.2.2.2.1).1
  obtain ⟨j, rfl⟩ := Int.eq_ofNat_of_zero_le hi.1
  rw [List.map_cons, List.map_cons, cv_r (by omega)]
  refine va_ti hS.1 hS.2.1 (hS.2.2.2.2.2.2.2.2.1).2.1 hN.2.1 (i3_vpin hin hi.1 hi.2) rfl hd ?_
  rw [i3_nat hin hi.1, show ((j : Nat) : Int).toNat = j from rfl]
  exact k p e R s m args below meth c cells slots Z H locs ls hS hc hR (hN.to fun h => okS_i.mpr ⟨romP_in j (by omega), okS_r.mp (okS_i.mp h).2⟩)
theorem aw_script {i : Int} (hd : decode mi.2.1 pc = .ok (.iaload, 1)) (hi : 0 ≤ i ∧ i < G.2.2.2.2.1.2.1) (k : AW G d mi Q (pc + 1) L (vi (G.2.2.2.2.1.2.2 i.toNat).toInt :: S) M) : AW G d mi Q pc L (vi i :: vr (-50) :: S) M := by
  intro p e R s m args below meth c cells slots Z H locs ls hS hc hR hN
  have hin := (okS_i.mp hN.2.2.2.2.1).1
  obtain ⟨-, -, -, -, -, -, h7, h8, h9, -⟩ := hS.2.2.2.2.2.2.2.2.1
  rw [List.map_cons, List.map_cons, cv_r (by omega)]
  refine va_sld hS.1 hS.2.1 h7 h8 h9 hN.2.1 (i3_vpin hin hi.1 hi.2) hd ?_
  rw [i3_nat hin hi.1]
  have hk := k p e R s m args below meth c cells slots Z H locs ls hS hc hR (hN.to fun h => okS_i.mpr ⟨i3_in _, okS_r.mp (okS_i.mp h).2⟩)
  rw [List.map_cons, show cv G (vi (G.2.2.2.2.1.2.2 i.toNat).toInt) = .int (G.2.2.2.2.1.2.2 i.toNat) from by show Value.int (i3 _) = _; rw [i3_of]] at hk
  exact hk
theorem aw_scriptlen (hd : decode mi.2.1 pc = .ok (.arraylength, 1)) (k : AW G d mi Q (pc + 1) L (vi G.2.2.2.2.1.2.1 :: S) M) : AW G d mi Q pc L (vr (-50) :: S) M := by
  intro p e R s m args below meth c cells slots Z H locs ls hS hc hR hN
  obtain ⟨-, -, -, -, -, -, h7, h8, h9, h10⟩ := hS.2.2.2.2.2.2.2.2.1
  rw [List.map_cons, cv_r (by omega)]
  exact va_slen hS.1 hS.2.1 h7 h8 h9 hN.2.1 hd (k p e R s m args below meth c cells slots Z H locs ls hS hc hR (hN.to fun h => okS_i.mpr ⟨⟨by omega, by omega⟩, okS_r.mp h⟩))
theorem romS_in : ∀ i : Nat, i < 4 → ∀ j : Nat, -128 ≤ romA (-20 - i) j ∧ romA (-20 - i) j ≤ 127 := by
  intro i hi j
  have h : ∀ i : Fin 4, (romL (-20 - i.val)).all (fun x => decide (-128 ≤ x ∧ x ≤ 127)) = true := by decide +kernel
  have h2 := List.all_eq_true.mp (h ⟨i, hi⟩)
  unfold romA
  rw [List.getD_eq_getElem?_getD]
  cases hx : (romL (-20 - i))[((j : Nat) : Int).toNat]? with
  | none => simp
  | some x => simpa using h2 x (List.mem_of_getElem? hx)
theorem romS_len : ∀ i : Nat, i < 4 → (romL (-20 - i)).length ≤ 200 := by
  intro i hi
  have : ∀ i : Fin 4, (romL (-20 - i.val)).length ≤ 200 := by decide +kernel
  exact this ⟨i, hi⟩
theorem aw_romb {z i : Int} (hd : decode mi.2.1 pc = .ok (.baload, 1)) (hz : -23 ≤ z ∧ z ≤ -20) (hi : 0 ≤ i ∧ i < romN z) (k : AW G d mi Q (pc + 1) L (vi (romA z i) :: S) M) : AW G d mi Q pc L (vi i :: vr z :: S) M := by
  intro p e R s m args below meth c cells slots Z H locs ls hS hc hR hN
  have hin := (okS_i.mp hN.2.2.2.2.1).1
  obtain ⟨j, rfl⟩ := Int.eq_ofNat_of_zero_le hi.1
  obtain ⟨n, hn, rfl⟩ : ∃ n : Nat, n < 4 ∧ z = -20 - n := ⟨(-20 - z).toNat, by omega, by omega⟩
  rw [List.map_cons, List.map_cons, cv_r (by omega)]
  refine va_tb hS.1 hS.2.1 ((hS.2.2.2.2.2.2.2.2.1).2.2.2.2.1 n hn).2.2.2 hN.2.1 (i3_vpin hin hi.1 hi.2) rfl hd ?_
  rw [i3_nat hin hi.1, show ((j : Nat) : Int).toNat = j from rfl]
  exact k p e R s m args below meth c cells slots Z H locs ls hS hc hR (hN.to fun h => okS_i.mpr ⟨⟨by have := (romS_in n hn j).1; omega, by have := (romS_in n hn j).2; omega⟩, okS_r.mp (okS_i.mp h).2⟩)
theorem aw_romlen {z : Int} (hd : decode mi.2.1 pc = .ok (.arraylength, 1)) (hz : -23 ≤ z ∧ z ≤ -20) (k : AW G d mi Q (pc + 1) L (vi (romN z) :: S) M) : AW G d mi Q pc L (vr z :: S) M := by
  intro p e R s m args below meth c cells slots Z H locs ls hS hc hR hN
  obtain ⟨n, hn, rfl⟩ : ∃ n : Nat, n < 4 ∧ z = -20 - n := ⟨(-20 - z).toNat, by omega, by omega⟩
  have hl := romS_len n hn
  rw [List.map_cons, cv_r (by omega)]
  exact va_tlen hS.1 hS.2.1 ((hS.2.2.2.2.2.2.2.2.1).2.2.2.2.1 n hn).2.2.2 hN.2.1 rfl hd (k p e R s m args below meth c cells slots Z H locs ls hS hc hR (hN.to fun h => okS_i.mpr ⟨by unfold romN; exact ⟨by omega, by omega⟩, okS_r.mp h⟩))
theorem aw_strval {z : Int} {ix : Nat} (hd : decode mi.2.1 pc = .ok (.getfield ix, 3)) (hz : -13 ≤ z ∧ z ≤ -10) (hw : Jvm.Cond.fieldLink mi.1.cls ix "java/lang/String" "value" "[B" ∈ TG) (k : AW G d mi Q (pc + 3) L (vr (z - 10) :: S) M) : AW G d mi Q pc L (vr z :: S) M := by
  intro p e R s m args below meth c cells slots Z H locs ls hS hc hR hN
  obtain ⟨n, hn, rfl⟩ : ∃ n : Nat, n < 4 ∧ z = -10 - n := ⟨(-10 - z).toNat, by omega, by omega⟩
  rw [List.map_cons, cv_r (by omega)]
  refine vk_getf hS.1 hS.2.1 ((hS.2.2.2.2.2.2.2.2.1).2.2.2.2.1 n hn).2.2.1 hN.2.1 hS.2.2.2.1 (hS.2.2.2.2.1 _ hw) (fun _ h => h) hd ?_
  have hk := k p e R s m args below meth c cells slots Z H locs ls hS hc hR (hN.to fun h => okS_r.mpr (okS_r.mp h))
  rw [List.map_cons, cv_r (by omega), show (-10 - (n : Int) - 10) = -20 - n by omega] at hk
  exact hk
theorem aw_strcod {z : Int} {ix : Nat} (hd : decode mi.2.1 pc = .ok (.getfield ix, 3)) (hz : -13 ≤ z ∧ z ≤ -10) (hw : Jvm.Cond.fieldLink mi.1.cls ix "java/lang/String" "coder" "B" ∈ TG) (k : AW G d mi Q (pc + 3) L (vi 0 :: S) M) : AW G d mi Q pc L (vr z :: S) M := by
  intro p e R s m args below meth c cells slots Z H locs ls hS hc hR hN
  obtain ⟨n, hn, rfl⟩ : ∃ n : Nat, n < 4 ∧ z = -10 - n := ⟨(-10 - z).toNat, by omega, by omega⟩
  rw [List.map_cons, cv_r (by omega)]
  exact vk_getf hS.1 hS.2.1 ((hS.2.2.2.2.2.2.2.2.1).2.2.2.2.1 n hn).2.1 hN.2.1 hS.2.2.2.1 (hS.2.2.2.2.1 _ hw) (fun _ h => h) hd (k p e R s m args below meth c cells slots Z H locs ls hS hc hR (hN.to fun h => okS_i.mpr ⟨in0, okS_r.mp h⟩))
theorem aw_ldcs {ix n : Nat} {v : Int} (hd : decode mi.2.1 pc = .ok (.ldc ix, 2)) (hn : n < 4) (hv : v = -10 - n) (ho : mi.1.cls = romO n) (hx : ix = romK n) (k : AW G d mi Q (pc + 2) L (vr v :: S) M) : AW G d mi Q pc L S M := by
  intro p e R s m args below meth c cells slots Z H locs ls hS hc hR hN
  subst hv
  have hr := (hS.2.2.2.2.2.2.2.2.1).2.2.2.2.2.1.1 n hn
  rw [← ho, ← hx] at hr
  refine va_ldcS hS.1 hS.2.1 hS.2.2.2.1 hr hd ?_
  have hk := k p e R s m args below meth c cells slots Z H locs ls hS hc hR (hN.to fun h => okS_r.mpr h)
  rw [List.map_cons, cv_r (by omega)] at hk
  exact hk
theorem aw_gets0 {ix : Nat} (hd : decode mi.2.1 pc = .ok (.getstatic ix, 3)) (hw : Jvm.Cond.fieldLink mi.1.cls ix "HandsHeld" "POWER" "[I" ∈ TG ∨ ∃ host, Jvm.Cond.fieldLinkNest mi.1.cls ix "HandsHeld" "POWER" "[I" host ∈ lw_tbl) (k : AW G d mi Q (pc + 3) L (vr (-2) :: S) M) : AW G d mi Q pc L S M := by
  intro p e R s m args below meth c cells slots Z H locs ls hS hc hR hN
  have hk := k p e R s m args below meth c cells slots Z H locs ls hS hc hR (hN.to fun h => okS_r.mpr h)
  rw [List.map_cons, cv_r (by omega)] at hk
  rcases hw with hw | ⟨host, hw⟩
  · exact va_gets hS.1 hS.2.1 (hS.2.2.2.2.2.2.2.2.1).1 hN.2.1 hS.2.2.2.1 (hS.2.2.2.2.1 _ hw) (fun _ h => h) hd hk
  · exact va_getsN hS.1 hS.2.1 (hS.2.2.2.2.2.2.2.2.1).1 hN.2.1 hS.2.2.2.1 (va_Nw.use rfl ((hS.2.2.2.2.2.2.2.2.1).2.2.2.2.2.1.2 _ hw rfl)) (fun _ h => h) hd hk
theorem aw_gets1 {ix : Nat} (hd : decode mi.2.1 pc = .ok (.getstatic ix, 3)) (hw : Jvm.Cond.fieldLink mi.1.cls ix "java/lang/String" "COMPACT_STRINGS" "Z" ∈ TG) (k : AW G d mi Q (pc + 3) L (vi 1 :: S) M) : AW G d mi Q pc L S M := by
  intro p e R s m args below meth c cells slots Z H locs ls hS hc hR hN
  exact va_gets hS.1 hS.2.1 (hS.2.2.2.2.2.2.2.2.1).2.2.1 hN.2.1 hS.2.2.2.1 (hS.2.2.2.2.1 _ hw) (fun _ h => h) hd (k p e R s m args below meth c cells slots Z H locs ls hS hc hR (hN.to fun h => okS_i.mpr ⟨⟨by omega, by omega⟩, h⟩))
theorem aw_gets2 {ix : Nat} (hd : decode mi.2.1 pc = .ok (.getstatic ix, 3)) (hw : Jvm.Cond.fieldLink mi.1.cls ix "jdk/internal/util/Preconditions" "SIOOBE_FORMATTER" "Ljava/util/function/BiFunction;" ∈ TG) (k : AW G d mi Q (pc + 3) L (vr G.2.2.2.2.2 :: S) M) : AW G d mi Q pc L S M := by
  intro p e R s m args below meth c cells slots Z H locs ls hS hc hR hN
  exact va_gets hS.1 hS.2.1 (hS.2.2.2.2.2.2.2.2.1).2.2.2.1 hN.2.1 hS.2.2.2.1 (hS.2.2.2.2.1 _ hw) (fun _ h => h) hd (k p e R s m args below meth c cells slots Z H locs ls hS hc hR (hN.to fun h => okS_r.mpr h))
end AWR
