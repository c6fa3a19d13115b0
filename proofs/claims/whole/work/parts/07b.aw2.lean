/-! arithmetic, branches, the stack -/
section AWR
variable {G : AG} {d : Nat} {mi : MI} {Q : Option AV → AM → Prop} {pc : Nat} {L : AL} {S : List AV} {M : AM}
theorem ab_idiv {a b : Int} (ha : inI a) (h0 : 0 ≤ a) (h1 : 0 < b) : inI (a / b) := by
  have h2 : a / b ≤ a := Int.ediv_le_self b h0
  have h3 : 0 ≤ a / b := Int.ediv_nonneg h0 (Int.le_of_lt h1)
  have := ha.2
  exact ⟨by omega, by omega⟩
theorem ab_irem {a b : Int} (ha : inI a) (h0 : 0 ≤ a) (h1 : 0 < b) : inI (a % b) := by
  have h2 : a % b ≤ a := by
    have q1 := Int.emod_add_mul_ediv a b
    have q2 := Int.mul_nonneg (Int.le_of_lt h1) (Int.ediv_nonneg h0 (Int.le_of_lt h1))
    omega
  have h3 : 0 ≤ a % b := Int.emod_nonneg a (by omega)
  have := ha.2
  exact ⟨by omega, by omega⟩
theorem ab_ldiv {a b : Int} (ha : inL a) (h0 : 0 ≤ a) (h1 : 0 < b) : inL (a / b) := by
  have h2 : a / b ≤ a := Int.ediv_le_self b h0
  have h3 : 0 ≤ a / b := Int.ediv_nonneg h0 (Int.le_of_lt h1)
  have := ha.2
  exact ⟨by omega, by omega⟩
theorem ab_lrem {a b : Int} (ha : inL a) (h0 : 0 ≤ a) (h1 : 0 < b) : inL (a % b) := by
  have h2 : a % b ≤ a := by
    have q1 := Int.emod_add_mul_ediv a b
    have q2 := Int.mul_nonneg (Int.le_of_lt h1) (Int.ediv_nonneg h0 (Int.le_of_lt h1))
    omega
  have h3 : 0 ≤ a % b := Int.emod_nonneg a (by omega)
  have := ha.2
  exact ⟨by omega, by omega⟩
theorem aw_iadd {a b : Int} (hd : decode mi.2.1 pc = .ok (.iadd, 1)) (hr : inI (a + b)) (k : AW G d mi Q (pc + 1) L (vi (a + b) :: S) M) : AW G d mi Q pc L (vi b :: vi a :: S) M := by
  intro p e R s m args below meth c cells slots Z H locs ls hS hc hR hN
  refine lv_iadd hS.1 hS.2.1 hd ?_
  rw [i3_add]
  exact (k p e R s m args below meth c cells slots Z H locs ls hS hc hR (hN.to fun h => okS_i.mpr ⟨hr, (okS_i.mp (okS_i.mp h).2).2⟩))
theorem aw_iaddW {a b : Int} (hd : decode mi.2.1 pc = .ok (.iadd, 1)) (k : AW G d mi Q (pc + 1) L (vi (w3 (a + b)) :: S) M) : AW G d mi Q pc L (vi b :: vi a :: S) M := by
  intro p e R s m args below meth c cells slots Z H locs ls hS hc hR hN
  refine lv_iadd hS.1 hS.2.1 hd ?_
  rw [i3_add, ← i3_of (i3 (a + b))]
  exact (k p e R s m args below meth c cells slots Z H locs ls hS hc hR (hN.to fun h => okS_i.mpr ⟨i3_in _, (okS_i.mp (okS_i.mp h).2).2⟩))
theorem aw_isub {a b : Int} (hd : decode mi.2.1 pc = .ok (.isub, 1)) (hr : inI (a - b)) (k : AW G d mi Q (pc + 1) L (vi (a - b) :: S) M) : AW G d mi Q pc L (vi b :: vi a :: S) M := by
  intro p e R s m args below meth c cells slots Z H locs ls hS hc hR hN
  refine lv_isub hS.1 hS.2.1 hd ?_
  rw [i3_sub]
  exact (k p e R s m args below meth c cells slots Z H locs ls hS hc hR (hN.to fun h => okS_i.mpr ⟨hr, (okS_i.mp (okS_i.mp h).2).2⟩))
theorem aw_isubW {a b : Int} (hd : decode mi.2.1 pc = .ok (.isub, 1)) (k : AW G d mi Q (pc + 1) L (vi (w3 (a - b)) :: S) M) : AW G d mi Q pc L (vi b :: vi a :: S) M := by
  intro p e R s m args below meth c cells slots Z H locs ls hS hc hR hN
  refine lv_isub hS.1 hS.2.1 hd ?_
  rw [i3_sub, ← i3_of (i3 (a - b))]
  exact (k p e R s m args below meth c cells slots Z H locs ls hS hc hR (hN.to fun h => okS_i.mpr ⟨i3_in _, (okS_i.mp (okS_i.mp h).2).2⟩))
theorem aw_imul {a b : Int} (hd : decode mi.2.1 pc = .ok (.imul, 1)) (hr : inI (a * b)) (k : AW G d mi Q (pc + 1) L (vi (a * b) :: S) M) : AW G d mi Q pc L (vi b :: vi a :: S) M := by
  intro p e R s m args below meth c cells slots Z H locs ls hS hc hR hN
  refine lv_imul hS.1 hS.2.1 hd ?_
  rw [i3_mul]
  exact (k p e R s m args below meth c cells slots Z H locs ls hS hc hR (hN.to fun h => okS_i.mpr ⟨hr, (okS_i.mp (okS_i.mp h).2).2⟩))
theorem aw_imulW {a b : Int} (hd : decode mi.2.1 pc = .ok (.imul, 1)) (k : AW G d mi Q (pc + 1) L (vi (w3 (a * b)) :: S) M) : AW G d mi Q pc L (vi b :: vi a :: S) M := by
  intro p e R s m args below meth c cells slots Z H locs ls hS hc hR hN
  refine lv_imul hS.1 hS.2.1 hd ?_
  rw [i3_mul, ← i3_of (i3 (a * b))]
  exact (k p e R s m args below meth c cells slots Z H locs ls hS hc hR (hN.to fun h => okS_i.mpr ⟨i3_in _, (okS_i.mp (okS_i.mp h).2).2⟩))
theorem aw_idiv {a b : Int} (hd : decode mi.2.1 pc = .ok (.idiv, 1)) (h0 : 0 ≤ a) (h1 : 0 < b) (k : AW G d mi Q (pc + 1) L (vi (a / b) :: S) M) : AW G d mi Q pc L (vi b :: vi a :: S) M := by
  intro p e R s m args below meth c cells slots Z H locs ls hS hc hR hN
  have hb := (okS_i.mp hN.2.2.2.2.1).1
  have ha := (okS_i.mp (okS_i.mp hN.2.2.2.2.1).2).1
  refine lv_idiv hS.1 hS.2.1 hd (fun q => ?_) ?_
  · rw [show (0 : Int32) = i3 0 from rfl, i3_eq hb in0] at q; omega
  · rw [i3_div ha hb h0 h1]
    exact (k p e R s m args below meth c cells slots Z H locs ls hS hc hR (hN.to fun h => okS_i.mpr ⟨ab_idiv ha h0 h1, (okS_i.mp (okS_i.mp h).2).2⟩))
theorem aw_irem {a b : Int} (hd : decode mi.2.1 pc = .ok (.irem, 1)) (h0 : 0 ≤ a) (h1 : 0 < b) (k : AW G d mi Q (pc + 1) L (vi (a % b) :: S) M) : AW G d mi Q pc L (vi b :: vi a :: S) M := by
  intro p e R s m args below meth c cells slots Z H locs ls hS hc hR hN
  have hb := (okS_i.mp hN.2.2.2.2.1).1
  have ha := (okS_i.mp (okS_i.mp hN.2.2.2.2.1).2).1
  refine lv_irem hS.1 hS.2.1 hd (fun q => ?_) ?_
  · rw [show (0 : Int32) = i3 0 from rfl, i3_eq hb in0] at q; omega
  · rw [i3_rem ha hb h0 h1]
    exact (k p e R s m args below meth c cells slots Z H locs ls hS hc hR (hN.to fun h => okS_i.mpr ⟨ab_irem ha h0 h1, (okS_i.mp (okS_i.mp h).2).2⟩))
theorem aw_ineg {a : Int} (hd : decode mi.2.1 pc = .ok (.ineg, 1)) (hr : inI (-a)) (k : AW G d mi Q (pc + 1) L (vi (-a) :: S) M) : AW G d mi Q pc L (vi a :: S) M := by
  intro p e R s m args below meth c cells slots Z H locs ls hS hc hR hN
  refine lv_ineg hS.1 hS.2.1 hd ?_
  rw [i3_neg]
  exact (k p e R s m args below meth c cells slots Z H locs ls hS hc hR (hN.to fun h => okS_i.mpr ⟨hr, (okS_i.mp h).2⟩))
theorem aw_iand {a b : Int} (hd : decode mi.2.1 pc = .ok (.iand, 1)) (k : AW G d mi Q (pc + 1) L (vi (bAnd a b) :: S) M) : AW G d mi Q pc L (vi b :: vi a :: S) M := by
  intro p e R s m args below meth c cells slots Z H locs ls hS hc hR hN
  refine lv_iand hS.1 hS.2.1 hd ?_
  have := (k p e R s m args below meth c cells slots Z H locs ls hS hc hR (hN.to fun h => okS_i.mpr ⟨i3_in _, (okS_i.mp (okS_i.mp h).2).2⟩))
  unfold bAnd at this
  simpa only [List.map_cons, cv, i3_of] using this
theorem aw_ior {a b : Int} (hd : decode mi.2.1 pc = .ok (.ior, 1)) (k : AW G d mi Q (pc + 1) L (vi (bOr a b) :: S) M) : AW G d mi Q pc L (vi b :: vi a :: S) M := by
  intro p e R s m args below meth c cells slots Z H locs ls hS hc hR hN
  refine lv_ior hS.1 hS.2.1 hd ?_
  have := (k p e R s m args below meth c cells slots Z H locs ls hS hc hR (hN.to fun h => okS_i.mpr ⟨i3_in _, (okS_i.mp (okS_i.mp h).2).2⟩))
  unfold bOr at this
  simpa only [List.map_cons, cv, i3_of] using this
theorem aw_ixor {a b : Int} (hd : decode mi.2.1 pc = .ok (.ixor, 1)) (k : AW G d mi Q (pc + 1) L (vi (bXor a b) :: S) M) : AW G d mi Q pc L (vi b :: vi a :: S) M := by
  intro p e R s m args below meth c cells slots Z H locs ls hS hc hR hN
  refine lv_ixor hS.1 hS.2.1 hd ?_
  have := (k p e R s m args below meth c cells slots Z H locs ls hS hc hR (hN.to fun h => okS_i.mpr ⟨i3_in _, (okS_i.mp (okS_i.mp h).2).2⟩))
  unfold bXor at this
  simpa only [List.map_cons, cv, i3_of] using this
theorem aw_ishl {a b : Int} (hd : decode mi.2.1 pc = .ok (.ishl, 1)) (k : AW G d mi Q (pc + 1) L (vi (bShl a b) :: S) M) : AW G d mi Q pc L (vi b :: vi a :: S) M := by
  intro p e R s m args below meth c cells slots Z H locs ls hS hc hR hN
  refine lv_ishl hS.1 hS.2.1 hd ?_
  have := (k p e R s m args below meth c cells slots Z H locs ls hS hc hR (hN.to fun h => okS_i.mpr ⟨i3_in _, (okS_i.mp (okS_i.mp h).2).2⟩))
  unfold bShl at this
  simpa only [List.map_cons, cv, i3_of] using this
theorem aw_ishr {a b : Int} (hd : decode mi.2.1 pc = .ok (.ishr, 1)) (k : AW G d mi Q (pc + 1) L (vi (bShr a b) :: S) M) : AW G d mi Q pc L (vi b :: vi a :: S) M := by
  intro p e R s m args below meth c cells slots Z H locs ls hS hc hR hN
  refine lv_ishr hS.1 hS.2.1 hd ?_
  have := (k p e R s m args below meth c cells slots Z H locs ls hS hc hR (hN.to fun h => okS_i.mpr ⟨i3_in _, (okS_i.mp (okS_i.mp h).2).2⟩))
  unfold bShr at this
  simpa only [List.map_cons, cv, i3_of] using this
theorem aw_iushr {a b : Int} (hd : decode mi.2.1 pc = .ok (.iushr, 1)) (k : AW G d mi Q (pc + 1) L (vi (bUshr a b) :: S) M) : AW G d mi Q pc L (vi b :: vi a :: S) M := by
  intro p e R s m args below meth c cells slots Z H locs ls hS hc hR hN
  refine lv_iushr hS.1 hS.2.1 hd rfl ?_
  have := (k p e R s m args below meth c cells slots Z H locs ls hS hc hR (hN.to fun h => okS_i.mpr ⟨i3_in _, (okS_i.mp (okS_i.mp h).2).2⟩))
  unfold bUshr at this
  simpa only [List.map_cons, cv, i3_of] using this
theorem aw_ladd {a b : Int} (hd : decode mi.2.1 pc = .ok (.ladd, 1)) (hr : inL (a + b)) (k : AW G d mi Q (pc + 1) L (vl (a + b) :: S) M) : AW G d mi Q pc L (vl b :: vl a :: S) M := by
  intro p e R s m args below meth c cells slots Z H locs ls hS hc hR hN
  refine lv_ladd hS.1 hS.2.1 hd ?_
  rw [i6_add]
  exact (k p e R s m args below meth c cells slots Z H locs ls hS hc hR (hN.to fun h => okS_l.mpr ⟨hr, (okS_l.mp (okS_l.mp h).2).2⟩))
theorem aw_lsub {a b : Int} (hd : decode mi.2.1 pc = .ok (.lsub, 1)) (hr : inL (a - b)) (k : AW G d mi Q (pc + 1) L (vl (a - b) :: S) M) : AW G d mi Q pc L (vl b :: vl a :: S) M := by
  intro p e R s m args below meth c cells slots Z H locs ls hS hc hR hN
  refine lv_lsub hS.1 hS.2.1 hd ?_
  rw [i6_sub]
  exact (k p e R s m args below meth c cells slots Z H locs ls hS hc hR (hN.to fun h => okS_l.mpr ⟨hr, (okS_l.mp (okS_l.mp h).2).2⟩))
theorem aw_lmul {a b : Int} (hd : decode mi.2.1 pc = .ok (.lmul, 1)) (hr : inL (a * b)) (k : AW G d mi Q (pc + 1) L (vl (a * b) :: S) M) : AW G d mi Q pc L (vl b :: vl a :: S) M := by
  intro p e R s m args below meth c cells slots Z H locs ls hS hc hR hN
  refine lv_lmul hS.1 hS.2.1 hd ?_
  rw [i6_mul]
  exact (k p e R s m args below meth c cells slots Z H locs ls hS hc hR (hN.to fun h => okS_l.mpr ⟨hr, (okS_l.mp (okS_l.mp h).2).2⟩))
theorem aw_ldiv {a b : Int} (hd : decode mi.2.1 pc = .ok (.ldiv, 1)) (h0 : 0 ≤ a) (h1 : 0 < b) (k : AW G d mi Q (pc + 1) L (vl (a / b) :: S) M) : AW G d mi Q pc L (vl b :: vl a :: S) M := by
  intro p e R s m args below meth c cells slots Z H locs ls hS hc hR hN
  have hb := (okS_l.mp hN.2.2.2.2.1).1
  have ha := (okS_l.mp (okS_l.mp hN.2.2.2.2.1).2).1
  refine lv_ldiv hS.1 hS.2.1 hd (fun q => ?_) ?_
  · rw [show (0 : Int64) = i6 0 from rfl, i6_eq hb ⟨by omega, by omega⟩] at q; omega
  · rw [i6_div ha hb h0 h1]
    exact (k p e R s m args below meth c cells slots Z H locs ls hS hc hR (hN.to fun h => okS_l.mpr ⟨ab_ldiv ha h0 h1, (okS_l.mp (okS_l.mp h).2).2⟩))
theorem aw_lrem {a b : Int} (hd : decode mi.2.1 pc = .ok (.lrem, 1)) (h0 : 0 ≤ a) (h1 : 0 < b) (k : AW G d mi Q (pc + 1) L (vl (a % b) :: S) M) : AW G d mi Q pc L (vl b :: vl a :: S) M := by
  intro p e R s m args below meth c cells slots Z H locs ls hS hc hR hN
  have hb := (okS_l.mp hN.2.2.2.2.1).1
  have ha := (okS_l.mp (okS_l.mp hN.2.2.2.2.1).2).1
  refine lv_lrem hS.1 hS.2.1 hd (fun q => ?_) ?_
  · rw [show (0 : Int64) = i6 0 from rfl, i6_eq hb ⟨by omega, by omega⟩] at q; omega
  · rw [i6_rem ha hb h0 h1]
    exact (k p e R s m args below meth c cells slots Z H locs ls hS hc hR (hN.to fun h => okS_l.mpr ⟨ab_lrem ha h0 h1, (okS_l.mp (okS_l.mp h).2).2⟩))
theorem aw_land {a b : Int} (hd : decode mi.2.1 pc = .ok (.land, 1)) (k : AW G d mi Q (pc + 1) L (vl (lAnd a b) :: S) M) : AW G d mi Q pc L (vl b :: vl a :: S) M := by
  intro p e R s m args below meth c cells slots Z H locs ls hS hc hR hN
  refine lv_land hS.1 hS.2.1 hd ?_
  have := (k p e R s m args below meth c cells slots Z H locs ls hS hc hR (hN.to fun h => okS_l.mpr ⟨i6_in _, (okS_l.mp (okS_l.mp h).2).2⟩))
  unfold lAnd at this
  simpa only [List.map_cons, cv, i6_of] using this
theorem aw_lor {a b : Int} (hd : decode mi.2.1 pc = .ok (.lor, 1)) (k : AW G d mi Q (pc + 1) L (vl (lOr a b) :: S) M) : AW G d mi Q pc L (vl b :: vl a :: S) M := by
  intro p e R s m args below meth c cells slots Z H locs ls hS hc hR hN
  refine lv_lor hS.1 hS.2.1 hd ?_
  have := (k p e R s m args below meth c cells slots Z H locs ls hS hc hR (hN.to fun h => okS_l.mpr ⟨i6_in _, (okS_l.mp (okS_l.mp h).2).2⟩))
  unfold lOr at this
  simpa only [List.map_cons, cv, i6_of] using this
theorem aw_lshl {a b : Int} (hd : decode mi.2.1 pc = .ok (.lshl, 1)) (k : AW G d mi Q (pc + 1) L (vl (lShl a b) :: S) M) : AW G d mi Q pc L (vi b :: vl a :: S) M := by
  intro p e R s m args below meth c cells slots Z H locs ls hS hc hR hN
  refine lv_lshl hS.1 hS.2.1 hd rfl ?_
  have := (k p e R s m args below meth c cells slots Z H locs ls hS hc hR (hN.to fun h => okS_l.mpr ⟨i6_in _, (okS_l.mp (okS_i.mp h).2).2⟩))
  unfold lShl at this
  simpa only [List.map_cons, cv, i6_of] using this
theorem aw_lshr {a b : Int} (hd : decode mi.2.1 pc = .ok (.lshr, 1)) (k : AW G d mi Q (pc + 1) L (vl (lShr a b) :: S) M) : AW G d mi Q pc L (vi b :: vl a :: S) M := by
  intro p e R s m args below meth c cells slots Z H locs ls hS hc hR hN
  refine lv_lshr hS.1 hS.2.1 hd rfl ?_
  have := (k p e R s m args below meth c cells slots Z H locs ls hS hc hR (hN.to fun h => okS_l.mpr ⟨i6_in _, (okS_l.mp (okS_i.mp h).2).2⟩))
  unfold lShr at this
  simpa only [List.map_cons, cv, i6_of] using this
theorem aw_i2l {a : Int} (hd : decode mi.2.1 pc = .ok (.i2l, 1)) (k : AW G d mi Q (pc + 1) L (vl a :: S) M) : AW G d mi Q pc L (vi a :: S) M := by
  intro p e R s m args below meth c cells slots Z H locs ls hS hc hR hN
  have ha := (okS_i.mp hN.2.2.2.2.1).1
  exact lv_i2l hS.1 hS.2.1 hd (i3_64 ha) (k p e R s m args below meth c cells slots Z H locs ls hS hc hR (hN.to fun h => okS_l.mpr ⟨⟨by have := ha.1; omega, by have := ha.2; omega⟩, (okS_i.mp h).2⟩))
theorem aw_l2i {a : Int} (hd : decode mi.2.1 pc = .ok (.l2i, 1)) (hr : inI a) (k : AW G d mi Q (pc + 1) L (vi a :: S) M) : AW G d mi Q pc L (vl a :: S) M := by
  intro p e R s m args below meth c cells slots Z H locs ls hS hc hR hN
  have ha := (okS_l.mp hN.2.2.2.2.1).1
  exact lv_l2i hS.1 hS.2.1 hd (i6_32 ha) (k p e R s m args below meth c cells slots Z H locs ls hS hc hR (hN.to fun h => okS_i.mpr ⟨hr, (okS_l.mp h).2⟩))
theorem aw_l2iW {a : Int} (hd : decode mi.2.1 pc = .ok (.l2i, 1)) (k : AW G d mi Q (pc + 1) L (vi (w3 a) :: S) M) : AW G d mi Q pc L (vl a :: S) M := by
  intro p e R s m args below meth c cells slots Z H locs ls hS hc hR hN
  have ha := (okS_l.mp hN.2.2.2.2.1).1
  exact lv_l2i hS.1 hS.2.1 hd (by rw [i6_32 ha]; exact (i3_of (i3 a)).symm) (k p e R s m args below meth c cells slots Z H locs ls hS hc hR (hN.to fun h => okS_i.mpr ⟨i3_in _, (okS_l.mp h).2⟩))
theorem aw_i2b {a : Int} (hd : decode mi.2.1 pc = .ok (.i2b, 1)) (k : AW G d mi Q (pc + 1) L (vi (w8 a) :: S) M) : AW G d mi Q pc L (vi a :: S) M := by
  intro p e R s m args below meth c cells slots Z H locs ls hS hc hR hN
  exact lv_i2b hS.1 hS.2.1 hd (i3_of _).symm (k p e R s m args below meth c cells slots Z H locs ls hS hc hR (hN.to fun h => okS_i.mpr ⟨i3_in _, (okS_i.mp h).2⟩))
theorem aw_i2s {a : Int} (hd : decode mi.2.1 pc = .ok (.i2s, 1)) (k : AW G d mi Q (pc + 1) L (vi (w16 a) :: S) M) : AW G d mi Q pc L (vi a :: S) M := by
  intro p e R s m args below meth c cells slots Z H locs ls hS hc hR hN
  exact lv_i2s hS.1 hS.2.1 hd (i3_of _).symm (k p e R s m args below meth c cells slots Z H locs ls hS hc hR (hN.to fun h => okS_i.mpr ⟨i3_in _, (okS_i.mp h).2⟩))
theorem aw_i2c {a : Int} (hd : decode mi.2.1 pc = .ok (.i2c, 1)) (k : AW G d mi Q (pc + 1) L (vi (wc a) :: S) M) : AW G d mi Q pc L (vi a :: S) M := by
  intro p e R s m args below meth c cells slots Z H locs ls hS hc hR hN
  exact lv_i2c hS.1 hS.2.1 hd (i3_of _).symm (k p e R s m args below meth c cells slots Z H locs ls hS hc hR (hN.to fun h => okS_i.mpr ⟨i3_in _, (okS_i.mp h).2⟩))
theorem aw_lcmp {a b : Int} (hd : decode mi.2.1 pc = .ok (.lcmp, 1)) (k : AW G d mi Q (pc + 1) L (vi (cmp3 a b) :: S) M) : AW G d mi Q pc L (vl b :: vl a :: S) M := by
  intro p e R s m args below meth c cells slots Z H locs ls hS hc hR hN
  have hb := (okS_l.mp hN.2.2.2.2.1).1
  have ha := (okS_l.mp (okS_l.mp hN.2.2.2.2.1).2).1
  refine W.lcmp hS.1 hS.2.1 hd ?_
  rw [lg_cmp3 ha hb]
  exact (k p e R s m args below meth c cells slots Z H locs ls hS hc hR (hN.to fun h => okS_i.mpr ⟨cmp3_in a b, (okS_l.mp (okS_l.mp h).2).2⟩))
theorem aw_ifCond {cn : ClassFile.Cond} {a o : Int} {t : Nat} (hd : decode mi.2.1 pc = .ok (.ifCond cn o, 3)) (ht : (pc : Int) + o = (t : Int)) (kt : cnd cn a 0 → AW G d mi Q t L S M) (kf : ¬ cnd cn a 0 → AW G d mi Q (pc + 3) L S M) : AW G d mi Q pc L (vi a :: S) M := by
  intro p e R s m args below meth c cells slots Z H locs ls hS hc hR hN
  have ha := (okS_i.mp hN.2.2.2.2.1).1
  have hN2 : Now G mi s H locs ls L S M := hN.to fun h => (okS_i.mp h).2
  match cn with
  | .eq => exact lv_if_eq hS.1 hS.2.1 hd ht (fun q => kt ((i3_eq ha in0).mp q) p e R s m args below meth c cells slots Z H locs ls hS hc hR hN2) (fun q => kf (fun z => q ((i3_eq ha in0).mpr z)) p e R s m args below meth c cells slots Z H locs ls hS hc hR hN2)
  | .ne => exact lv_if_ne hS.1 hS.2.1 hd ht (fun q => kt (fun z => q ((i3_eq ha in0).mpr z)) p e R s m args below meth c cells slots Z H locs ls hS hc hR hN2) (fun q => kf (fun z => z ((i3_eq ha in0).mp q)) p e R s m args below meth c cells slots Z H locs ls hS hc hR hN2)
  | .lt => exact lv_if_lt hS.1 hS.2.1 hd ht (fun q => kt ((i3_lt ha in0).mp q) p e R s m args below meth c cells slots Z H locs ls hS hc hR hN2) (fun q => kf (fun z => q ((i3_lt ha in0).mpr z)) p e R s m args below meth c cells slots Z H locs ls hS hc hR hN2)
  | .ge => exact lv_if_ge hS.1 hS.2.1 hd ht (fun q => kt ((i3_le in0 ha).mp q) p e R s m args below meth c cells slots Z H locs ls hS hc hR hN2) (fun q => kf (fun z => q ((i3_le in0 ha).mpr z)) p e R s m args below meth c cells slots Z H locs ls hS hc hR hN2)
  | .gt => exact lv_if_gt hS.1 hS.2.1 hd ht (fun q => kt ((i3_lt in0 ha).mp q) p e R s m args below meth c cells slots Z H locs ls hS hc hR hN2) (fun q => kf (fun z => q ((i3_lt in0 ha).mpr z)) p e R s m args below meth c cells slots Z H locs ls hS hc hR hN2)
  | .le => exact lv_if_le hS.1 hS.2.1 hd ht (fun q => kt ((i3_le ha in0).mp q) p e R s m args below meth c cells slots Z H locs ls hS hc hR hN2) (fun q => kf (fun z => q ((i3_le ha in0).mpr z)) p e R s m args below meth c cells slots Z H locs ls hS hc hR hN2)
theorem aw_icmp {cn : ClassFile.Cond} {a b o : Int} {t : Nat} (hd : decode mi.2.1 pc = .ok (.if_icmp cn o, 3)) (ht : (pc : Int) + o = (t : Int)) (kt : cnd cn a b → AW G d mi Q t L S M) (kf : ¬ cnd cn a b → AW G d mi Q (pc + 3) L S M) : AW G d mi Q pc L (vi b :: vi a :: S) M := by
  intro p e R s m args below meth c cells slots Z H locs ls hS hc hR hN
  have hb := (okS_i.mp hN.2.2.2.2.1).1
  have ha := (okS_i.mp (okS_i.mp hN.2.2.2.2.1).2).1
  have hN2 : Now G mi s H locs ls L S M := hN.to fun h => (okS_i.mp (okS_i.mp h).2).2
  match cn with
  | .eq => exact lv_icmp_eq hS.1 hS.2.1 hd ht (fun q => kt ((i3_eq ha hb).mp q) p e R s m args below meth c cells slots Z H locs ls hS hc hR hN2) (fun q => kf (fun z => q ((i3_eq ha hb).mpr z)) p e R s m args below meth c cells slots Z H locs ls hS hc hR hN2)
  | .ne => exact lv_icmp_ne hS.1 hS.2.1 hd ht (fun q => kt (fun z => q ((i3_eq ha hb).mpr z)) p e R s m args below meth c cells slots Z H locs ls hS hc hR hN2) (fun q => kf (fun z => z ((i3_eq ha hb).mp q)) p e R s m args below meth c cells slots Z H locs ls hS hc hR hN2)
  | .lt => exact lv_icmp_lt hS.1 hS.2.1 hd ht (fun q => kt ((i3_lt ha hb).mp q) p e R s m args below meth c cells slots Z H locs ls hS hc hR hN2) (fun q => kf (fun z => q ((i3_lt ha hb).mpr z)) p e R s m args below meth c cells slots Z H locs ls hS hc hR hN2)
  | .ge => exact lv_icmp_ge hS.1 hS.2.1 hd ht (fun q => kt ((i3_le hb ha).mp q) p e R s m args below meth c cells slots Z H locs ls hS hc hR hN2) (fun q => kf (fun z => q ((i3_le hb ha).mpr z)) p e R s m args below meth c cells slots Z H locs ls hS hc hR hN2)
  | .gt => exact lv_icmp_gt hS.1 hS.2.1 hd ht (fun q => kt ((i3_lt hb ha).mp q) p e R s m args below meth c cells slots Z H locs ls hS hc hR hN2) (fun q => kf (fun z => q ((i3_lt hb ha).mpr z)) p e R s m args below meth c cells slots Z H locs ls hS hc hR hN2)
  | .le => exact lv_icmp_le hS.1 hS.2.1 hd ht (fun q => kt ((i3_le ha hb).mp q) p e R s m args below meth c cells slots Z H locs ls hS hc hR hN2) (fun q => kf (fun z => q ((i3_le ha hb).mpr z)) p e R s m args below meth c cells slots Z H locs ls hS hc hR hN2)
theorem ab_ifnull0 {p : Program} {l : Launch} {e : Env} {R : Room} {s : State} {m : MethodId} {args : Array Value} {below : List Frame} {meth : Method} {c : Code} {H : Heap} {locs : List Loc} {cells slots : Nat} {Z : State → Prop} {cc : ByteArray} {pc : Nat} {ls : Array Slot} {rest : List Value} (hexec : p.tables.exec = Jvm.exec) (hb : c.code = cc) {off : Int} {tgt : Nat} (hdg : decode cc pc = .ok (.ifnull off, 3)) (ht : (pc : Int) + off = (tgt : Int)) (k : W p l e R s m args below meth c H locs cells slots Z (F0 m tgt ls rest)) : W p l e R s m args below meth c H locs cells slots Z (F0 m pc ls (.null :: rest)) := by
  intro T hT X
  obtain ⟨t, a, b⟩ := k T hT X
  refine ⟨t, ?_, b⟩
  jvm_step X.here [X.here.top, hexec, hb, hdg, ht]
  exact a
theorem aw_ifnull {a o : Int} {t : Nat} (hd : decode mi.2.1 pc = .ok (.ifnull o, 3)) (ht : (pc : Int) + o = (t : Int)) (kt : a = -1 → AW G d mi Q t L S M) (kf : ¬ a = -1 → AW G d mi Q (pc + 3) L S M) : AW G d mi Q pc L (vr a :: S) M := by
  intro p e R s m args below meth c cells slots Z H locs ls hS hc hR hN
  have hN2 : Now G mi s H locs ls L S M := hN.to fun h => okS_r.mp h
  by_cases ha : a = -1
  · have e1 : cv G (vr a) = .null := by simp [cv, adr, ha, va_rf]
    rw [List.map_cons, e1]
    exact ab_ifnull0 hS.1 hS.2.1 hd ht (kt ha p e R s m args below meth c cells slots Z H locs ls hS hc hR hN2)
  · rw [List.map_cons, cv_r ha]
    exact lv_ifnull hS.1 hS.2.1 hd (kf ha p e R s m args below meth c cells slots Z H locs ls hS hc hR hN2)
theorem aw_goto {o : Int} {t : Nat} (hd : decode mi.2.1 pc = .ok (.goto o, 3)) (ht : (pc : Int) + o = (t : Int)) (k : AW G d mi Q t L S M) : AW G d mi Q pc L S M := by
  intro p e R s m args below meth c cells slots Z H locs ls hS hc hR hN
  exact lv_goto hS.1 hS.2.1 hd ht (k p e R s m args below meth c cells slots Z H locs ls hS hc hR hN)
theorem cv_1 (v : AV) (h : ∀ x, v ≠ vl x) : (cv G v).category = 1 := by
  rcases lv_cat (cv G v) with h1 | h1
  · exact h1
  · obtain ⟨x, hx⟩ := cv_cat G v h1
    exact absurd hx (h x)
theorem aw_dup {v : AV} (hd : decode mi.2.1 pc = .ok (.dup, 1)) (hv : ∀ x, v ≠ vl x) (k : AW G d mi Q (pc + 1) L (v :: v :: S) M) : AW G d mi Q pc L (v :: S) M := by
  intro p e R s m args below meth c cells slots Z H locs ls hS hc hR hN
  exact lv_dup hS.1 hS.2.1 hd (cv_1 v hv) (k p e R s m args below meth c cells slots Z H locs ls hS hc hR (hN.to fun h => okS_c.mpr ⟨(okS_c.mp h).1, h⟩))
theorem aw_dup2 {v w : AV} (hd : decode mi.2.1 pc = .ok (.dup2, 1)) (hv : ∀ x, v ≠ vl x) (hw : ∀ x, w ≠ vl x) (k : AW G d mi Q (pc + 1) L (v :: w :: v :: w :: S) M) : AW G d mi Q pc L (v :: w :: S) M := by
  intro p e R s m args below meth c cells slots Z H locs ls hS hc hR hN
  exact lv_dup2_11 hS.1 hS.2.1 hd (cv_1 v hv) (cv_1 w hw) (k p e R s m args below meth c cells slots Z H locs ls hS hc hR (hN.to fun h => okS_c.mpr ⟨(okS_c.mp h).1, okS_c.mpr ⟨(okS_c.mp (okS_c.mp h).2).1, h⟩⟩))
theorem aw_pop {v : AV} (hd : decode mi.2.1 pc = .ok (.pop, 1)) (hv : ∀ x, v ≠ vl x) (k : AW G d mi Q (pc + 1) L S M) : AW G d mi Q pc L (v :: S) M := by
  intro p e R s m args below meth c cells slots Z H locs ls hS hc hR hN
  exact lv_pop hS.1 hS.2.1 hd (cv_1 v hv) (k p e R s m args below meth c cells slots Z H locs ls hS hc hR (hN.to fun h => (okS_c.mp h).2))
theorem aw_ret (r : Option AV) (hd : decode mi.2.1 pc = .ok (retI r, 1)) (hf : fitR mi.2.2.2 r) (hq : Q r M) : AW G d mi Q pc L r.toList M := by
  intro p e R s m args below meth c cells slots Z H locs ls hS hc hR hN
  exact hR r M H locs ls pc hq hf hN.1 hN.2.1 hN.2.2.2.2.2 hd
end AWR
