/-! fields, arrays, statics -/
section AWR
variable {G : AG} {d : Nat} {mi : MI} {Q : Option AV → AM → Prop} {pc : Nat} {L : AL} {S : List AV} {M : AM}
theorem nat_ne (k : Nat) : ¬ (k : Int) = -1 := by omega
theorem nfE : ∀ ci : Fin 13, nf ci.val = (vcl[ci.val]!).2.2 := by decide +kernel
theorem vcl_nf {ci : Nat} {q : vw_C} (h : vcl[ci]? = some q) : q.2.2 = nf ci := by
  have hlt : ci < 13 := (List.getElem?_eq_some_iff.mp h).1
  have e := nfE ⟨ci, hlt⟩
  have e2 : vcl[ci]! = q := by rw [List.getElem!_eq_getElem?_getD, h]; rfl
  rw [show nf ci = (vcl[ci]!).2.2 from e, e2]
theorem vcl_TG {ci : Nat} {q : vw_C} (h : vcl[ci]? = some q) : ∀ w ∈ u_ws q.1 q.2.1 q.2.2, w ∈ TG := by
  intro w hw
  refine List.mem_filter.mpr ⟨vcl_in ci q h w hw, ?_⟩
  unfold u_ws at hw
  obtain ⟨k, -, rfl⟩ := List.mem_map.mp hw
  unfold u_lay
  split <;> rfl
theorem shO_lt {k ci : Nat} (h : shL[k]? = some (.inr ci)) : ci < 13 := by
  have h2 : shL.all (fun s => match s with
    | .inr c => decide (c < 13)
    | _ => true) = true := by decide +kernel
  have h3 := List.all_eq_true.mp h2 _ (List.mem_of_getElem? h)
  simpa using h3
theorem vcl_get {ci : Nat} (h : ci < 13) : ∃ q, vcl[ci]? = some q := ⟨vcl[ci]'h, List.getElem?_eq_getElem h⟩
/-- a value that lies in a field or an array -/
def avT (ty : FieldType) (x : Int) : AV := match ty with
  | .long => vl x
  | .object _ => vr x
  | .array _ => vr x
  | _ => vi x
theorem cv_avT (ty : FieldType) (x : Int) : cv G (avT ty x) = cvT G ty x := by cases ty <;> rfl
theorem avT_ok {ty : FieldType} {x : Int} (h : fitT ty x) : okV (avT ty x) := by
  cases ty <;> first | exact h | trivial | exact h.elim | (show inI x; have h : _ ∧ _ := h; exact ⟨by have := h.1; omega, by have := h.2; omega⟩) | (show inI x; rcases h with h | h <;> subst h <;> exact ⟨by omega, by omega⟩)
theorem aw_getf {ci j ix : Nat} {z : Int} {q : vw_C} (hd : decode mi.2.1 pc = .ok (.getfield ix, 3)) (hz : isO z ci) (hq : vcl[ci]? = some q) (hj : j < q.2.2) (hw : Jvm.Cond.fieldLink mi.1.cls ix (q.2.1 j).1 (q.2.1 j).2.1 (q.2.1 j).2.2.1 ∈ TG) (k : AW G d mi Q (pc + 3) L (avT (tyOf ci j) (M z j) :: S) M) : AW G d mi Q pc L (vr z :: S) M := by
  intro p e R s m args below meth c cells slots Z H locs ls hS hc hR hN
  obtain ⟨kk, rfl, hs⟩ := isO_at hz
  have hat := wsOf_at (G := G) (M := M) hs
  have hjn : j < nf ci := by rw [← vcl_nf hq]; exact hj
  have hk := k p e R s m args below meth c cells slots Z H locs ls hS hc hR (hN.to fun h => okS_c.mpr ⟨avT_ok (hN.2.2.2.2.2.2 kk ci hs j hjn).1, (okS_r.mp h)⟩)
  rw [List.map_cons, cv_avT] at hk
  rw [List.map_cons, cv_r (nat_ne kk)]
  exact va_get (D := G.2.1) (C := q.1) (T := q.2.1) (N := q.2.2) hS.1 hS.2.1 hS.2.2.2.2.1 (vcl_TG hq) hS.2.2.2.1 hS.2.2.2.2.2.2.2.1 hN.1 kk hat hq j hj (hS.2.2.2.2.1 _ hw) (fun _ h9 => h9) (by simp [hjn]) hd hk
theorem aw_getF {ci j ix : Nat} {z v : Int} {q : vw_C} (hd : decode mi.2.1 pc = .ok (.getfield ix, 3)) (hz : isO z ci) (hq : vcl[ci]? = some q) (hj : j < q.2.2) (hw : Jvm.Cond.fieldLink mi.1.cls ix (q.2.1 j).1 (q.2.1 j).2.1 (q.2.1 j).2.2.1 ∈ TG) (ho : off ci j ≠ 0) (hv : v = off ci j) (hty : ∀ x, avT (tyOf ci j) x = vr x) (k : AW G d mi Q (pc + 3) L (vr (z + v) :: S) M) : AW G d mi Q pc L (vr z :: S) M := by
  intro p e R s m args below meth c cells slots Z H locs ls hS hc hR hN
  refine aw_getf hd hz hq hj hw ?_ p e R s m args below meth c cells slots Z H locs ls hS hc hR hN
  obtain ⟨kk, rfl, hs⟩ := isO_at hz
  have hjn : j < nf ci := by rw [← vcl_nf hq]; exact hj
  rw [(hN.2.2.2.2.2.2 kk ci hs j hjn).2 ho, hty, ← hv]
  exact k
theorem fit_cvT {ty : FieldType} {x : Int} (h : fitT ty x) : narrow ty (cvT G ty x) = cvT G ty x ∧ fits ty (cvT G ty x) = true := by
  cases ty with
  | int => exact ⟨rfl, rfl⟩
  | long => exact ⟨rfl, rfl⟩
  | boolean =>
    rcases h with h | h <;> subst h <;> exact ⟨rfl, rfl⟩
  | byte =>
    have h1 : inI x := ⟨by have := h.1; omega, by have := h.2; omega⟩
    refine ⟨?_, ?_⟩
    · show Value.int (i3 x).toInt8.toInt32 = .int (i3 x)
      congr 1
      rw [show i3 x = (Int8.ofInt x).toInt32 from (i8_3 x h.1 h.2).symm]
      simp
    · show (decide (-128 ≤ i3 x) && decide (i3 x ≤ 127)) = true
      simp only [Bool.and_eq_true, decide_eq_true_eq]
      rw [show (-128 : Int32) = i3 (-128) from rfl, show (127 : Int32) = i3 127 from rfl, i3_le ⟨by omega, by omega⟩ h1, i3_le h1 ⟨by omega, by omega⟩]
      exact h
  | char =>
    have h1 : inI x := ⟨by have := h.1; omega, by have := h.2; omega⟩
    obtain ⟨n, rfl⟩ := Int.eq_ofNat_of_zero_le h.1
    exact pk_charN (q := n) (by have := h.2; omega)
  | short =>
    have h1 : inI x := ⟨by have := h.1; omega, by have := h.2; omega⟩
    refine ⟨?_, ?_⟩
    · show Value.int (i3 x).toInt16.toInt32 = .int (i3 x)
      congr 1
      rw [show i3 x = (Int16.ofInt x).toInt32 from (i16_3 x h.1 h.2).symm]
      simp
    · show (decide (-32768 ≤ i3 x) && decide (i3 x ≤ 32767)) = true
      simp only [Bool.and_eq_true, decide_eq_true_eq]
      rw [show (-32768 : Int32) = i3 (-32768) from rfl, show (32767 : Int32) = i3 32767 from rfl, i3_le ⟨by omega, by omega⟩ h1, i3_le h1 ⟨by omega, by omega⟩]
      exact h
  | object n => exact ⟨rfl, by show fits (.object n) (va_rf _) = true; unfold va_rf; split <;> rfl⟩
  | array n => exact ⟨rfl, by show fits (.array n) (va_rf _) = true; unfold va_rf; split <;> rfl⟩
  | float => exact h.elim
  | double => exact h.elim
theorem aw_putf {ci j ix : Nat} {z x : Int} {q : vw_C} (hd : decode mi.2.1 pc = .ok (.putfield ix, 3)) (hz : isO z ci) (hq : vcl[ci]? = some q) (hj : j < q.2.2) (hw : Jvm.Cond.fieldLink mi.1.cls ix (q.2.1 j).1 (q.2.1 j).2.1 (q.2.1 j).2.2.1 ∈ TG) (hfin : (q.2.1 j).2.2.2 = false) (ho : off ci j = 0) (hx : okV (avT (tyOf ci j) x) → fitT (tyOf ci j) x) (k : AW G d mi Q (pc + 3) L S (up M z j x)) : AW G d mi Q pc L (avT (tyOf ci j) x :: vr z :: S) M := by
  intro p e R s m args below meth c cells slots Z H locs ls hS hc hR hN
  obtain ⟨kk, rfl, hs⟩ := isO_at hz
  have hat := wsOf_at (G := G) (M := M) hs
  have hjn : j < nf ci := by rw [← vcl_nf hq]; exact hj
  have hfx := hx (okS_c.mp hN.2.2.2.2.1).1
  obtain ⟨hn, hfit⟩ := fit_cvT (G := G) hfx
  rw [List.map_cons, List.map_cons, cv_r (nat_ne kk), cv_avT]
  refine va_put (D := G.2.1) (C := q.1) (T := q.2.1) (N := q.2.2) (ty := tyOf ci j) (v := cvT G (tyOf ci j) x) hS.1 hS.2.1 hS.2.2.2.2.1 (vcl_TG hq) (tyOf ci) (vcl_ty ci q hq) (vcl_nm ci q hq) hS.2.2.2.1 hS.2.2.2.2.2.2.2.1 hN.1 (wsOf_D hS.2.2.2.2.2.2.2.2.2) hN.2.1 kk hat hq j hj (hS.2.2.2.2.1 _ hw) (fun _ h9 => h9) hfin (vcl_ty ci q hq j hj) hn hfit (by simp [hjn]) hd (fun H1 locs1 hP1 _ hS1 => ?_)
  rw [cell_put hjn, wsOf_set hs up_other] at hP1
  exact k p e R s m args below meth c cells slots Z H1 locs1 ls hS hc hR ⟨hP1, hS1, hN.2.2.1, hN.2.2.2.1, okS_r.mp (okS_c.mp hN.2.2.2.2.1).2, okM_obj hN.2.2.2.2.2 hs hfx ho⟩
end AWR
