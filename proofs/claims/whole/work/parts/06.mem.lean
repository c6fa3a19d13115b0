/-! the places in the heap -/
def nf (ci : Nat) : Nat := nfL.getD ci 0
def off (ci j : Nat) : Nat := (offL.getD ci []).getD j 0
def shK (z : Int) : Option ((FieldType × Nat) ⊕ Nat) := if 0 ≤ z then shL[z.toNat]? else none
/-- place z is an object of class ci -/
def isO (z : Int) (ci : Nat) : Prop := shK z = some (.inr ci)
/-- place z is an array of that component type -/
def arT (z : Int) (ty : FieldType) : Prop := ∃ n, shK z = some (.inl (ty, n))
def alen (z : Int) : Int := match shK z with
  | some (.inl (_, n)) => n
  | _ => 0
def fitT (ty : FieldType) (x : Int) : Prop := match ty with
  | .int => inI x
  | .long => inL x
  | .byte => -128 ≤ x ∧ x ≤ 127
  | .boolean => x = 0 ∨ x = 1
  | .char => 0 ≤ x ∧ x ≤ 65535
  | .short => -32768 ≤ x ∧ x ≤ 32767
  | .float => False
  | .double => False
  | _ => True
/-- what the memory keeps: each number fits its type, a final field its value -/
def okM (M : AM) : Prop := (∀ (k : Nat) (ty : FieldType) (n : Nat), shL[k]? = some (.inl (ty, n)) → ∀ i : Nat, i < n → fitT ty (M k i)) ∧
  ∀ (k ci : Nat), shL[k]? = some (.inr ci) → ∀ j : Nat, j < nf ci → fitT (tyOf ci j) (M k j) ∧ (off ci j ≠ 0 → M k j = (k : Int) + (off ci j : Int))
def cvT (G : AG) (ty : FieldType) (x : Int) : Value := match ty with
  | .long => .long (i6 x)
  | .object _ => va_rf (adr G x)
  | .array _ => va_rf (adr G x)
  | _ => .int (i3 x)
def arrOf (G : AG) (ty : FieldType) (f : Nat → Int) : (Nat → Int32) ⊕ (Nat → Int64) ⊕ (Nat → UInt32) ⊕ (Nat → UInt64) ⊕ (Nat → Option Nat) := match ty with
  | .long => .inr (.inl fun j => i6 (f j))
  | .object _ => .inr (.inr (.inr (.inr fun j => adr G (f j))))
  | .array _ => .inr (.inr (.inr (.inr fun j => adr G (f j))))
  | _ => .inl fun j => i3 (f j)
def cellOf (G : AG) (M : AM) (k : Nat) (s : (FieldType × Nat) ⊕ Nat) : va_E := match s with
  | .inl (ty, n) => .inl (G.2.2.2.1 k, n, arrOf G ty fun j => M k j)
  | .inr ci => .inr (ci, (List.range (nf ci)).map fun j => cvT G (tyOf ci j) (M k j))
def wsOf (G : AG) (M : AM) : va_W := (List.range NN).map fun (k : Nat) => (G.2.2.1 (k : Int), cellOf G M k (shL.getD k (.inr 0)))
def tysOf (G : AG) : List (ClassId × FieldType) := (List.range NN).filterMap fun (k : Nat) => match shL[k]? with
  | some (.inl (ty, _)) => some (G.2.2.2.1 k, ty)
  | _ => none
theorem shL_len : shL.length = NN := by decide +kernel
theorem shL_lt {k : Nat} {s : (FieldType × Nat) ⊕ Nat} (h : shL[k]? = some s) : k < NN := by
  rw [← shL_len]; exact (List.getElem?_eq_some_iff.mp h).1
theorem wsOf_at {G : AG} {M : AM} {k : Nat} {s : (FieldType × Nat) ⊕ Nat} (h : shL[k]? = some s) : (wsOf G M)[k]? = some (G.2.2.1 k, cellOf G M k s) := by
  have hk := shL_lt h
  simp only [wsOf, List.getElem?_map, List.getElem?_range hk, Option.map_some, List.getD_eq_getElem?_getD, h, Option.getD_some]
theorem tysOf_at {G : AG} {k : Nat} {ty : FieldType} {n : Nat} (h : shL[k]? = some (.inl (ty, n))) : ∃ t0 : Nat, (tysOf G)[t0]? = some (G.2.2.2.1 k, ty) := by
  apply List.getElem?_of_mem
  refine List.mem_filterMap.mpr ⟨k, List.mem_range.mpr (shL_lt h), ?_⟩
  rw [h]
theorem wsOf_len {G : AG} {M : AM} : (wsOf G M).length = NN := by simp [wsOf]
theorem wsOf_adr {G : AG} {M : AM} {k : Nat} (q : Nat × va_E) (h : (wsOf G M)[k]? = some q) : k < NN ∧ q.1 = G.2.2.1 k := by
  have hk : k < NN := by rw [← wsOf_len (G := G) (M := M)]; exact (List.getElem?_eq_some_iff.mp h).1
  refine ⟨hk, ?_⟩
  simp only [wsOf, List.getElem?_map, List.getElem?_range hk, Option.map_some, Option.some.injEq] at h
  rw [← h]
/-- the addresses are apart -/
def inj (G : AG) : Prop := ∀ i j : Nat, i < NN → j < NN → G.2.2.1 i = G.2.2.1 j → i = j
/-- what may be written -/
def Aof (G : AG) : Nat → Prop := fun q => ∃ k : Nat, k < NN ∧ q = G.2.2.1 k
theorem wsOf_D {G : AG} {M : AM} (h : inj G) : va_D (Aof G) (wsOf G M) := by
  refine ⟨fun i j p q hp hq e => ?_, fun k q hq => ?_⟩
  · obtain ⟨h1, h2⟩ := wsOf_adr p hp
    obtain ⟨h3, h4⟩ := wsOf_adr q hq
    exact h i j h1 h3 (by rw [← h2, ← h4, e])
  · obtain ⟨h1, h2⟩ := wsOf_adr q hq
    exact ⟨k, h1, h2⟩
/-- one place written -/
theorem wsOf_set {G : AG} {M M' : AM} {k : Nat} {s : (FieldType × Nat) ⊕ Nat} (h : shL[k]? = some s) (ho : ∀ (a : Nat), a ≠ k → ∀ b, M' a b = M a b) : (wsOf G M).set k (G.2.2.1 k, cellOf G M' k s) = wsOf G M' := by
  apply List.ext_getElem?
  intro j
  have hk := shL_lt h
  by_cases hj : j = k
  · subst hj
    rw [List.getElem?_set_self (by rw [wsOf_len]; exact hk), wsOf_at h]
  · rw [List.getElem?_set_ne (fun e => hj e.symm)]
    by_cases hl : j < NN
    · simp only [wsOf, List.getElem?_map, List.getElem?_range hl, Option.map_some]
      congr 2
      have e : ∀ b, M' j b = M j b := ho j hj
      unfold cellOf
      split <;> simp only [e]
    · rw [List.getElem?_eq_none (by rw [wsOf_len]; omega), List.getElem?_eq_none (by rw [wsOf_len]; omega)]
theorem up_other {M : AM} {k : Nat} {i v : Int} : ∀ (a : Nat), a ≠ k → ∀ b, up M k i v a b = M a b := fun a ha b => up_ne1 (by omega)
theorem cell_put {G : AG} {M : AM} {k ci : Nat} {j : Nat} {v : Int} (hj : j < nf ci) : (Sum.inr (ci, ((List.range (nf ci)).map fun i => cvT G (tyOf ci i) (M k i)).set j (cvT G (tyOf ci j) v)) : va_E) = cellOf G (up M k j v) k (.inr ci) := by
  show _ = Sum.inr (ci, (List.range (nf ci)).map fun i => cvT G (tyOf ci i) (up M k j v k i))
  congr 2
  apply List.ext_getElem?
  intro i
  by_cases hi : i = j
  · subst hi
    rw [List.getElem?_set_self (by simpa using hj)]
    simp [hj, up_eq]
  · rw [List.getElem?_set_ne (fun e => hi e.symm)]
    by_cases hl : i < nf ci
    · simp only [List.getElem?_map, List.getElem?_range hl, Option.map_some]
      rw [up_ne2 (by omega)]
    · rw [List.getElem?_eq_none (by simp; omega), List.getElem?_eq_none (by simp; omega)]
theorem arr_i {M : AM} {k : Nat} {i v : Int} (h0 : 0 ≤ i) : upd (fun j : Nat => i3 (M k j)) i.toNat (i3 v) = fun j : Nat => i3 (up M k i v k j) := by
  funext j
  unfold upd
  by_cases hj : j = i.toNat
  · rw [if_pos hj, show (j : Int) = i by omega, up_eq]
  · rw [if_neg hj, up_ne2 (by omega)]
theorem arr_l {M : AM} {k : Nat} {i v : Int} (h0 : 0 ≤ i) : vp_updL (fun j : Nat => i6 (M k j)) i.toNat (i6 v) = fun j : Nat => i6 (up M k i v k j) := by
  funext j
  unfold vp_updL
  by_cases hj : j = i.toNat
  · rw [if_pos hj, show (j : Int) = i by omega, up_eq]
  · rw [if_neg hj, up_ne2 (by omega)]
theorem arr_q {G : AG} {M : AM} {k : Nat} {i v : Int} (h0 : 0 ≤ i) : va_up (fun j : Nat => adr G (M k j)) i.toNat (adr G v) = fun j : Nat => adr G (up M k i v k j) := by
  funext j
  unfold va_up
  by_cases hj : j = i.toNat
  · rw [if_pos hj, show (j : Int) = i by omega, up_eq]
  · rw [if_neg hj, up_ne2 (by omega)]
theorem isO_at {z : Int} {ci : Nat} (h : isO z ci) : ∃ k : Nat, z = k ∧ shL[k]? = some (.inr ci) := by
  unfold isO shK at h
  split at h
  · next h0 => exact ⟨z.toNat, by omega, h⟩
  · cases h
theorem arT_at {z : Int} {ty : FieldType} (h : arT z ty) : ∃ (k n : Nat), z = k ∧ shL[k]? = some (.inl (ty, n)) ∧ alen z = n := by
  obtain ⟨n, h⟩ := h
  have ha : alen z = n := by unfold alen; rw [h]
  unfold shK at h
  split at h
  · next h0 => exact ⟨z.toNat, n, by omega, h, ha⟩
  · cases h
theorem okM_arr {M : AM} {k n : Nat} {ty : FieldType} {i v : Int} (h : okM M) (hs : shL[k]? = some (.inl (ty, n))) (hv : fitT ty v) (h0 : 0 ≤ i) : okM (up M k i v) := by
  refine ⟨fun k' ty' n' hs' i' hi' => ?_, fun k' ci hs' j hj => ?_⟩
  · by_cases hk : k' = k
    · subst hk
      rw [hs] at hs'
      cases hs'
      by_cases he : (i' : Int) = i
      · rw [he, up_eq]; exact hv
      · rw [up_ne2 he]; exact h.1 k' ty n hs i' hi'
    · rw [up_ne1 (by omega)]; exact h.1 k' ty' n' hs' i' hi'
  · have hk : k' ≠ k := by
      intro e; subst e; rw [hs] at hs'; cases hs'
    rw [up_ne1 (by omega)]
    exact h.2 k' ci hs' j hj
theorem okM_obj {M : AM} {k ci : Nat} {j : Nat} {v : Int} (h : okM M) (hs : shL[k]? = some (.inr ci)) (hv : fitT (tyOf ci j) v) (hf : off ci j = 0) : okM (up M k j v) := by
  refine ⟨fun k' ty' n' hs' i' hi' => ?_, fun k' ci' hs' j' hj' => ?_⟩
  · have hk : k' ≠ k := by
      intro e; subst e; rw [hs] at hs'; cases hs'
    rw [up_ne1 (by omega)]
    exact h.1 k' ty' n' hs' i' hi'
  · by_cases hk : k' = k
    · subst hk
      rw [hs] at hs'
      cases hs'
      by_cases he : j' = j
      · subst he
        rw [up_eq]
        exact ⟨hv, fun q => absurd hf q⟩
      · rw [up_ne2 (by omega)]; exact h.2 k' ci hs j' hj'
    · rw [up_ne1 (by omega)]; exact h.2 k' ci' hs' j' hj'
/-! what is read only: the table of powers, the texts -/
def romL (z : Int) : List Int := if z = -2 then [1, 5, 25, 125, 625, 3125] else if z = -20 then rtxt0 else if z = -21 then rtxt1 else if z = -22 then rtxt2 else if z = -23 then rtxt3 else []
def romA (z i : Int) : Int := (romL z).getD i.toNat 0
def romN (z : Int) : Int := (romL z).length
