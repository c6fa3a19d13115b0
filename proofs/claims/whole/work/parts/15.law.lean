/-! laws, reckoned: codes as the reference numbers them (below 1000 a number, 1000 + k the word k, 3000 .. the signs) -/
def clM (x : Int) : Int := if 1000000 < x then 1000000 else if x < -1000000 then -1000000 else x
def bin (c a b : Int) : Int := if c = 3003 then (if a = b then 1 else 0) else if c = 3004 then (if a < b then 1 else 0) else if c = 3005 then (if b < a then 1 else 0) else if c = 3007 then (if a = 1 ∧ b = 1 then 1 else 0) else if c = 3008 then (if a = 1 ∨ b = 1 then 1 else 0) else clM (if c = 3000 then a + b else if c = 3001 then a - b else a * b)
def numV (x : Int) : Prop := -1000000 ≤ x ∧ x ≤ 1000000
theorem numV_mul {a b : Int} (ha : numV a) (hb : numV b) : -1000000000000 ≤ a * b ∧ a * b ≤ 1000000000000 := by
  have h1 : (a * b).natAbs = a.natAbs * b.natAbs := Int.natAbs_mul a b
  have h2 : a.natAbs ≤ 1000000 := by have := ha.1; have := ha.2; omega
  have h3 : b.natAbs ≤ 1000000 := by have := hb.1; have := hb.2; omega
  have h4 : a.natAbs * b.natAbs ≤ 1000000 * 1000000 := Nat.mul_le_mul h2 h3
  omega
theorem clM_num (x : Int) : numV (clM x) := by unfold clM numV; repeat' split <;> omega
section LW
variable {G : AG} {d : Nat} {M : AM}
theorem bool_and {a b : Int} (ha : a = 0 ∨ a = 1) (hb : b = 0 ∨ b = 1) : bAnd a b = if a = 1 ∧ b = 1 then 1 else 0 := by
  rcases ha with rfl | rfl <;> rcases hb with rfl | rfl <;> decide +kernel
theorem bool_or {a b : Int} (ha : a = 0 ∨ a = 1) (hb : b = 0 ∨ b = 1) : bOr a b = if a = 1 ∨ b = 1 then 1 else 0 := by
  rcases ha with rfl | rfl <;> rcases hb with rfl | rfl <;> decide +kernel
theorem c_Md_between {c a b : Int} (ha : numV a) (hb : numV b) (hc : 3000 ≤ c ∧ c ≤ 3008 ∧ c ≠ 3006) (ht : c = 3007 ∨ c = 3008 → (a = 0 ∨ a = 1) ∧ (b = 0 ∨ b = 1)) : MS G d mi_Md_between [vi c, vi a, vi b] M (fun r M' => r = some (vi (bin c a b)) ∧ M' = M) := by
  have hm := numV_mul ha hb
  obtain ⟨a1, a2⟩ := ha
  obtain ⟨b1, b2⟩ := hb
  refine MS.by ck_Md_between [some (vi c), some (vi a), some (vi b), none, none] fun _ _ => ?_
  have cl : ∀ x : Int, -1000000000000 ≤ x → x ≤ 1000000000000 → bin c a b = clM x → AW G d mi_Md_between (fun r M' => r = some (vi (bin c a b)) ∧ M' = M) 116 [some (vi c), some (vi a), some (vi b), none, none] [vl x] M := by
    intro x x1 x2 hx
    refine AW.run ck_Md_between [] 10 116 ?_
    simp only [wR, wB, wE0, wE1, wE2, wE3, g0, gS, s10, s11, s1S, s20, s21, s2S, kl0, kl1, kl2, kl3, sp0, sp1, sp2, sp3, cn1, cn2, cn3, cn4, cn5, cn6, jJa, lk0, lk1, jmS, jmN, s4_0, s4_1, s4_2, s4_3, s4_4, sw0, sw1, cKs, cKn, true_and, and_true, List.map_cons, List.map_nil, Nat.reduceAdd, Nat.zero_add, Int.reduceAdd, Nat.reduceEqDiff, reduceIte, Classical.not_not, b_Md_between, cmp3_lt, cmp3_le, cmp3_ge]
    refine ⟨fun h => ⟨fun h2 => ⟨⟨by omega, by omega⟩, ?_⟩, fun h2 => ⟨⟨by omega, by omega⟩, ?_⟩⟩, fun h => ⟨⟨by omega, by omega⟩, ?_⟩⟩
    · rw [hx]; unfold clM; rw [if_neg (by omega), if_neg (by omega)]
    · rw [hx]; unfold clM; rw [if_neg (by omega), if_pos (by omega)]
    · rw [hx]; unfold clM; rw [if_pos (by omega)]
  have d0 : (¬ c = 3003 ∧ ¬ c = 3004 ∧ ¬ c = 3005 ∧ ¬ c = 3007 ∧ ¬ c = 3008) → bin c a b = clM (if c = 3000 then a + b else if c = 3001 then a - b else a * b) := by
    intro h; unfold bin; rw [if_neg h.1, if_neg h.2.1, if_neg h.2.2.1, if_neg h.2.2.2.1, if_neg h.2.2.2.2]
  refine AW.run ck_Md_between [40, 51, 62, 73, 77, 81] 10 0 ?_
  simp only [wR, wB, wE0, wE1, wE2, wE3, g0, gS, s10, s11, s1S, s20, s21, s2S, kl0, kl1, kl2, kl3, sp0, sp1, sp2, sp3, cn1, cn2, cn3, cn4, cn5, cn6, jJa, lk0, lk1, jmS, jmN, s4_0, s4_1, s4_2, s4_3, s4_4, sw0, sw1, cKs, cKn, true_and, and_true, List.map_cons, List.map_nil, Nat.reduceAdd, Nat.zero_add, Int.reduceAdd, Nat.reduceEqDiff, reduceIte, Classical.not_not, b_Md_between]
  refine ⟨fun h => ?_, fun h => ?_, fun h => ?_, fun h => ?_, fun h => absurd h hc.2.2, fun h => ?_, fun h => ?_⟩
  · simp only [List.length_cons, List.length_nil] at h
    have e := d0 (by omega)
    refine AW.run ck_Md_between [116] 10 81 ?_
    simp only [wR, wB, wE0, wE1, wE2, wE3, g0, gS, s10, s11, s1S, s20, s21, s2S, kl0, kl1, kl2, kl3, sp0, sp1, sp2, sp3, cn1, cn2, cn3, cn4, cn5, cn6, jJa, lk0, lk1, jmS, jmN, s4_0, s4_1, s4_2, s4_3, s4_4, sw0, sw1, cKs, cKn, true_and, and_true, List.map_cons, List.map_nil, Nat.reduceAdd, Nat.zero_add, Int.reduceAdd, Nat.reduceEqDiff, reduceIte, Classical.not_not, b_Md_between]
    refine ⟨fun h1 => ⟨fun h2 => ⟨⟨by omega, by omega⟩, ?_⟩, fun h2 => ⟨⟨by omega, by omega⟩, ?_⟩⟩, fun h1 => ⟨⟨by omega, by omega⟩, ?_⟩⟩
    · rw [if_neg (by omega), if_neg (by omega)] at e; exact cl (a * b) (by omega) (by omega) e
    · rw [if_neg (by omega), if_pos (by omega)] at e; exact cl (a - b) (by omega) (by omega) e
    · rw [if_pos (by omega)] at e; exact cl (a + b) (by omega) (by omega) e
  · refine AW.run ck_Md_between [] 10 40 ?_
    simp only [wR, wB, wE0, wE1, wE2, wE3, g0, gS, s10, s11, s1S, s20, s21, s2S, kl0, kl1, kl2, kl3, sp0, sp1, sp2, sp3, cn1, cn2, cn3, cn4, cn5, cn6, jJa, lk0, lk1, jmS, jmN, s4_0, s4_1, s4_2, s4_3, s4_4, sw0, sw1, cKs, cKn, true_and, and_true, List.map_cons, List.map_nil, Nat.reduceAdd, Nat.zero_add, Int.reduceAdd, Nat.reduceEqDiff, reduceIte, Classical.not_not, b_Md_between]
    unfold bin; rw [if_pos h]
    exact ⟨fun q => by rw [if_neg q], fun q => by rw [if_pos q]⟩
  · refine AW.run ck_Md_between [] 10 51 ?_
    simp only [wR, wB, wE0, wE1, wE2, wE3, g0, gS, s10, s11, s1S, s20, s21, s2S, kl0, kl1, kl2, kl3, sp0, sp1, sp2, sp3, cn1, cn2, cn3, cn4, cn5, cn6, jJa, lk0, lk1, jmS, jmN, s4_0, s4_1, s4_2, s4_3, s4_4, sw0, sw1, cKs, cKn, true_and, and_true, List.map_cons, List.map_nil, Nat.reduceAdd, Nat.zero_add, Int.reduceAdd, Nat.reduceEqDiff, reduceIte, Classical.not_not, b_Md_between]
    unfold bin; rw [if_neg (by omega), if_pos h]
    exact ⟨fun q => by rw [if_neg (by omega)], fun q => by rw [if_pos (by omega)]⟩
  · refine AW.run ck_Md_between [] 10 62 ?_
    simp only [wR, wB, wE0, wE1, wE2, wE3, g0, gS, s10, s11, s1S, s20, s21, s2S, kl0, kl1, kl2, kl3, sp0, sp1, sp2, sp3, cn1, cn2, cn3, cn4, cn5, cn6, jJa, lk0, lk1, jmS, jmN, s4_0, s4_1, s4_2, s4_3, s4_4, sw0, sw1, cKs, cKn, true_and, and_true, List.map_cons, List.map_nil, Nat.reduceAdd, Nat.zero_add, Int.reduceAdd, Nat.reduceEqDiff, reduceIte, Classical.not_not, b_Md_between]
    unfold bin; rw [if_neg (by omega), if_neg (by omega), if_pos h]
    exact ⟨fun q => by rw [if_neg (by omega)], fun q => by rw [if_pos (by omega)]⟩
  · refine AW.run ck_Md_between [] 10 73 ?_
    simp only [wR, wB, wE0, wE1, wE2, wE3, g0, gS, s10, s11, s1S, s20, s21, s2S, kl0, kl1, kl2, kl3, sp0, sp1, sp2, sp3, cn1, cn2, cn3, cn4, cn5, cn6, jJa, lk0, lk1, jmS, jmN, s4_0, s4_1, s4_2, s4_3, s4_4, sw0, sw1, cKs, cKn, true_and, and_true, List.map_cons, List.map_nil, Nat.reduceAdd, Nat.zero_add, Int.reduceAdd, Nat.reduceEqDiff, reduceIte, Classical.not_not, b_Md_between]
    unfold bin; rw [if_neg (by omega), if_neg (by omega), if_neg (by omega), if_pos h, bool_and (ht (by omega)).1 (ht (by omega)).2]
  · refine AW.run ck_Md_between [] 10 77 ?_
    simp only [wR, wB, wE0, wE1, wE2, wE3, g0, gS, s10, s11, s1S, s20, s21, s2S, kl0, kl1, kl2, kl3, sp0, sp1, sp2, sp3, cn1, cn2, cn3, cn4, cn5, cn6, jJa, lk0, lk1, jmS, jmN, s4_0, s4_1, s4_2, s4_3, s4_4, sw0, sw1, cKs, cKn, true_and, and_true, List.map_cons, List.map_nil, Nat.reduceAdd, Nat.zero_add, Int.reduceAdd, Nat.reduceEqDiff, reduceIte, Classical.not_not, b_Md_between]
    unfold bin; rw [if_neg (by omega), if_neg (by omega), if_neg (by omega), if_neg (by omega), if_pos h, bool_or (ht (by omega)).1 (ht (by omega)).2]
end LW
