/-! the model's small methods -/
section MB
variable {G : AG} {d : Nat} {M : AM}
theorem c_Md_within {v lo hi : Int} : MS G d mi_Md_within [vl v, vl lo, vl hi] M (fun r M' => r = some (vi (if lo ≤ v ∧ v ≤ hi then 1 else 0)) ∧ M' = M) := by
  refine MS.run ck_Md_within [some (vl v), none, some (vl lo), none, some (vl hi), none] [] 10 fun _ _ => ?_
  simp only [wR, wB, wE0, wE1, wE2, wE3, g0, gS, s10, s11, s1S, s20, s21, s2S, kl0, kl1, kl2, kl3, sp0, sp1, sp2, sp3, cn1, cn2, cn3, cn4, cn5, cn6, jJa, lk0, lk1, jmS, jmN, s4_0, s4_1, s4_2, s4_3, s4_4, sw0, sw1, cKs, cKn, true_and, and_true, List.map_cons, List.map_nil, Nat.reduceAdd, Nat.zero_add, Int.reduceAdd, Nat.reduceEqDiff, reduceIte, Classical.not_not, b_Md_within, cmp3_lt, cmp3_gt]
  refine ⟨fun h => ⟨by omega, ?_⟩, fun h => ⟨fun h2 => ⟨by omega, ?_⟩, fun h2 => ⟨Or.inr trivial, ?_⟩⟩⟩
  · rw [if_neg (by omega)]
  · rw [if_neg (by omega)]
  · rw [if_pos (by omega)]
theorem lShr_n {a b : Nat} (ha : a < 2 ^ 31) (hb : b < 64) : lShr (a : Int) (b : Int) = ((a / 2 ^ b : Nat) : Int) := by
  have key : ∀ k, k < 64 → (((nI k).toInt64 &&& 63).toBitVec.smod 64).toNat = k := by decide +kernel
  unfold lShr
  rw [show i6 (a : Int) = lN a from rfl, i3_n]
  have e : (lN a >>> ((nI b).toInt64 &&& 63)).toInt = (lN a).toInt >>> b := by
    rw [Int64.toInt_shiftRight]
    sorry
  rw [e]
  sorry
theorem c_Md_bitsOf {a : Nat} (h1 : a < 32) : MS G d mi_Md_bitsOf [vi a] M (fun r M' => r = some (vi (pop a)) ∧ M' = M) := by
  sorry
theorem c_Md_placeOf {p : Nat} (hp : p ≤ 5) : MS G d mi_Md_placeOf [vi p] M (fun r M' => r = some (vi ((5 ^ p : Nat) : Int)) ∧ M' = M) := by
  refine MS.by ck_Md_placeOf [some (vi p), none, none] fun _ _ => ?_
  have loop : ∀ (m i : Nat), i + m = p → AW G d mi_Md_placeOf (fun r M' => r = some (vi ((5 ^ p : Nat) : Int)) ∧ M' = M) 4 [some (vi p), some (vi ((5 ^ i : Nat) : Int)), some (vi i)] [] M := by
    intro m
    induction m with
    | zero =>
      intro i hi
      refine AW.run ck_Md_placeOf [4] 8 4 ?_
      simp only [wR, wB, wE0, wE1, wE2, wE3, g0, gS, s10, s11, s1S, s20, s21, s2S, kl0, kl1, kl2, kl3, sp0, sp1, sp2, sp3, cn1, cn2, cn3, cn4, cn5, cn6, jJa, lk0, lk1, jmS, jmN, s4_0, s4_1, s4_2, s4_3, s4_4, sw0, sw1, cKs, cKn, true_and, and_true, List.map_cons, List.map_nil, Nat.reduceAdd, Nat.zero_add, Int.reduceAdd, Nat.reduceEqDiff, reduceIte, Classical.not_not, b_Md_placeOf]
      refine ⟨fun _ => ?_, fun h => absurd (by omega) h⟩
      rw [show i = p by omega]
    | succ m ih =>
      intro i hi
      have key := ih (i + 1) (by omega)
      have h5 : 5 ^ i ≤ 5 ^ 4 := Nat.pow_le_pow_right (by omega) (by omega)
      have e : ((5 ^ i : Nat) : Int) * 5 = ((5 ^ (i + 1) : Nat) : Int) := by rw [Nat.pow_succ]; omega
      refine AW.run ck_Md_placeOf [4] 8 4 ?_
      simp only [wR, wB, wE0, wE1, wE2, wE3, g0, gS, s10, s11, s1S, s20, s21, s2S, kl0, kl1, kl2, kl3, sp0, sp1, sp2, sp3, cn1, cn2, cn3, cn4, cn5, cn6, jJa, lk0, lk1, jmS, jmN, s4_0, s4_1, s4_2, s4_3, s4_4, sw0, sw1, cKs, cKn, true_and, and_true, List.map_cons, List.map_nil, Nat.reduceAdd, Nat.zero_add, Int.reduceAdd, Nat.reduceEqDiff, reduceIte, Classical.not_not, b_Md_placeOf, ce, e]
      exact ⟨fun h => absurd h (by omega), fun _ => ⟨⟨by omega, by omega⟩, ⟨by omega, by omega⟩, key⟩⟩
  refine AW.run ck_Md_placeOf [4] 8 0 ?_
  simp only [wR, wB, wE0, wE1, wE2, wE3, g0, gS, s10, s11, s1S, s20, s21, s2S, kl0, kl1, kl2, kl3, sp0, sp1, sp2, sp3, cn1, cn2, cn3, cn4, cn5, cn6, jJa, lk0, lk1, jmS, jmN, s4_0, s4_1, s4_2, s4_3, s4_4, sw0, sw1, cKs, cKn, true_and, and_true, List.map_cons, List.map_nil, Nat.reduceAdd, Nat.zero_add, Int.reduceAdd, Nat.reduceEqDiff, reduceIte, Classical.not_not, b_Md_placeOf]
  exact loop p 0 (by omega)
/-- the strength of p in a stand -/
def dig (s p : Nat) : Nat := s / 5 ^ p % 5
theorem c_Md_strengthIn {s p : Nat} (hd : 1 ≤ d) (hp : p ≤ 5) : MS G d mi_Md_strengthIn [vi s, vi p] M (fun r M' => r = some (vi (dig s p)) ∧ M' = M) := by
  refine MS.run ck_Md_strengthIn [some (vi s), some (vi p)] [] 10 fun _ _ => ?_
  simp only [wR, wB, wE0, wE1, wE2, wE3, g0, gS, s10, s11, s1S, s20, s21, s2S, kl0, kl1, kl2, kl3, sp0, sp1, sp2, sp3, cn1, cn2, cn3, cn4, cn5, cn6, jJa, lk0, lk1, jmS, jmN, s4_0, s4_1, s4_2, s4_3, s4_4, sw0, sw1, cKs, cKn, true_and, and_true, List.map_cons, List.map_nil, Nat.reduceAdd, Nat.zero_add, Int.reduceAdd, Nat.reduceEqDiff, reduceIte, Classical.not_not, b_Md_strengthIn]
  refine ⟨hd, MS.to (c_Md_placeOf hp) fun _ => ?_⟩
  have h5 : 0 < 5 ^ p := Nat.pow_pos (by omega)
  simp only [wR, wB, wE0, wE1, wE2, wE3, g0, gS, s10, s11, s1S, s20, s21, s2S, kl0, kl1, kl2, kl3, sp0, sp1, sp2, sp3, cn1, cn2, cn3, cn4, cn5, cn6, jJa, lk0, lk1, jmS, jmN, s4_0, s4_1, s4_2, s4_3, s4_4, sw0, sw1, cKs, cKn, true_and, and_true, List.map_cons, List.map_nil, Nat.reduceAdd, Nat.zero_add, Int.reduceAdd, Nat.reduceEqDiff, reduceIte, Classical.not_not, b_Md_strengthIn]
  have e : ((s : Int) / ((5 ^ p : Nat) : Int)) % 5 = ((dig s p : Nat) : Int) := by unfold dig; omega
  refine ⟨by omega, by omega, Int.ediv_nonneg (by omega) (by omega), by omega, ?_⟩
  rw [e]
theorem c_Md_standNow {P : Nat} {st : Nat → Nat} (hP : M 118 1 = P) (hP5 : P ≤ 5) (hst : ∀ p : Nat, p < P → M 118 (24 + (p : Int)) = st p ∧ st p ≤ 4) : MS G d mi_Md_standNow [vr 117] M (fun r M' => r = some (vi (codN 31 (fun p => if p < P then st p else 0) 5)) ∧ M' = M) := by
  refine MS.by ck_Md_standNow [some (vr 117), none, none] fun _ _ => ?_
  simp only [wR, wB, wE0, wE1, wE2, wE3, g0, gS, s10, s11, s1S, s20, s21, s2S, kl0, kl1, kl2, kl3, sp0, sp1, sp2, sp3, cn1, cn2, cn3, cn4, cn5, cn6, jJa, lk0, lk1, jmS, jmN, s4_0, s4_1, s4_2, s4_3, s4_4, sw0, sw1, cKs, cKn, true_and, and_true, List.map_cons, List.map_nil, Nat.reduceAdd, Nat.zero_add, Int.reduceAdd, Nat.reduceEqDiff, reduceIte, Classical.not_not, b_Md_standNow, shMd]
  sorry
end MB
