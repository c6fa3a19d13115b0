/-! the class's laws -/
def cc (c : Int) : Int := if c < 3000 then c else c - 1000
section CL
variable {G : AG} {d : Nat} {M : AM}
theorem c_La_reckoned {c a b : Int} (ha : numV a) (hb : numV b) (hc : 3000 ≤ c ∧ c ≤ 3002) : MS G d mi_La_reckoned [vi (c - 1000), vl a, vl b] M (fun r M' => r = some (vi (bin c a b)) ∧ M' = M) := by
  have hm := numV_mul ha hb
  obtain ⟨a1, a2⟩ := ha
  obtain ⟨b1, b2⟩ := hb
  have e : bin c a b = clM (if c = 3000 then a + b else if c = 3001 then a - b else a * b) := by
    unfold bin; rw [if_neg (by omega), if_neg (by omega), if_neg (by omega), if_neg (by omega), if_neg (by omega)]
  refine MS.by ck_La_reckoned [some (vi (c - 1000)), some (vl a), none, some (vl b), none, none, none] fun _ _ => ?_
  have cl : ∀ x : Int, -1000000000000 ≤ x → x ≤ 1000000000000 → bin c a b = clM x → AW G d mi_La_reckoned (fun r M' => r = some (vi (bin c a b)) ∧ M' = M) 29 [some (vi (c - 1000)), some (vl a), none, some (vl b), none, none, none] [vl x] M := by
    intro x x1 x2 hx
    refine AW.run ck_La_reckoned [] 10 29 ?_
    simp only [wR, wB, wE0, wE1, wE2, wE3, g0, gS, s10, s11, s1S, s20, s21, s2S, kl0, kl1, kl2, kl3, sp0, sp1, sp2, sp3, cn1, cn2, cn3, cn4, cn5, cn6, jJa, lk0, lk1, jmS, jmN, s4_0, s4_1, s4_2, s4_3, s4_4, sw0, sw1, cKs, cKn, true_and, and_true, List.map_cons, List.map_nil, Nat.reduceAdd, Nat.zero_add, Int.reduceAdd, Nat.reduceEqDiff, reduceIte, Classical.not_not, b_La_reckoned, cmp3_lt, cmp3_le, cmp3_ge]
    rw [hx]
    unfold clM
    (repeat' (first | omega | exact ⟨by omega, by omega⟩ | (with_reducible exact Or.inr trivial) | (with_reducible exact Or.inl trivial) | (with_reducible assumption) | (with_reducible exact Same.refl) | (with_reducible rfl) | (with_reducible refine And.intro ?_ ?_) | (with_reducible intro _)))
    · rw [if_neg (by omega), if_neg (by omega)]
    · rw [if_neg (by omega), if_pos (by omega)]
    · rw [if_pos (by omega)]
  refine AW.run ck_La_reckoned [29] 10 0 ?_
  simp only [wR, wB, wE0, wE1, wE2, wE3, g0, gS, s10, s11, s1S, s20, s21, s2S, kl0, kl1, kl2, kl3, sp0, sp1, sp2, sp3, cn1, cn2, cn3, cn4, cn5, cn6, jJa, lk0, lk1, jmS, jmN, s4_0, s4_1, s4_2, s4_3, s4_4, sw0, sw1, cKs, cKn, true_and, and_true, List.map_cons, List.map_nil, Nat.reduceAdd, Nat.zero_add, Int.reduceAdd, Nat.reduceEqDiff, reduceIte, Classical.not_not, b_La_reckoned]
  (repeat' (first | omega | exact ⟨by omega, by omega⟩ | (with_reducible exact Or.inr trivial) | (with_reducible exact Or.inl trivial) | (with_reducible assumption) | (with_reducible exact Same.refl) | (with_reducible rfl) | (with_reducible refine And.intro ?_ ?_) | (with_reducible intro _)))
  · exact cl _ (by omega) (by omega) (by rw [e, if_neg (by omega), if_pos (by omega)])
  · exact cl _ (by omega) (by omega) (by rw [e, if_pos (by omega)])
  · exact cl _ (by omega) (by omega) (by rw [e, if_neg (by omega), if_neg (by omega)])
theorem c_La_compared {c a b : Int} (hc : 3003 ≤ c ∧ c ≤ 3008 ∧ c ≠ 3006) (ht : c = 3007 ∨ c = 3008 → (a = 0 ∨ a = 1) ∧ (b = 0 ∨ b = 1)) : MS G d mi_La_compared [vi (c - 1000), vl a, vl b] M (fun r M' => r = some (vi (bin c a b)) ∧ M' = M) := by
  refine MS.by ck_La_compared [some (vi (c - 1000)), some (vl a), none, some (vl b), none, none] fun _ _ => ?_
  have fin : ∀ x : Int, (x = 0 ∨ x = 1) → bin c a b = x → AW G d mi_La_compared (fun r M' => r = some (vi (bin c a b)) ∧ M' = M) 114 [some (vi (c - 1000)), some (vl a), none, some (vl b), none, some (vi x)] [] M := by
    intro x hx e
    refine AW.run ck_La_compared [] 10 114 ?_
    simp only [wR, wB, wE0, wE1, wE2, wE3, g0, gS, s10, s11, s1S, s20, s21, s2S, kl0, kl1, kl2, kl3, sp0, sp1, sp2, sp3, cn1, cn2, cn3, cn4, cn5, cn6, jJa, lk0, lk1, jmS, jmN, s4_0, s4_1, s4_2, s4_3, s4_4, sw0, sw1, cKs, cKn, true_and, and_true, List.map_cons, List.map_nil, Nat.reduceAdd, Nat.zero_add, Int.reduceAdd, Nat.reduceEqDiff, reduceIte, Classical.not_not, b_La_compared]
    rw [e]
    (repeat' (first | omega | exact ⟨by omega, by omega⟩ | (with_reducible exact Or.inr trivial) | (with_reducible exact Or.inl trivial) | (with_reducible assumption) | (with_reducible exact Same.refl) | (with_reducible rfl) | (with_reducible refine And.intro ?_ ?_) | (with_reducible intro _)))
    · rw [show x = 0 by omega]
    · rw [show x = 1 by omega]
  have mid : ∀ x : Int, (x = 0 ∨ x = 1) → (x = 1 ↔ (a ≠ 0 ∨ b ≠ 0)) → AW G d mi_La_compared (fun r M' => r = some (vi (bin c a b)) ∧ M' = M) 17 [some (vi (c - 1000)), some (vl a), none, some (vl b), none, none] [vi x] M := by
    intro x hx e
    refine AW.run ck_La_compared [114] 10 17 ?_
    simp only [wR, wB, wE0, wE1, wE2, wE3, g0, gS, s10, s11, s1S, s20, s21, s2S, kl0, kl1, kl2, kl3, sp0, sp1, sp2, sp3, cn1, cn2, cn3, cn4, cn5, cn6, jJa, lk0, lk1, jmS, jmN, s4_0, s4_1, s4_2, s4_3, s4_4, sw0, sw1, cKs, cKn, true_and, and_true, List.map_cons, List.map_nil, Nat.reduceAdd, Nat.zero_add, Int.reduceAdd, Nat.reduceEqDiff, reduceIte, Classical.not_not, b_La_compared, cmp3_lt, cmp3_le, cmp3_ge, cmp3_eq]
    (repeat' (first | omega | exact ⟨by omega, by omega⟩ | (with_reducible exact Or.inr trivial) | (with_reducible exact Or.inl trivial) | (with_reducible assumption) | (with_reducible exact Same.refl) | (with_reducible rfl) | (with_reducible refine And.intro ?_ ?_) | (with_reducible intro _)))
    all_goals
      refine fin _ (by omega) ?_
      unfold bin
    all_goals first
      | (rw [if_pos (by omega), if_pos (by omega)]; done)
      | (rw [if_pos (by omega), if_neg (by omega)]; done)
      | (rw [if_neg (by omega), if_pos (by omega), if_pos (by omega)]; done)
      | (rw [if_neg (by omega), if_pos (by omega), if_neg (by omega)]; done)
      | (rw [if_neg (by omega), if_neg (by omega), if_pos (by omega), if_pos (by omega)]; done)
      | (rw [if_neg (by omega), if_neg (by omega), if_pos (by omega), if_neg (by omega)]; done)
      | (have hb := ht (by omega); rw [if_neg (by omega), if_neg (by omega), if_neg (by omega), if_pos (by omega)]; split <;> omega)
      | (have hb := ht (by omega); rw [if_neg (by omega), if_neg (by omega), if_neg (by omega), if_neg (by omega), if_pos (by omega)]; split <;> omega)
  refine AW.run ck_La_compared [17] 10 0 ?_
  simp only [wR, wB, wE0, wE1, wE2, wE3, g0, gS, s10, s11, s1S, s20, s21, s2S, kl0, kl1, kl2, kl3, sp0, sp1, sp2, sp3, cn1, cn2, cn3, cn4, cn5, cn6, jJa, lk0, lk1, jmS, jmN, s4_0, s4_1, s4_2, s4_3, s4_4, sw0, sw1, cKs, cKn, true_and, and_true, List.map_cons, List.map_nil, Nat.reduceAdd, Nat.zero_add, Int.reduceAdd, Nat.reduceEqDiff, reduceIte, Classical.not_not, b_La_compared, cmp3_eq]
  (repeat' (first | omega | exact ⟨by omega, by omega⟩ | (with_reducible exact Or.inr trivial) | (with_reducible exact Or.inl trivial) | (with_reducible assumption) | (with_reducible exact Same.refl) | (with_reducible rfl) | (with_reducible refine And.intro ?_ ?_) | (with_reducible intro _)))
  all_goals exact mid _ (by omega) (by omega)
theorem c_La_valueOf {i v : Int} (hv : arT v .int) (hl : alen v = 9) (h0 : 0 ≤ i) (h9 : i < 9) : MS G d mi_La_valueOf [vi i, vr v] M (fun r M' => r = some (vi (M v i)) ∧ M' = M) := by
  refine MS.run ck_La_valueOf [some (vi i), some (vr v)] [] 10 fun _ _ => ?_
  simp only [wR, wB, wE0, wE1, wE2, wE3, g0, gS, s10, s11, s1S, s20, s21, s2S, kl0, kl1, kl2, kl3, sp0, sp1, sp2, sp3, cn1, cn2, cn3, cn4, cn5, cn6, jJa, lk0, lk1, jmS, jmN, s4_0, s4_1, s4_2, s4_3, s4_4, sw0, sw1, cKs, cKn, true_and, and_true, List.map_cons, List.map_nil, Nat.reduceAdd, Nat.zero_add, Int.reduceAdd, Nat.reduceEqDiff, reduceIte, Classical.not_not, b_La_valueOf, hv, hl, isArr_of hv]
  (repeat' (first | omega | exact ⟨by omega, by omega⟩ | (with_reducible exact Or.inr trivial) | (with_reducible exact Or.inl trivial) | (with_reducible assumption) | (with_reducible exact Same.refl) | (with_reducible rfl) | (with_reducible refine And.intro ?_ ?_) | (with_reducible intro _)))
theorem c_La_operate {c s : Int} {w : Int → Int} {t t' : List Bool} {st : List Int} (hd : 1 ≤ d) (hs : arT s .int) (hsl : alen s = 100) (hc : 3000 ≤ c) (hk : kd t st) (ht : tst c t = some t') (hst : stkAt M s st) (hl : st.length ≤ 100) :
    MS G d mi_La_operate [vi (c - 1000), vr s, vi (st.length : Nat)] M (fun r M' => r = some (vi ((stp c w st).length : Nat)) ∧ stkAt M' s (stp c w st) ∧ Same [s] M M') := by
  refine MS.by ck_La_operate [some (vi (c - 1000)), some (vr s), some (vi (st.length : Nat)), none, none, none, none] fun _ _ => ?_
  rcases stp_cases (w := w) hk ht with ⟨c0, c1, e⟩ | ⟨c0, x, s', es, hx, e⟩ | ⟨c0, ee, th, bb, s', es, hb, hnt, hne, e⟩ | ⟨c0, c1, c2, a, bb, s', es, hna, hnb, hbb, e⟩
  · omega
  · subst es
    rw [e]
    have h1 := hst.1
    simp only [List.length_cons] at hl ⊢
    refine AW.run ck_La_operate [26] 10 0 ?_
    simp only [wR, wB, wE0, wE1, wE2, wE3, g0, gS, s10, s11, s1S, s20, s21, s2S, kl0, kl1, kl2, kl3, sp0, sp1, sp2, sp3, cn1, cn2, cn3, cn4, cn5, cn6, jJa, lk0, lk1, jmS, jmN, s4_0, s4_1, s4_2, s4_3, s4_4, sw0, sw1, cKs, cKn, true_and, and_true, List.map_cons, List.map_nil, Nat.reduceAdd, Nat.zero_add, Int.reduceAdd, Nat.reduceEqDiff, reduceIte, Classical.not_not, b_La_operate, hs, hsl, isArr_of hs]
    rw [show (((s'.length + 1 : Nat) : Int) - 1) = (s'.length : Int) by omega, h1]
    (repeat' (first | omega | exact ⟨by omega, by omega⟩ | (with_reducible exact Or.inr trivial) | (with_reducible exact Or.inl trivial) | (with_reducible assumption) | (with_reducible exact Same.refl) | (with_reducible rfl) | (with_reducible refine And.intro ?_ ?_) | (with_reducible intro _)))
    · exact ⟨by rw [up_eq], stk_up _ (Int.le_refl _) hst.2⟩
    · exact Same.refl.up (by simp)
  · subst es
    rw [e]
    obtain ⟨q1, q2, q3, q4⟩ := hst
    simp only [List.length_cons] at hl q1 q2 q3 ⊢
    refine AW.run ck_La_operate [26] 10 0 ?_
    simp only [wR, wB, wE0, wE1, wE2, wE3, g0, gS, s10, s11, s1S, s20, s21, s2S, kl0, kl1, kl2, kl3, sp0, sp1, sp2, sp3, cn1, cn2, cn3, cn4, cn5, cn6, jJa, lk0, lk1, jmS, jmN, s4_0, s4_1, s4_2, s4_3, s4_4, sw0, sw1, cKs, cKn, true_and, and_true, List.map_cons, List.map_nil, Nat.reduceAdd, Nat.zero_add, Int.reduceAdd, Nat.reduceEqDiff, reduceIte, Classical.not_not, b_La_operate, hs, hsl, isArr_of hs]
    (repeat' (first | omega | exact ⟨by omega, by omega⟩ | (with_reducible exact Or.inr trivial) | (with_reducible exact Or.inl trivial) | (with_reducible assumption) | (with_reducible exact Same.refl) | (with_reducible rfl) | (with_reducible refine And.intro ?_ ?_) | (with_reducible intro _)))
    refine AW.run ck_La_operate [68] 10 26 ?_
    simp only [wR, wB, wE0, wE1, wE2, wE3, g0, gS, s10, s11, s1S, s20, s21, s2S, kl0, kl1, kl2, kl3, sp0, sp1, sp2, sp3, cn1, cn2, cn3, cn4, cn5, cn6, jJa, lk0, lk1, jmS, jmN, s4_0, s4_1, s4_2, s4_3, s4_4, sw0, sw1, cKs, cKn, true_and, and_true, List.map_cons, List.map_nil, Nat.reduceAdd, Nat.zero_add, Int.reduceAdd, Nat.reduceEqDiff, reduceIte, Classical.not_not, b_La_operate, hs, hsl, isArr_of hs]
    rw [show (((s'.length + 1 + 1 + 1 : Nat) : Int) - 3) = (s'.length : Int) by omega, show (((s'.length + 1 + 1 + 1 : Nat) : Int) - 2) = ((s'.length + 1 : Nat) : Int) by omega, show (((s'.length + 1 + 1 + 1 : Nat) : Int) - 1) = ((s'.length + 1 + 1 : Nat) : Int) by omega, q1, q2, q3]
    (repeat' (first | omega | exact ⟨by omega, by omega⟩ | (with_reducible exact Or.inr trivial) | (with_reducible exact Or.inl trivial) | (with_reducible assumption) | (with_reducible exact Same.refl) | (with_reducible rfl) | (with_reducible refine And.intro ?_ ?_) | (with_reducible intro _)))
    · exact ⟨by rw [up_eq, if_neg (by omega)], stk_up _ (Int.le_refl _) q4⟩
    · exact Same.refl.up (by simp)
    · exact ⟨by rw [up_eq, if_pos (by omega)], stk_up _ (Int.le_refl _) q4⟩
    · exact Same.refl.up (by simp)
  · subst es
    rw [e]
    obtain ⟨q1, q2, q3⟩ := hst
    simp only [List.length_cons] at hl q1 q2 ⊢
    refine AW.run ck_La_operate [26] 10 0 ?_
    simp only [wR, wB, wE0, wE1, wE2, wE3, g0, gS, s10, s11, s1S, s20, s21, s2S, kl0, kl1, kl2, kl3, sp0, sp1, sp2, sp3, cn1, cn2, cn3, cn4, cn5, cn6, jJa, lk0, lk1, jmS, jmN, s4_0, s4_1, s4_2, s4_3, s4_4, sw0, sw1, cKs, cKn, true_and, and_true, List.map_cons, List.map_nil, Nat.reduceAdd, Nat.zero_add, Int.reduceAdd, Nat.reduceEqDiff, reduceIte, Classical.not_not, b_La_operate, hs, hsl, isArr_of hs]
    (repeat' (first | omega | exact ⟨by omega, by omega⟩ | (with_reducible exact Or.inr trivial) | (with_reducible exact Or.inl trivial) | (with_reducible assumption) | (with_reducible exact Same.refl) | (with_reducible rfl) | (with_reducible refine And.intro ?_ ?_) | (with_reducible intro _)))
    refine AW.run ck_La_operate [68] 10 26 ?_
    simp only [wR, wB, wE0, wE1, wE2, wE3, g0, gS, s10, s11, s1S, s20, s21, s2S, kl0, kl1, kl2, kl3, sp0, sp1, sp2, sp3, cn1, cn2, cn3, cn4, cn5, cn6, jJa, lk0, lk1, jmS, jmN, s4_0, s4_1, s4_2, s4_3, s4_4, sw0, sw1, cKs, cKn, true_and, and_true, List.map_cons, List.map_nil, Nat.reduceAdd, Nat.zero_add, Int.reduceAdd, Nat.reduceEqDiff, reduceIte, Classical.not_not, b_La_operate, hs, hsl, isArr_of hs]
    (repeat' (first | omega | exact ⟨by omega, by omega⟩ | (with_reducible exact Or.inr trivial) | (with_reducible exact Or.inl trivial) | (with_reducible assumption) | (with_reducible exact Same.refl) | (with_reducible rfl) | (with_reducible refine And.intro ?_ ?_) | (with_reducible intro _)))
    refine AW.run ck_La_operate [] 10 68 ?_
    simp only [wR, wB, wE0, wE1, wE2, wE3, g0, gS, s10, s11, s1S, s20, s21, s2S, kl0, kl1, kl2, kl3, sp0, sp1, sp2, sp3, cn1, cn2, cn3, cn4, cn5, cn6, jJa, lk0, lk1, jmS, jmN, s4_0, s4_1, s4_2, s4_3, s4_4, sw0, sw1, cKs, cKn, true_and, and_true, List.map_cons, List.map_nil, Nat.reduceAdd, Nat.zero_add, Int.reduceAdd, Nat.reduceEqDiff, reduceIte, Classical.not_not, b_La_operate, hs, hsl, isArr_of hs]
    rw [show (((s'.length + 1 + 1 : Nat) : Int) - 2) = (s'.length : Int) by omega, show (((s'.length + 1 + 1 : Nat) : Int) - 1) = ((s'.length + 1 : Nat) : Int) by omega, q1, q2]
    (repeat' (first | omega | exact ⟨by omega, by omega⟩ | (with_reducible exact Or.inr trivial) | (with_reducible exact Or.inl trivial) | (with_reducible assumption) | (with_reducible exact Same.refl) | (with_reducible rfl) | (with_reducible refine And.intro ?_ ?_) | (with_reducible intro _)))
    · refine MS.to (c_La_compared ⟨by omega, by omega, by omega⟩ hbb) fun _ => ?_
      simp only [wR, wB, wE0, wE1, wE2, wE3, g0, gS, s10, s11, s1S, s20, s21, s2S, kl0, kl1, kl2, kl3, sp0, sp1, sp2, sp3, cn1, cn2, cn3, cn4, cn5, cn6, jJa, lk0, lk1, jmS, jmN, s4_0, s4_1, s4_2, s4_3, s4_4, sw0, sw1, cKs, cKn, true_and, and_true, List.map_cons, List.map_nil, Nat.reduceAdd, Nat.zero_add, Int.reduceAdd, Nat.reduceEqDiff, reduceIte, Classical.not_not, b_La_operate, hs, hsl, isArr_of hs]
      rw [show (((s'.length + 1 + 1 : Nat) : Int) - 1) = ((s'.length + 1 : Nat) : Int) by omega]
      (repeat' (first | omega | exact ⟨by omega, by omega⟩ | (with_reducible exact Or.inr trivial) | (with_reducible exact Or.inl trivial) | (with_reducible assumption) | (with_reducible exact Same.refl) | (with_reducible rfl) | (with_reducible refine And.intro ?_ ?_) | (with_reducible intro _)))
      · exact ⟨by rw [up_eq], stk_up _ (Int.le_refl _) q3⟩
      · exact Same.refl.up (by simp)
    · refine MS.to (c_La_reckoned hna hnb ⟨by omega, by omega⟩) fun _ => ?_
      simp only [wR, wB, wE0, wE1, wE2, wE3, g0, gS, s10, s11, s1S, s20, s21, s2S, kl0, kl1, kl2, kl3, sp0, sp1, sp2, sp3, cn1, cn2, cn3, cn4, cn5, cn6, jJa, lk0, lk1, jmS, jmN, s4_0, s4_1, s4_2, s4_3, s4_4, sw0, sw1, cKs, cKn, true_and, and_true, List.map_cons, List.map_nil, Nat.reduceAdd, Nat.zero_add, Int.reduceAdd, Nat.reduceEqDiff, reduceIte, Classical.not_not, b_La_operate, hs, hsl, isArr_of hs]
      rw [show (((s'.length + 1 + 1 : Nat) : Int) - 1) = ((s'.length + 1 : Nat) : Int) by omega]
      (repeat' (first | omega | exact ⟨by omega, by omega⟩ | (with_reducible exact Or.inr trivial) | (with_reducible exact Or.inl trivial) | (with_reducible assumption) | (with_reducible exact Same.refl) | (with_reducible rfl) | (with_reducible refine And.intro ?_ ?_) | (with_reducible intro _)))
      · exact ⟨by rw [up_eq], stk_up _ (Int.le_refl _) q3⟩
      · exact Same.refl.up (by simp)
/-- a law in the class's memory -/
def CLaw (M : AM) (z : Int) (n : Nat) (code : Nat → Int) : Prop := M z 1 = n ∧ ∀ k : Nat, k < n → M (z + 1) (k : Int) = cc (code k)
theorem c_La_worked {z v s : Int} {n : Nat} {code : Nat → Int} {w : Int → Int} {b : Bool} (hd : 2 ≤ d) (hz : isO z 3) (hv : arT v .int) (hvl : alen v = 9) (hs : arT s .int) (hsl : alen s = 100) (hne : v ≠ s) (hzs : z + 1 ≠ s) (hn : n ≤ 900) (hL : CLaw M z n code) (hwf : WfL code n b)
    (hw : ∀ k : Nat, k < n → 1000 ≤ code k → code k < 1009 → M v (code k - 1000) = w (code k - 1000)) (hnum : ∀ j : Int, 0 ≤ j → j < 9 → numV (w j)) :
    MS G d mi_La_worked [vr z, vr v, vr s] M (fun r M' => (∃ x, r = some (vi x) ∧ vals code w n = [x]) ∧ Same [s] M M') := by
  have hz1 := isO_arT hz hs
  have hlc := sh_La hz
  refine MS.by ck_La_worked [some (vr z), some (vr v), some (vr s), none, none, none] fun _ _ => ?_
  generalize hQ : (fun (r : Option AV) (M' : AM) => (∃ x, r = some (vi x) ∧ vals code w n = [x]) ∧ Same [s] M M') = Q
  have loop : ∀ (m k : Nat) (N : AM) (l : Option AV), k + m = n → Same [s] M N → stkAt N s (vals code w k) → AW G d mi_La_worked Q 5 [some (vr z), some (vr v), some (vr s), some (vi ((vals code w k).length : Nat)), some (vi k), l] [] N := by
    intro m
    induction m with
    | zero =>
      intro k N l hk hsm hst
      obtain rfl : k = n := by omega
      have hvk := vals_kd hnum k _ hwf.2
      obtain ⟨x, hx⟩ : ∃ x, vals code w k = [x] := by
        have := kd_len _ _ hvk
        match hh : vals code w k, this with
        | [x], _ => exact ⟨x, rfl⟩
      rw [hx] at hst ⊢
      have hx0 := hst.1
      simp only [List.length_nil] at hx0
      refine AW.run ck_La_worked [5] 10 5 ?_
      simp only [wR, wB, wE0, wE1, wE2, wE3, g0, gS, s10, s11, s1S, s20, s21, s2S, kl0, kl1, kl2, kl3, sp0, sp1, sp2, sp3, cn1, cn2, cn3, cn4, cn5, cn6, jJa, lk0, lk1, jmS, jmN, s4_0, s4_1, s4_2, s4_3, s4_4, sw0, sw1, cKs, cKn, true_and, and_true, List.map_cons, List.map_nil, Nat.reduceAdd, Nat.zero_add, Int.reduceAdd, Nat.reduceEqDiff, reduceIte, Classical.not_not, b_La_worked, hz, hlc, hs, hsl, isArr_of hlc.1, hsm.at z _ (by (first | decide | (simp only [List.mem_cons, List.not_mem_nil, or_false, not_or, not_false_eq_true, and_true]; omega) | (simp [List.mem_cons]; done))), hL.1, List.length_cons, List.length_nil]
      rw [show (((0 + 1 : Nat) : Int) - 1) = ((0 : Nat) : Int) by omega, hx0]
      subst hQ
      (repeat' (first | omega | exact ⟨by omega, by omega⟩ | (with_reducible exact Or.inr trivial) | (with_reducible exact Or.inl trivial) | (with_reducible assumption) | (with_reducible exact Same.refl) | (with_reducible rfl) | (with_reducible refine And.intro ?_ ?_) | (with_reducible intro _)))
      exact ⟨x, rfl, hx⟩
    | succ m ih =>
      intro k N l hk hsm hst
      have hkn : k < n := by omega
      obtain ⟨t, ht, htl⟩ := hwf.1 k (by omega)
      obtain ⟨t', ht', htl'⟩ := hwf.1 (k + 1) (by omega)
      have hvk := vals_kd hnum k _ ht
      have hl := kd_len _ _ hvk
      have hl' := kd_len _ _ (vals_kd hnum (k + 1) _ ht')
      have hts : tst (code k) t = some t' := by simp only [tys, ht, Option.bind_some] at ht'; exact ht'
      have hc := hL.2 k hkn
      have fin : ∀ (N' : AM), Same [s] N N' → stkAt N' s (vals code w (k + 1)) → AW G d mi_La_worked Q 88 [some (vr z), some (vr v), some (vr s), some (vi ((vals code w (k + 1)).length : Nat)), some (vi k), some (vi (cc (code k)))] [] N' := by
        intro N' hs' hst'
        refine AW.run ck_La_worked [5] 8 88 ?_
        simp only [wR, wB, wE0, wE1, wE2, wE3, g0, gS, s10, s11, s1S, s20, s21, s2S, kl0, kl1, kl2, kl3, sp0, sp1, sp2, sp3, cn1, cn2, cn3, cn4, cn5, cn6, jJa, lk0, lk1, jmS, jmN, s4_0, s4_1, s4_2, s4_3, s4_4, sw0, sw1, cKs, cKn, true_and, and_true, List.map_cons, List.map_nil, Nat.reduceAdd, Nat.zero_add, Int.reduceAdd, Nat.reduceEqDiff, reduceIte, Classical.not_not, b_La_worked, ce]
        (repeat' (first | omega | exact ⟨by omega, by omega⟩ | (with_reducible exact Or.inr trivial) | (with_reducible exact Or.inl trivial) | (with_reducible assumption) | (with_reducible exact Same.refl) | (with_reducible rfl) | (with_reducible refine And.intro ?_ ?_) | (with_reducible intro _)))
        exact ih (k + 1) N' _ (by omega) (hsm.trans hs') hst'
      have hsp := stp_cases (w := w) hvk hts
      refine AW.run ck_La_worked [52, 88] 8 5 ?_
      simp only [wR, wB, wE0, wE1, wE2, wE3, g0, gS, s10, s11, s1S, s20, s21, s2S, kl0, kl1, kl2, kl3, sp0, sp1, sp2, sp3, cn1, cn2, cn3, cn4, cn5, cn6, jJa, lk0, lk1, jmS, jmN, s4_0, s4_1, s4_2, s4_3, s4_4, sw0, sw1, cKs, cKn, true_and, and_true, List.map_cons, List.map_nil, Nat.reduceAdd, Nat.zero_add, Int.reduceAdd, Nat.reduceEqDiff, reduceIte, Classical.not_not, b_La_worked, hz, hlc, hs, hsl, isArr_of hlc.1, hsm.at z _ (by (first | decide | (simp only [List.mem_cons, List.not_mem_nil, or_false, not_or, not_false_eq_true, and_true]; omega) | (simp [List.mem_cons]; done))), hsm.at (z + 1) _ (by (first | decide | (simp only [List.mem_cons, List.not_mem_nil, or_false, not_or, not_false_eq_true, and_true]; omega) | (simp [List.mem_cons]; done))), hL.1, hc]
      (repeat' (first | omega | exact ⟨by omega, by omega⟩ | (with_reducible exact Or.inr trivial) | (with_reducible exact Or.inl trivial) | (with_reducible assumption) | (with_reducible exact Same.refl) | (with_reducible rfl) | (with_reducible refine And.intro ?_ ?_) | (with_reducible intro _)))
      · have hlt : code k < 3000 := by
          rcases Int.lt_or_le (code k) 3000 with q | q
          · exact q
          · exfalso
            have : cc (code k) = code k - 1000 := by unfold cc; rw [if_neg (by omega)]
            omega
        have ecc : cc (code k) = code k := by unfold cc; rw [if_pos hlt]
        rcases hsp with ⟨c0, c1, e⟩ | ⟨c0, x, s', es, hx, e⟩ | ⟨c0, ee, th, bb, s', es, hb, hnt, hne, e⟩ | ⟨c0, c1, c2, a, bb, s', es, hna, hnb, hbb, e⟩
        · have e2 : (vals code w (k + 1)).length = (vals code w k).length + 1 := by rw [vals_s, e]; rfl
          refine AW.run ck_La_worked [73, 83, 88] 8 52 ?_
          simp only [wR, wB, wE0, wE1, wE2, wE3, g0, gS, s10, s11, s1S, s20, s21, s2S, kl0, kl1, kl2, kl3, sp0, sp1, sp2, sp3, cn1, cn2, cn3, cn4, cn5, cn6, jJa, lk0, lk1, jmS, jmN, s4_0, s4_1, s4_2, s4_3, s4_4, sw0, sw1, cKs, cKn, true_and, and_true, List.map_cons, List.map_nil, Nat.reduceAdd, Nat.zero_add, Int.reduceAdd, Nat.reduceEqDiff, reduceIte, Classical.not_not, b_La_worked, hs, hsl, isArr_of hs]
          have put : ∀ x : Int, x = (if code k < 1000 then code k else w (code k - 1000)) → AW G d mi_La_worked Q 83 [some (vr z), some (vr v), some (vr s), some (vi ((vals code w k).length : Nat)), some (vi k), some (vi (cc (code k)))] [vi x, vi ((vals code w k).length : Nat), vr s] N := by
            intro x hx
            refine AW.run ck_La_worked [88] 8 83 ?_
            simp only [wR, wB, wE0, wE1, wE2, wE3, g0, gS, s10, s11, s1S, s20, s21, s2S, kl0, kl1, kl2, kl3, sp0, sp1, sp2, sp3, cn1, cn2, cn3, cn4, cn5, cn6, jJa, lk0, lk1, jmS, jmN, s4_0, s4_1, s4_2, s4_3, s4_4, sw0, sw1, cKs, cKn, true_and, and_true, List.map_cons, List.map_nil, Nat.reduceAdd, Nat.zero_add, Int.reduceAdd, Nat.reduceEqDiff, reduceIte, Classical.not_not, b_La_worked, hs, hsl, ce]
            (repeat' (first | omega | exact ⟨by omega, by omega⟩ | (with_reducible exact Or.inr trivial) | (with_reducible exact Or.inl trivial) | (with_reducible assumption) | (with_reducible exact Same.refl) | (with_reducible rfl) | (with_reducible refine And.intro ?_ ?_) | (with_reducible intro _)))
            rw [← e2]
            refine fin _ (Same.refl.up (by simp)) ?_
            rw [vals_s, e]
            exact ⟨by rw [up_eq, hx], stk_up _ (Int.le_refl _) hst⟩
          (repeat' (first | omega | exact ⟨by omega, by omega⟩ | (with_reducible exact Or.inr trivial) | (with_reducible exact Or.inl trivial) | (with_reducible assumption) | (with_reducible exact Same.refl) | (with_reducible rfl) | (with_reducible refine And.intro ?_ ?_) | (with_reducible intro _)))
          · refine AW.run ck_La_worked [83] 8 73 ?_
            simp only [wR, wB, wE0, wE1, wE2, wE3, g0, gS, s10, s11, s1S, s20, s21, s2S, kl0, kl1, kl2, kl3, sp0, sp1, sp2, sp3, cn1, cn2, cn3, cn4, cn5, cn6, jJa, lk0, lk1, jmS, jmN, s4_0, s4_1, s4_2, s4_3, s4_4, sw0, sw1, cKs, cKn, true_and, and_true, List.map_cons, List.map_nil, Nat.reduceAdd, Nat.zero_add, Int.reduceAdd, Nat.reduceEqDiff, reduceIte, Classical.not_not, b_La_worked, hs, hsl]
            (repeat' (first | omega | exact ⟨by omega, by omega⟩ | (with_reducible exact Or.inr trivial) | (with_reducible exact Or.inl trivial) | (with_reducible assumption) | (with_reducible exact Same.refl) | (with_reducible rfl) | (with_reducible refine And.intro ?_ ?_) | (with_reducible intro _)))
            rw [ecc]
            refine MS.to (c_La_valueOf hv hvl (by omega) (by omega)) fun _ => ?_
            simp only [wR, wB, wE0, wE1, wE2, wE3, g0, gS, s10, s11, s1S, s20, s21, s2S, kl0, kl1, kl2, kl3, sp0, sp1, sp2, sp3, cn1, cn2, cn3, cn4, cn5, cn6, jJa, lk0, lk1, jmS, jmN, s4_0, s4_1, s4_2, s4_3, s4_4, sw0, sw1, cKs, cKn, true_and, and_true, List.map_cons, List.map_nil, Nat.reduceAdd, Nat.zero_add, Int.reduceAdd, Nat.reduceEqDiff, reduceIte, Classical.not_not, b_La_worked, hs, hsl]
            rw [hsm.at v _ (by (first | decide | (simp only [List.mem_cons, List.not_mem_nil, or_false, not_or, not_false_eq_true, and_true]; omega) | (simp [List.mem_cons]; done))), hw k hkn (by omega) c1]
            have := put (w (code k - 1000)) (by rw [if_neg (by omega)])
            rw [ecc] at this
            exact this
          · exact put _ (by rw [ecc, if_pos (by omega)])
        all_goals omega
      · have hge : 3000 ≤ code k := by
          rcases Int.lt_or_le (code k) 3000 with q | q
          · exfalso
            have : cc (code k) = code k := by unfold cc; rw [if_pos q]
            rcases hsp with ⟨c0, c1, e⟩ | ⟨c0, x, s', es, hx, e⟩ | ⟨c0, ee, th, bb, s', es, hb, hnt, hne, e⟩ | ⟨c0, c1, c2, a, bb, s', es, hna, hnb, hbb, e⟩ <;> omega
          · exact q
        have ecc : cc (code k) = code k - 1000 := by unfold cc; rw [if_neg (by omega)]
        rw [ecc] at fin ⊢
        refine (c_La_operate (w := w) (by omega) hs hsl hge hvk hts hst (by omega)).mono ?_
        rintro r M' okM' ⟨rfl, hs1, hs2⟩
        simp only [wR, wB, wE0, wE1, wE2, wE3, g0, gS, s10, s11, s1S, s20, s21, s2S, kl0, kl1, kl2, kl3, sp0, sp1, sp2, sp3, cn1, cn2, cn3, cn4, cn5, cn6, jJa, lk0, lk1, jmS, jmN, s4_0, s4_1, s4_2, s4_3, s4_4, sw0, sw1, cKs, cKn, true_and, and_true, List.map_cons, List.map_nil, Nat.reduceAdd, Nat.zero_add, Int.reduceAdd, Nat.reduceEqDiff, reduceIte, Classical.not_not, b_La_worked, hs, hsl]
        exact fin M' hs2 hs1
  refine AW.run ck_La_worked [5] 8 0 ?_
  simp only [wR, wB, wE0, wE1, wE2, wE3, g0, gS, s10, s11, s1S, s20, s21, s2S, kl0, kl1, kl2, kl3, sp0, sp1, sp2, sp3, cn1, cn2, cn3, cn4, cn5, cn6, jJa, lk0, lk1, jmS, jmN, s4_0, s4_1, s4_2, s4_3, s4_4, sw0, sw1, cKs, cKn, true_and, and_true, List.map_cons, List.map_nil, Nat.reduceAdd, Nat.zero_add, Int.reduceAdd, Nat.reduceEqDiff, reduceIte, Classical.not_not, b_La_worked]
  exact loop n 0 M none (by omega) Same.refl trivial
end CL
