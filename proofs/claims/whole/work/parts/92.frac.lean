/-! fractions -/
def frc (above below : Nat) (what : Int) : Nat := (if what = 0 then above else below) / Nat.gcd above below
theorem two_step {a b : Nat} (hb : 0 < b) (h1 : 0 < a % b) : 2 * (b % (a % b)) < b := by
  have h2 : a % b < b := Nat.mod_lt _ hb
  have h3 : b % (a % b) < a % b := Nat.mod_lt _ h1
  have h4 : b % (a % b) ≤ b - a % b := by
    rw [Nat.mod_eq_sub_mod (by omega)]
    exact Nat.mod_le _ _
  omega
theorem gcd_st {a b : Nat} : Nat.gcd b (a % b) = Nat.gcd a b := by
  rw [Nat.gcd_comm, ← Nat.gcd_rec, Nat.gcd_comm]
section FC
variable {G : AG} {d : Nat} {M : AM}
set_option maxRecDepth 20000 in
theorem c_H_ofFraction {above below : Nat} {what : Int} (ha : above ≤ 100000000) (hb0 : 1 ≤ below) (hb : below ≤ 100000000) : MS G d mi_H_ofFraction [vl above, vl below, vi what] M (fun r M' => r = some (vi (frc above below what)) ∧ M' = M) := by
  have hg0 : 0 < Nat.gcd above below := Nat.gcd_pos_of_pos_right _ (by omega)
  have hga : Nat.gcd above below ≤ below := Nat.gcd_le_right _ (by omega)
  refine MS.by ck_H_ofFraction [some (vl above), none, some (vl below), none, some (vi what), none, none, none, none, none, none, none] fun _ _ => ?_
  generalize hQ : (fun (r : Option AV) (M' : AM) => r = some (vi (frc above below what)) ∧ M' = M) = Q
  unfold frc at hQ
  have a47 : ∀ (l7 l9 l10 : Option AV), AW G d mi_H_ofFraction Q 47 [some (vl above), none, some (vl below), none, some (vi what), some (vl (Nat.gcd above below)), none, l7, none, l9, l10, none] [] M := by
    intro l7 l9 l10
    have a66 : ∀ x : Nat, x = (if what = 0 then above else below) → x ≤ 100000000 → AW G d mi_H_ofFraction Q 66 [some (vl above), none, some (vl below), none, some (vi what), some (vl (Nat.gcd above below)), none, l7, none, l9, l10, none] [vl x] M := by
      intro x hx hxl
      have hdv : x / Nat.gcd above below ≤ x := Nat.div_le_self _ _
      have ed : (x : Int) / (Nat.gcd above below : Int) = ((x / Nat.gcd above below : Nat) : Int) := (Int.natCast_ediv _ _).symm
      refine AW.run ck_H_ofFraction [] 10 66 ?_
      simp only [wR, wB, wE0, wE1, wE2, wE3, g0, gS, s10, s11, s1S, s20, s21, s2S, kl0, kl1, kl2, kl3, sp0, sp1, sp2, sp3, cn1, cn2, cn3, cn4, cn5, cn6, jJa, lk0, lk1, jmS, jmN, s4_0, s4_1, s4_2, s4_3, s4_4, sw0, sw1, cKs, cKn, true_and, and_true, List.map_cons, List.map_nil, Nat.reduceAdd, Nat.zero_add, Int.reduceAdd, Nat.reduceEqDiff, reduceIte, Classical.not_not, b_H_ofFraction, ed]
      subst hQ
      rw [← hx]
      generalize x / Nat.gcd above below = y at hdv ed
      (repeat' (first | omega | (with_reducible exact True.intro) | exact ⟨by omega, by omega⟩ | (with_reducible exact Or.inr trivial) | (with_reducible exact Or.inl trivial) | (with_reducible assumption) | (with_reducible exact Same.refl) | (with_reducible rfl) | (with_reducible refine And.intro ?_ ?_) | (with_reducible intro _)))
    refine AW.run ck_H_ofFraction [66] 10 47 ?_
    simp only [wR, wB, wE0, wE1, wE2, wE3, g0, gS, s10, s11, s1S, s20, s21, s2S, kl0, kl1, kl2, kl3, sp0, sp1, sp2, sp3, cn1, cn2, cn3, cn4, cn5, cn6, jJa, lk0, lk1, jmS, jmN, s4_0, s4_1, s4_2, s4_3, s4_4, sw0, sw1, cKs, cKn, true_and, and_true, List.map_cons, List.map_nil, Nat.reduceAdd, Nat.zero_add, Int.reduceAdd, Nat.reduceEqDiff, reduceIte, Classical.not_not, b_H_ofFraction, cmp3_ge]
    by_cases q : what = 0
    · have := a66 above (by rw [if_pos q]) ha
      (repeat' (first | omega | (with_reducible exact True.intro) | exact ⟨by omega, by omega⟩ | (with_reducible exact Or.inr trivial) | (with_reducible exact Or.inl trivial) | (with_reducible assumption) | (with_reducible exact Same.refl) | (with_reducible rfl) | (with_reducible refine And.intro ?_ ?_) | (with_reducible intro _)))
    · have := a66 below (by rw [if_neg q]) hb
      (repeat' (first | omega | (with_reducible exact True.intro) | exact ⟨by omega, by omega⟩ | (with_reducible exact Or.inr trivial) | (with_reducible exact Or.inl trivial) | (with_reducible assumption) | (with_reducible exact Same.refl) | (with_reducible rfl) | (with_reducible refine And.intro ?_ ?_) | (with_reducible intro _)))
  have loop : ∀ (m a b i : Nat) (l10 : Option AV), b < 2 ^ m → i + 2 * m ≤ 98 → Nat.gcd a b = Nat.gcd above below → a ≤ 100000000 → b ≤ 100000000 → AW G d mi_H_ofFraction Q 9 [some (vl above), none, some (vl below), none, some (vi what), some (vl a), none, some (vl b), none, some (vi i), l10, none] [] M := by
    have ex : ∀ (a i : Nat) (l10 : Option AV), i ≤ 99 → a = Nat.gcd above below → AW G d mi_H_ofFraction Q 9 [some (vl above), none, some (vl below), none, some (vi what), some (vl a), none, some (vl 0), none, some (vi i), l10, none] [] M := by
      intro a i l10 hi ha
      subst ha
      have := a47 (some (vl 0)) (some (vi i)) l10
      refine AW.run ck_H_ofFraction [47] 10 9 ?_
      simp only [wR, wB, wE0, wE1, wE2, wE3, g0, gS, s10, s11, s1S, s20, s21, s2S, kl0, kl1, kl2, kl3, sp0, sp1, sp2, sp3, cn1, cn2, cn3, cn4, cn5, cn6, jJa, lk0, lk1, jmS, jmN, s4_0, s4_1, s4_2, s4_3, s4_4, sw0, sw1, cKs, cKn, true_and, and_true, List.map_cons, List.map_nil, Nat.reduceAdd, Nat.zero_add, Int.reduceAdd, Nat.reduceEqDiff, reduceIte, Classical.not_not, b_H_ofFraction, cmp3_eq, Int.reduceEq, not_true_eq_false, not_false_eq_true, false_imp_iff, true_imp_iff, and_self]
      (repeat' (first | omega | (with_reducible exact True.intro) | exact ⟨by omega, by omega⟩ | (with_reducible exact Or.inr trivial) | (with_reducible exact Or.inl trivial) | (with_reducible assumption) | (with_reducible exact Same.refl) | (with_reducible rfl) | (with_reducible refine And.intro ?_ ?_) | (with_reducible intro _)))
    have st : ∀ (a b i : Nat) (l10 : Option AV), 0 < b → i ≤ 98 → a ≤ 100000000 → b ≤ 100000000 → (∀ l10, AW G d mi_H_ofFraction Q 9 [some (vl above), none, some (vl below), none, some (vi what), some (vl b), none, some (vl ((a % b : Nat) : Int)), none, some (vi ((i + 1 : Nat) : Int)), l10, none] [] M) → AW G d mi_H_ofFraction Q 9 [some (vl above), none, some (vl below), none, some (vi what), some (vl a), none, some (vl b), none, some (vi i), l10, none] [] M := by
      intro a b i l10 hb hi ha hb2 hn
      have := hn (some (vl ((a % b : Nat) : Int)))
      have em : (a : Int) % (b : Int) = ((a % b : Nat) : Int) := (Int.natCast_emod _ _).symm
      refine AW.run ck_H_ofFraction [9, 47] 10 9 ?_
      simp only [wR, wB, wE0, wE1, wE2, wE3, g0, gS, s10, s11, s1S, s20, s21, s2S, kl0, kl1, kl2, kl3, sp0, sp1, sp2, sp3, cn1, cn2, cn3, cn4, cn5, cn6, jJa, lk0, lk1, jmS, jmN, s4_0, s4_1, s4_2, s4_3, s4_4, sw0, sw1, cKs, cKn, true_and, and_true, List.map_cons, List.map_nil, Nat.reduceAdd, Nat.zero_add, Int.reduceAdd, Nat.reduceEqDiff, reduceIte, Classical.not_not, b_H_ofFraction, cmp3_eq, em, ce]
      (repeat' (first | omega | (with_reducible exact True.intro) | exact ⟨by omega, by omega⟩ | (with_reducible exact Or.inr trivial) | (with_reducible exact Or.inl trivial) | (with_reducible assumption) | (with_reducible exact Same.refl) | (with_reducible rfl) | (with_reducible refine And.intro ?_ ?_) | (with_reducible intro _)))
    intro m
    induction m with
    | zero =>
      intro a b i l10 hb hi hg ha hb2
      obtain rfl : b = 0 := by omega
      rw [Nat.gcd_zero_right] at hg
      exact ex a i l10 (by omega) hg
    | succ m ih =>
      intro a b i l10 hbm hi hg ha hb2
      rcases Nat.eq_zero_or_pos b with e | e
      · subst e
        rw [Nat.gcd_zero_right] at hg
        exact ex a i l10 (by omega) hg
      · refine st a b i l10 e (by omega) ha hb2 (fun l10 => ?_)
        have h1 : a % b < b := Nat.mod_lt _ e
        rcases Nat.eq_zero_or_pos (a % b) with e2 | e2
        · rw [e2]
          refine ex b (i + 1) l10 (by omega) ?_
          rw [← hg, ← gcd_st, e2, Nat.gcd_zero_right]
        · refine st b (a % b) (i + 1) l10 e2 (by omega) hb2 (by omega) (fun l10 => ?_)
          have h2 := two_step e e2
          have h3 : b % (a % b) < a % b := Nat.mod_lt _ e2
          exact ih (a % b) (b % (a % b)) (i + 1 + 1) l10 (by rw [Nat.pow_succ] at hbm; omega) (by omega) (by rw [gcd_st, gcd_st, hg]) (by omega) (by omega)
  have := loop 30 below above 0 none (by omega) (by omega) (Nat.gcd_comm _ _) hb ha
  refine AW.run ck_H_ofFraction [9] 10 0 ?_
  simp only [wR, wB, wE0, wE1, wE2, wE3, g0, gS, s10, s11, s1S, s20, s21, s2S, kl0, kl1, kl2, kl3, sp0, sp1, sp2, sp3, cn1, cn2, cn3, cn4, cn5, cn6, jJa, lk0, lk1, jmS, jmN, s4_0, s4_1, s4_2, s4_3, s4_4, sw0, sw1, cKs, cKn, true_and, and_true, List.map_cons, List.map_nil, Nat.reduceAdd, Nat.zero_add, Int.reduceAdd, Nat.reduceEqDiff, reduceIte, Classical.not_not, b_H_ofFraction]
  exact this
theorem c_Md_common : ∀ (m : Nat) {d a b : Nat}, b < 2 ^ m → 2 * m ≤ d → a ≤ 1000000000 → b ≤ 1000000000 → MS G d mi_Md_common [vi a, vi b] M (fun r M' => r = some (vi (Nat.gcd a b)) ∧ M' = M)
  | 0, d, a, b, hb, hd, ha, hb2 => by
    obtain rfl : b = 0 := by omega
    rw [Nat.gcd_zero_right]
    refine MS.run ck_Md_common [some (vi a), some (vi ((0 : Nat) : Int))] [] 10 fun _ _ => ?_
    simp only [wR, wB, wE0, wE1, wE2, wE3, g0, gS, s10, s11, s1S, s20, s21, s2S, kl0, kl1, kl2, kl3, sp0, sp1, sp2, sp3, cn1, cn2, cn3, cn4, cn5, cn6, jJa, lk0, lk1, jmS, jmN, s4_0, s4_1, s4_2, s4_3, s4_4, sw0, sw1, cKs, cKn, true_and, and_true, List.map_cons, List.map_nil, Nat.reduceAdd, Nat.zero_add, Int.reduceAdd, Nat.reduceEqDiff, reduceIte, Classical.not_not, b_Md_common, nc0, Int.reduceEq, not_true_eq_false, not_false_eq_true, false_imp_iff, true_imp_iff, and_self]
  | m + 1, d, a, b, hb, hd, ha, hb2 => by
    rcases Nat.eq_zero_or_pos b with e | e
    · subst e
      rw [Nat.gcd_zero_right]
      refine MS.run ck_Md_common [some (vi a), some (vi ((0 : Nat) : Int))] [] 10 fun _ _ => ?_
      simp only [wR, wB, wE0, wE1, wE2, wE3, g0, gS, s10, s11, s1S, s20, s21, s2S, kl0, kl1, kl2, kl3, sp0, sp1, sp2, sp3, cn1, cn2, cn3, cn4, cn5, cn6, jJa, lk0, lk1, jmS, jmN, s4_0, s4_1, s4_2, s4_3, s4_4, sw0, sw1, cKs, cKn, true_and, and_true, List.map_cons, List.map_nil, Nat.reduceAdd, Nat.zero_add, Int.reduceAdd, Nat.reduceEqDiff, reduceIte, Classical.not_not, b_Md_common, nc0, Int.reduceEq, not_true_eq_false, not_false_eq_true, false_imp_iff, true_imp_iff, and_self]
    · have h1 : a % b < b := Nat.mod_lt _ e
      have em : (a : Int) % (b : Int) = ((a % b : Nat) : Int) := (Int.natCast_emod _ _).symm
      have inner : MS G (d - 1) mi_Md_common [vi b, vi ((a % b : Nat) : Int)] M (fun r M' => r = some (vi (Nat.gcd b (a % b))) ∧ M' = M) := by
        rcases Nat.eq_zero_or_pos (a % b) with e2 | e2
        · rw [e2, Nat.gcd_zero_right]
          refine MS.run ck_Md_common [some (vi b), some (vi ((0 : Nat) : Int))] [] 10 fun _ _ => ?_
          simp only [wR, wB, wE0, wE1, wE2, wE3, g0, gS, s10, s11, s1S, s20, s21, s2S, kl0, kl1, kl2, kl3, sp0, sp1, sp2, sp3, cn1, cn2, cn3, cn4, cn5, cn6, jJa, lk0, lk1, jmS, jmN, s4_0, s4_1, s4_2, s4_3, s4_4, sw0, sw1, cKs, cKn, true_and, and_true, List.map_cons, List.map_nil, Nat.reduceAdd, Nat.zero_add, Int.reduceAdd, Nat.reduceEqDiff, reduceIte, Classical.not_not, b_Md_common, nc0, Int.reduceEq, not_true_eq_false, not_false_eq_true, false_imp_iff, true_imp_iff, and_self]
        · have h2 := two_step e e2
          have h3 : b % (a % b) < a % b := Nat.mod_lt _ e2
          have em2 : (b : Int) % ((a % b : Nat) : Int) = ((b % (a % b) : Nat) : Int) := (Int.natCast_emod _ _).symm
          have key := c_Md_common m (d := d - 1 - 1) (a := a % b) (b := b % (a % b)) (by rw [Nat.pow_succ] at hb; omega) (by omega) (by omega) (by omega)
          rw [← gcd_st]
          generalize a % b = c at *
          refine MS.run ck_Md_common [some (vi b), some (vi c)] [] 10 fun _ _ => ?_
          simp only [wR, wB, wE0, wE1, wE2, wE3, g0, gS, s10, s11, s1S, s20, s21, s2S, kl0, kl1, kl2, kl3, sp0, sp1, sp2, sp3, cn1, cn2, cn3, cn4, cn5, cn6, jJa, lk0, lk1, jmS, jmN, s4_0, s4_1, s4_2, s4_3, s4_4, sw0, sw1, cKs, cKn, true_and, and_true, List.map_cons, List.map_nil, Nat.reduceAdd, Nat.zero_add, Int.reduceAdd, Nat.reduceEqDiff, reduceIte, Classical.not_not, b_Md_common, em2]
          (repeat' (first | omega | (with_reducible exact True.intro) | exact ⟨by omega, by omega⟩ | (with_reducible exact Or.inr trivial) | (with_reducible exact Or.inl trivial) | (with_reducible assumption) | (with_reducible exact Same.refl) | (with_reducible rfl) | (with_reducible refine And.intro ?_ ?_) | (with_reducible intro _)))
          refine MS.to key fun _ => ?_
          simp only [wR, wB, wE0, wE1, wE2, wE3, g0, gS, s10, s11, s1S, s20, s21, s2S, kl0, kl1, kl2, kl3, sp0, sp1, sp2, sp3, cn1, cn2, cn3, cn4, cn5, cn6, jJa, lk0, lk1, jmS, jmN, s4_0, s4_1, s4_2, s4_3, s4_4, sw0, sw1, cKs, cKn, true_and, and_true, List.map_cons, List.map_nil, Nat.reduceAdd, Nat.zero_add, Int.reduceAdd, Nat.reduceEqDiff, reduceIte, Classical.not_not, b_Md_common]
      rw [← gcd_st]
      refine MS.run ck_Md_common [some (vi a), some (vi b)] [] 10 fun _ _ => ?_
      simp only [wR, wB, wE0, wE1, wE2, wE3, g0, gS, s10, s11, s1S, s20, s21, s2S, kl0, kl1, kl2, kl3, sp0, sp1, sp2, sp3, cn1, cn2, cn3, cn4, cn5, cn6, jJa, lk0, lk1, jmS, jmN, s4_0, s4_1, s4_2, s4_3, s4_4, sw0, sw1, cKs, cKn, true_and, and_true, List.map_cons, List.map_nil, Nat.reduceAdd, Nat.zero_add, Int.reduceAdd, Nat.reduceEqDiff, reduceIte, Classical.not_not, b_Md_common, em]
      (repeat' (first | omega | (with_reducible exact True.intro) | exact ⟨by omega, by omega⟩ | (with_reducible exact Or.inr trivial) | (with_reducible exact Or.inl trivial) | (with_reducible assumption) | (with_reducible exact Same.refl) | (with_reducible rfl) | (with_reducible refine And.intro ?_ ?_) | (with_reducible intro _)))
      refine MS.to inner fun _ => ?_
      simp only [wR, wB, wE0, wE1, wE2, wE3, g0, gS, s10, s11, s1S, s20, s21, s2S, kl0, kl1, kl2, kl3, sp0, sp1, sp2, sp3, cn1, cn2, cn3, cn4, cn5, cn6, jJa, lk0, lk1, jmS, jmN, s4_0, s4_1, s4_2, s4_3, s4_4, sw0, sw1, cKs, cKn, true_and, and_true, List.map_cons, List.map_nil, Nat.reduceAdd, Nat.zero_add, Int.reduceAdd, Nat.reduceEqDiff, reduceIte, Classical.not_not, b_Md_common]
theorem c_Md_part {above whole : Nat} {what : Int} (hd : 70 ≤ d) (ha : above ≤ 100000000) (hb0 : 1 ≤ whole) (hb : whole ≤ 100000000) : MS G d mi_Md_part [vl above, vi whole, vi what] M (fun r M' => r = some (vi (frc above whole what)) ∧ M' = M) := by
  have hg0 : 0 < Nat.gcd above whole := Nat.gcd_pos_of_pos_right _ (by omega)
  have hga : Nat.gcd above whole ≤ whole := Nat.gcd_le_right _ (by omega)
  have ew : w3 ((above : Nat) : Int) = above := w3_id ⟨by omega, by omega⟩
  refine MS.by ck_Md_part [some (vl above), none, some (vi whole), some (vi what), none] fun _ _ => ?_
  generalize hQ : (fun (r : Option AV) (M' : AM) => r = some (vi (frc above whole what)) ∧ M' = M) = Q
  unfold frc at hQ
  have a14 : ∀ x : Nat, x = (if what = 0 then above else whole) → x ≤ 100000000 → AW G d mi_Md_part Q 14 [some (vl above), none, some (vi whole), some (vi what), some (vi above)] [vi x] M := by
    intro x hx hxl
    have ed : (x : Int) / (Nat.gcd above whole : Int) = ((x / Nat.gcd above whole : Nat) : Int) := (Int.natCast_ediv _ _).symm
    have hdv : x / Nat.gcd above whole ≤ x := Nat.div_le_self _ _
    refine AW.run ck_Md_part [] 10 14 ?_
    simp only [wR, wB, wE0, wE1, wE2, wE3, g0, gS, s10, s11, s1S, s20, s21, s2S, kl0, kl1, kl2, kl3, sp0, sp1, sp2, sp3, cn1, cn2, cn3, cn4, cn5, cn6, jJa, lk0, lk1, jmS, jmN, s4_0, s4_1, s4_2, s4_3, s4_4, sw0, sw1, cKs, cKn, true_and, and_true, List.map_cons, List.map_nil, Nat.reduceAdd, Nat.zero_add, Int.reduceAdd, Nat.reduceEqDiff, reduceIte, Classical.not_not, b_Md_part]
    refine ⟨by omega, MS.to (c_Md_common 30 (by omega) (by omega) (by omega) (by omega)) fun _ => ?_⟩
    simp only [wR, wB, wE0, wE1, wE2, wE3, g0, gS, s10, s11, s1S, s20, s21, s2S, kl0, kl1, kl2, kl3, sp0, sp1, sp2, sp3, cn1, cn2, cn3, cn4, cn5, cn6, jJa, lk0, lk1, jmS, jmN, s4_0, s4_1, s4_2, s4_3, s4_4, sw0, sw1, cKs, cKn, true_and, and_true, List.map_cons, List.map_nil, Nat.reduceAdd, Nat.zero_add, Int.reduceAdd, Nat.reduceEqDiff, reduceIte, Classical.not_not, b_Md_part, ed]
    subst hQ
    rw [← hx]
    generalize x / Nat.gcd above whole = y at hdv ed
    (repeat' (first | omega | (with_reducible exact True.intro) | exact ⟨by omega, by omega⟩ | (with_reducible exact Or.inr trivial) | (with_reducible exact Or.inl trivial) | (with_reducible assumption) | (with_reducible exact Same.refl) | (with_reducible rfl) | (with_reducible refine And.intro ?_ ?_) | (with_reducible intro _)))
  refine AW.run ck_Md_part [14] 10 0 ?_
  simp only [wR, wB, wE0, wE1, wE2, wE3, g0, gS, s10, s11, s1S, s20, s21, s2S, kl0, kl1, kl2, kl3, sp0, sp1, sp2, sp3, cn1, cn2, cn3, cn4, cn5, cn6, jJa, lk0, lk1, jmS, jmN, s4_0, s4_1, s4_2, s4_3, s4_4, sw0, sw1, cKs, cKn, true_and, and_true, List.map_cons, List.map_nil, Nat.reduceAdd, Nat.zero_add, Int.reduceAdd, Nat.reduceEqDiff, reduceIte, Classical.not_not, b_Md_part, ew]
  by_cases q : what = 0
  · have := a14 above (by rw [if_pos q]) ha
    (repeat' (first | omega | (with_reducible exact True.intro) | exact ⟨by omega, by omega⟩ | (with_reducible exact Or.inr trivial) | (with_reducible exact Or.inl trivial) | (with_reducible assumption) | (with_reducible exact Same.refl) | (with_reducible rfl) | (with_reducible refine And.intro ?_ ?_) | (with_reducible intro _)))
  · have := a14 whole (by rw [if_neg q]) hb
    (repeat' (first | omega | (with_reducible exact True.intro) | exact ⟨by omega, by omega⟩ | (with_reducible exact Or.inr trivial) | (with_reducible exact Or.inl trivial) | (with_reducible assumption) | (with_reducible exact Same.refl) | (with_reducible rfl) | (with_reducible refine And.intro ?_ ?_) | (with_reducible intro _)))
end FC
