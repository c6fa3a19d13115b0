section QF
variable {G : AG} {t : Nat → Nat} {n m lw f : Nat} {z : Int}
theorem c_Rd_unit0 (hz : lwZ z) (ihS : SC G t n m lw z mi_Rd_sum 2 0 f) (ihT : SC G t n m lw z mi_Rd_truth 6 5 f) (ihU : SC G t n m lw z mi_Rd_unit 4 9 f) : SC G t n m lw z mi_Rd_unit 4 9 (f + 1) := by
  intro d v k c M hv hd hA h9 h10 hc hck ok
  have m9 := hA.m9
  have h8 := hA.2.2.2.1
  have e19 := ckq (kk := kin t n (pls t n (k))) (x := 19) (v := 19) kin_v (by unfold vK; omega) (by decide +kernel)
  have e37 := ckq (kk := kin t n (pls t n (k))) (x := 37) (v := 191) kin_v (by unfold vK; omega) (by decide +kernel)
  have gr := GdC.refl hA hc
  refine MS.by ck_Rd_unit [some (vr 2), some (vi v)] fun _ _ => ?_
  rw [PR_9] at ok ⊢
  by_cases q19 : kin t n (pls t n (k)) = 19
  · rw [if_pos q19] at ok ⊢
    have h8' := h8
    rw [e19.mpr q19] at h8'
    by_cases q6 : v = 6
    · subst q6
      rw [if_pos rfl]
      have hb := BdC.mk' (w := 4) hz gr (by simp only [List.length_nil]; omega) (by omega)
      have hdp := c_Rd_deeper_no (G := G) (d := d - 1) (by omega) hA
      generalize up (up (up M 2 0 _) 2 1 _) 2 8 23 = M9 at hdp hb
      refine AW.run ck_Rd_unit [34] 12 0 ?_
      simp only [wR, wB, wE0, wE1, wE2, wE3, g0, gS, s10, s11, s1S, s20, s21, s2S, kl0, kl1, kl2, kl3, sp0, sp1, sp2, sp3, cn1, cn2, cn3, cn4, cn5, cn6, jJa, lk0, lk1, jmS, jmN, s4_0, s4_1, s4_2, s4_3, s4_4, sw0, sw1, cKs, cKn, true_and, and_true, List.map_cons, List.map_nil, Nat.reduceAdd, Nat.zero_add, Int.reduceAdd, Nat.reduceEqDiff, reduceIte, Classical.not_not, b_Rd_unit, shH, h8', Int.reduceEq, not_true_eq_false, not_false_eq_true, false_imp_iff, true_imp_iff, and_self]
      refine ⟨by omega, MS.to hdp fun _ => ?_⟩
      simp only [wR, wB, wE0, wE1, wE2, wE3, g0, gS, s10, s11, s1S, s20, s21, s2S, kl0, kl1, kl2, kl3, sp0, sp1, sp2, sp3, cn1, cn2, cn3, cn4, cn5, cn6, jJa, lk0, lk1, jmS, jmN, s4_0, s4_1, s4_2, s4_3, s4_4, sw0, sw1, cKs, cKn, true_and, and_true, List.map_cons, List.map_nil, Nat.reduceAdd, Nat.zero_add, Int.reduceAdd, Nat.reduceEqDiff, reduceIte, Classical.not_not, b_Rd_unit, shH, Int.reduceEq, not_true_eq_false, not_false_eq_true, false_imp_iff, true_imp_iff, and_self]
      exact hb.po
    rw [if_neg q6] at ok ⊢
    refine AW.run ck_Rd_unit [34] 12 0 ?_
    simp only [wR, wB, wE0, wE1, wE2, wE3, g0, gS, s10, s11, s1S, s20, s21, s2S, kl0, kl1, kl2, kl3, sp0, sp1, sp2, sp3, cn1, cn2, cn3, cn4, cn5, cn6, jJa, lk0, lk1, jmS, jmN, s4_0, s4_1, s4_2, s4_3, s4_4, sw0, sw1, cKs, cKn, true_and, and_true, List.map_cons, List.map_nil, Nat.reduceAdd, Nat.zero_add, Int.reduceAdd, Nat.reduceEqDiff, reduceIte, Classical.not_not, b_Rd_unit, shH, h8', Int.reduceEq, not_true_eq_false, not_false_eq_true, false_imp_iff, true_imp_iff, and_self]
    refine ⟨by omega, (c_Rd_deeper_in (by omega) hA (by omega) (by omega)).mono ?_⟩
    rintro r M0 _ ⟨rfl, hA0, e0⟩
    have gg0 : GdC t n m z c M M0 (k + 1) [] := by
      rw [e0] at hA0 ⊢
      exact gr.step hz hA0
    have f0 := gg0.f9 h9 h10
    clear e0
    simp only [wR, wB, wE0, wE1, wE2, wE3, g0, gS, s10, s11, s1S, s20, s21, s2S, kl0, kl1, kl2, kl3, sp0, sp1, sp2, sp3, cn1, cn2, cn3, cn4, cn5, cn6, jJa, lk0, lk1, jmS, jmN, s4_0, s4_1, s4_2, s4_3, s4_4, sw0, sw1, cKs, cKn, true_and, and_true, List.map_cons, List.map_nil, Nat.reduceAdd, Nat.zero_add, Int.reduceAdd, Nat.reduceEqDiff, reduceIte, Classical.not_not, b_Rd_unit, shH, ce, Int.reduceEq, not_true_eq_false, not_false_eq_true, false_imp_iff, true_imp_iff, and_self]
    (repeat' (first | omega | (with_reducible exact True.intro) | exact ⟨by omega, by omega⟩ | (with_reducible exact Or.inr trivial) | (with_reducible exact Or.inl trivial) | (with_reducible assumption) | (with_reducible exact Same.refl) | (with_reducible rfl) | (with_reducible refine And.intro ?_ ?_) | (with_reducible intro _)))
    refine (ihU (d - 1) (v + 1) (k + 1) c M0 (by omega) (by omega) hA0 f0.1 f0.2 gg0.2.2.1 (by omega) ok.bd).mono ?_
    rintro r M1 _ ⟨rfl, hp⟩
    rcases rs_cases (PR t n lw f 9 (v + 1) (k + 1)) with ⟨w, k1, hr⟩ | ⟨k1, c1, hr⟩
    · rw [hr] at hp ok ⊢
      have hb := BdC.of gg0.1 hp.bad
      simp only [wR, wB, wE0, wE1, wE2, wE3, g0, gS, s10, s11, s1S, s20, s21, s2S, kl0, kl1, kl2, kl3, sp0, sp1, sp2, sp3, cn1, cn2, cn3, cn4, cn5, cn6, jJa, lk0, lk1, jmS, jmN, s4_0, s4_1, s4_2, s4_3, s4_4, sw0, sw1, cKs, cKn, true_and, and_true, List.map_cons, List.map_nil, Nat.reduceAdd, Nat.zero_add, Int.reduceAdd, Nat.reduceEqDiff, reduceIte, Classical.not_not, b_Rd_unit, shH]
      refine ⟨by omega, (c_Rd_put_f (by omega) hz (hb.f9 h9) hb).mono ?_⟩
      rintro r M2 _ ⟨rfl, hb2⟩
      simp only [wR, wB, wE0, wE1, wE2, wE3, g0, gS, s10, s11, s1S, s20, s21, s2S, kl0, kl1, kl2, kl3, sp0, sp1, sp2, sp3, cn1, cn2, cn3, cn4, cn5, cn6, jJa, lk0, lk1, jmS, jmN, s4_0, s4_1, s4_2, s4_3, s4_4, sw0, sw1, cKs, cKn, true_and, and_true, List.map_cons, List.map_nil, Nat.reduceAdd, Nat.zero_add, Int.reduceAdd, Nat.reduceEqDiff, reduceIte, Classical.not_not, b_Rd_unit, shH, Int.reduceEq, not_true_eq_false, not_false_eq_true, false_imp_iff, true_imp_iff, and_self]
      exact hb2.po
    rw [hr] at hp ok ⊢
    rw [good_bd] at ok ⊢
    have n1 := PR_ln _ _ _ _ (by omega) _ _ hr
    have g1 := gg0.seq (cs := []) hp.good
    rw [List.nil_append] at g1
    have m1 := g1.2.1.m9
    have f1 := g1.f9 h9 h10
    simp only [wR, wB, wE0, wE1, wE2, wE3, g0, gS, s10, s11, s1S, s20, s21, s2S, kl0, kl1, kl2, kl3, sp0, sp1, sp2, sp3, cn1, cn2, cn3, cn4, cn5, cn6, jJa, lk0, lk1, jmS, jmN, s4_0, s4_1, s4_2, s4_3, s4_4, sw0, sw1, cKs, cKn, true_and, and_true, List.map_cons, List.map_nil, Nat.reduceAdd, Nat.zero_add, Int.reduceAdd, Nat.reduceEqDiff, reduceIte, Classical.not_not, b_Rd_unit, shH]
    refine ⟨by omega, (c_Rd_put_g (v := 3006) (by omega) hz f1.1 g1 (by omega) (by decide)).mono ?_⟩
    rintro r M2 _ ⟨rfl, g2, _⟩
    simp only [wR, wB, wE0, wE1, wE2, wE3, g0, gS, s10, s11, s1S, s20, s21, s2S, kl0, kl1, kl2, kl3, sp0, sp1, sp2, sp3, cn1, cn2, cn3, cn4, cn5, cn6, jJa, lk0, lk1, jmS, jmN, s4_0, s4_1, s4_2, s4_3, s4_4, sw0, sw1, cKs, cKn, true_and, and_true, List.map_cons, List.map_nil, Nat.reduceAdd, Nat.zero_add, Int.reduceAdd, Nat.reduceEqDiff, reduceIte, Classical.not_not, b_Rd_unit, shH, Int.reduceEq, not_true_eq_false, not_false_eq_true, false_imp_iff, true_imp_iff, and_self]
    exact g2.po
  rw [if_neg q19] at ok ⊢
  have a34 : ∀ Q, AW G d mi_Rd_unit Q 34 [some (vr 2), some (vi v)] [] M → AW G d mi_Rd_unit Q 0 [some (vr 2), some (vi v)] [] M := by
    intro Q h
    generalize ck (kin t n (pls t n (k))) = tt at *
    refine AW.run ck_Rd_unit [34] 12 0 ?_
    simp only [wR, wB, wE0, wE1, wE2, wE3, g0, gS, s10, s11, s1S, s20, s21, s2S, kl0, kl1, kl2, kl3, sp0, sp1, sp2, sp3, cn1, cn2, cn3, cn4, cn5, cn6, jJa, lk0, lk1, jmS, jmN, s4_0, s4_1, s4_2, s4_3, s4_4, sw0, sw1, cKs, cKn, true_and, and_true, List.map_cons, List.map_nil, Nat.reduceAdd, Nat.zero_add, Int.reduceAdd, Nat.reduceEqDiff, reduceIte, Classical.not_not, b_Rd_unit, shH, h8, Int.reduceEq, not_true_eq_false, not_false_eq_true, false_imp_iff, true_imp_iff, and_self]
    (repeat' (first | omega | (with_reducible exact True.intro) | exact ⟨by omega, by omega⟩ | (with_reducible exact Or.inr trivial) | (with_reducible exact Or.inl trivial) | (with_reducible assumption) | (with_reducible exact Same.refl) | (with_reducible rfl) | (with_reducible refine And.intro ?_ ?_) | (with_reducible intro _)))
  refine a34 _ ?_
  by_cases q37 : kin t n (pls t n (k)) = 37
  · rw [if_pos q37] at ok ⊢
    have h8' := h8
    rw [e37.mpr q37] at h8'
    by_cases q6 : v = 6
    · subst q6
      rw [if_pos rfl]
      have hb := BdC.mk' (w := 4) hz gr (by simp only [List.length_nil]; omega) (by omega)
      have hdp := c_Rd_deeper_no (G := G) (d := d - 1) (by omega) hA
      generalize up (up (up M 2 0 _) 2 1 _) 2 8 23 = M9 at hdp hb
      refine AW.run ck_Rd_unit [68] 12 34 ?_
      simp only [wR, wB, wE0, wE1, wE2, wE3, g0, gS, s10, s11, s1S, s20, s21, s2S, kl0, kl1, kl2, kl3, sp0, sp1, sp2, sp3, cn1, cn2, cn3, cn4, cn5, cn6, jJa, lk0, lk1, jmS, jmN, s4_0, s4_1, s4_2, s4_3, s4_4, sw0, sw1, cKs, cKn, true_and, and_true, List.map_cons, List.map_nil, Nat.reduceAdd, Nat.zero_add, Int.reduceAdd, Nat.reduceEqDiff, reduceIte, Classical.not_not, b_Rd_unit, shH, h8', Int.reduceEq, not_true_eq_false, not_false_eq_true, false_imp_iff, true_imp_iff, and_self]
      refine ⟨by omega, MS.to hdp fun _ => ?_⟩
      simp only [wR, wB, wE0, wE1, wE2, wE3, g0, gS, s10, s11, s1S, s20, s21, s2S, kl0, kl1, kl2, kl3, sp0, sp1, sp2, sp3, cn1, cn2, cn3, cn4, cn5, cn6, jJa, lk0, lk1, jmS, jmN, s4_0, s4_1, s4_2, s4_3, s4_4, sw0, sw1, cKs, cKn, true_and, and_true, List.map_cons, List.map_nil, Nat.reduceAdd, Nat.zero_add, Int.reduceAdd, Nat.reduceEqDiff, reduceIte, Classical.not_not, b_Rd_unit, shH, Int.reduceEq, not_true_eq_false, not_false_eq_true, false_imp_iff, true_imp_iff, and_self]
      exact hb.po
    rw [if_neg q6] at ok ⊢
    refine AW.run ck_Rd_unit [68] 12 34 ?_
    simp only [wR, wB, wE0, wE1, wE2, wE3, g0, gS, s10, s11, s1S, s20, s21, s2S, kl0, kl1, kl2, kl3, sp0, sp1, sp2, sp3, cn1, cn2, cn3, cn4, cn5, cn6, jJa, lk0, lk1, jmS, jmN, s4_0, s4_1, s4_2, s4_3, s4_4, sw0, sw1, cKs, cKn, true_and, and_true, List.map_cons, List.map_nil, Nat.reduceAdd, Nat.zero_add, Int.reduceAdd, Nat.reduceEqDiff, reduceIte, Classical.not_not, b_Rd_unit, shH, h8', Int.reduceEq, not_true_eq_false, not_false_eq_true, false_imp_iff, true_imp_iff, and_self]
    refine ⟨by omega, (c_Rd_deeper_in (by omega) hA (by omega) (by omega)).mono ?_⟩
    rintro r M0 _ ⟨rfl, hA0, e0⟩
    have gg0 : GdC t n m z c M M0 (k + 1) [] := by
      rw [e0] at hA0 ⊢
      exact gr.step hz hA0
    have f0 := gg0.f9 h9 h10
    clear e0
    simp only [wR, wB, wE0, wE1, wE2, wE3, g0, gS, s10, s11, s1S, s20, s21, s2S, kl0, kl1, kl2, kl3, sp0, sp1, sp2, sp3, cn1, cn2, cn3, cn4, cn5, cn6, jJa, lk0, lk1, jmS, jmN, s4_0, s4_1, s4_2, s4_3, s4_4, sw0, sw1, cKs, cKn, true_and, and_true, List.map_cons, List.map_nil, Nat.reduceAdd, Nat.zero_add, Int.reduceAdd, Nat.reduceEqDiff, reduceIte, Classical.not_not, b_Rd_unit, shH, ce, Int.reduceEq, not_true_eq_false, not_false_eq_true, false_imp_iff, true_imp_iff, and_self]
    (repeat' (first | omega | (with_reducible exact True.intro) | exact ⟨by omega, by omega⟩ | (with_reducible exact Or.inr trivial) | (with_reducible exact Or.inl trivial) | (with_reducible assumption) | (with_reducible exact Same.refl) | (with_reducible rfl) | (with_reducible refine And.intro ?_ ?_) | (with_reducible intro _)))
    refine (ihT (d - 1) (v + 1) (k + 1) c M0 (by omega) (by omega) hA0 f0.1 f0.2 gg0.2.2.1 (by omega) ok.bd).mono ?_
    rintro r M1 _ ⟨rfl, hp⟩
    rcases rs_cases (PR t n lw f 5 (v + 1) (k + 1)) with ⟨w, k1, hr⟩ | ⟨k1, c1, hr⟩
    · rw [hr] at hp ok ⊢
      have hb := BdC.of gg0.1 hp.bad
      simp only [wR, wB, wE0, wE1, wE2, wE3, g0, gS, s10, s11, s1S, s20, s21, s2S, kl0, kl1, kl2, kl3, sp0, sp1, sp2, sp3, cn1, cn2, cn3, cn4, cn5, cn6, jJa, lk0, lk1, jmS, jmN, s4_0, s4_1, s4_2, s4_3, s4_4, sw0, sw1, cKs, cKn, true_and, and_true, List.map_cons, List.map_nil, Nat.reduceAdd, Nat.zero_add, Int.reduceAdd, Nat.reduceEqDiff, reduceIte, Classical.not_not, b_Rd_unit, shH]
      refine ⟨by omega, MS.to (c_Rd_sign_g (by omega) hb.ne hb.2.2.2.1 (by omega)) fun _ => ?_⟩
      simp only [wR, wB, wE0, wE1, wE2, wE3, g0, gS, s10, s11, s1S, s20, s21, s2S, kl0, kl1, kl2, kl3, sp0, sp1, sp2, sp3, cn1, cn2, cn3, cn4, cn5, cn6, jJa, lk0, lk1, jmS, jmN, s4_0, s4_1, s4_2, s4_3, s4_4, sw0, sw1, cKs, cKn, true_and, and_true, List.map_cons, List.map_nil, Nat.reduceAdd, Nat.zero_add, Int.reduceAdd, Nat.reduceEqDiff, reduceIte, Classical.not_not, b_Rd_unit, shH, Int.reduceEq, not_true_eq_false, not_false_eq_true, false_imp_iff, true_imp_iff, and_self]
      exact hb.po
    rw [hr] at hp ok ⊢
    rw [good_bd] at ok ⊢
    have n1 := PR_ln _ _ _ _ (by omega) _ _ hr
    have g1 := gg0.seq (cs := []) hp.good
    rw [List.nil_append] at g1
    have m1 := g1.2.1.m9
    by_cases q1 : kin t n (pls t n (k1)) = 38
    · rw [if_pos q1]
      simp only [wR, wB, wE0, wE1, wE2, wE3, g0, gS, s10, s11, s1S, s20, s21, s2S, kl0, kl1, kl2, kl3, sp0, sp1, sp2, sp3, cn1, cn2, cn3, cn4, cn5, cn6, jJa, lk0, lk1, jmS, jmN, s4_0, s4_1, s4_2, s4_3, s4_4, sw0, sw1, cKs, cKn, true_and, and_true, List.map_cons, List.map_nil, Nat.reduceAdd, Nat.zero_add, Int.reduceAdd, Nat.reduceEqDiff, reduceIte, Classical.not_not, b_Rd_unit, shH]
      refine ⟨by omega, (c_Rd_sign_yes (x := 38) (c := 93) (by omega) g1.2.1 q1 (by omega) (by decide +kernel) (by omega)).mono ?_⟩
      rintro r M2 _ ⟨rfl, hA2, e2⟩
      simp only [wR, wB, wE0, wE1, wE2, wE3, g0, gS, s10, s11, s1S, s20, s21, s2S, kl0, kl1, kl2, kl3, sp0, sp1, sp2, sp3, cn1, cn2, cn3, cn4, cn5, cn6, jJa, lk0, lk1, jmS, jmN, s4_0, s4_1, s4_2, s4_3, s4_4, sw0, sw1, cKs, cKn, true_and, and_true, List.map_cons, List.map_nil, Nat.reduceAdd, Nat.zero_add, Int.reduceAdd, Nat.reduceEqDiff, reduceIte, Classical.not_not, b_Rd_unit, shH, Int.reduceEq, not_true_eq_false, not_false_eq_true, false_imp_iff, true_imp_iff, and_self]
      rw [e2] at hA2 ⊢
      exact (g1.step hz hA2).po
    · rw [if_neg q1]
      have hb := BdC.mk' (w := 2) hz g1 (by omega) (by omega)
      have hsn := c_Rd_sign_no (G := G) (d := d - 1) (x := 38) (c := 93) (by omega) g1.2.1 q1 (by unfold vK; omega) (by decide +kernel) (by omega)
      generalize up (up (up M1 2 0 _) 2 1 _) 2 8 23 = M9 at hsn hb
      simp only [wR, wB, wE0, wE1, wE2, wE3, g0, gS, s10, s11, s1S, s20, s21, s2S, kl0, kl1, kl2, kl3, sp0, sp1, sp2, sp3, cn1, cn2, cn3, cn4, cn5, cn6, jJa, lk0, lk1, jmS, jmN, s4_0, s4_1, s4_2, s4_3, s4_4, sw0, sw1, cKs, cKn, true_and, and_true, List.map_cons, List.map_nil, Nat.reduceAdd, Nat.zero_add, Int.reduceAdd, Nat.reduceEqDiff, reduceIte, Classical.not_not, b_Rd_unit, shH]
      refine ⟨by omega, MS.to hsn fun _ => ?_⟩
      simp only [wR, wB, wE0, wE1, wE2, wE3, g0, gS, s10, s11, s1S, s20, s21, s2S, kl0, kl1, kl2, kl3, sp0, sp1, sp2, sp3, cn1, cn2, cn3, cn4, cn5, cn6, jJa, lk0, lk1, jmS, jmN, s4_0, s4_1, s4_2, s4_3, s4_4, sw0, sw1, cKs, cKn, true_and, and_true, List.map_cons, List.map_nil, Nat.reduceAdd, Nat.zero_add, Int.reduceAdd, Nat.reduceEqDiff, reduceIte, Classical.not_not, b_Rd_unit, shH, Int.reduceEq, not_true_eq_false, not_false_eq_true, false_imp_iff, true_imp_iff, and_self]
      exact hb.po
  rw [if_neg q37] at ok ⊢
  have hcm := c_Rd_comparison0 (G := G) (d := d - 1) hz ihS hv (by omega) hA h9 h10 hc hck ok
  generalize ck (kin t n (pls t n (k))) = tt at *
  refine AW.run ck_Rd_unit [] 12 34 ?_
  simp only [wR, wB, wE0, wE1, wE2, wE3, g0, gS, s10, s11, s1S, s20, s21, s2S, kl0, kl1, kl2, kl3, sp0, sp1, sp2, sp3, cn1, cn2, cn3, cn4, cn5, cn6, jJa, lk0, lk1, jmS, jmN, s4_0, s4_1, s4_2, s4_3, s4_4, sw0, sw1, cKs, cKn, true_and, and_true, List.map_cons, List.map_nil, Nat.reduceAdd, Nat.zero_add, Int.reduceAdd, Nat.reduceEqDiff, reduceIte, Classical.not_not, b_Rd_unit, shH, h8, Int.reduceEq, not_true_eq_false, not_false_eq_true, false_imp_iff, true_imp_iff, and_self]
  (repeat' (first | omega | (with_reducible exact True.intro) | exact ⟨by omega, by omega⟩ | (with_reducible exact Or.inr trivial) | (with_reducible exact Or.inl trivial) | (with_reducible assumption) | (with_reducible exact Same.refl) | (with_reducible rfl) | (with_reducible refine And.intro ?_ ?_) | (with_reducible intro _)))
  refine hcm.mono ?_
  rintro r M1 _ ⟨rfl, hp⟩
  simp only [wR, wB, wE0, wE1, wE2, wE3, g0, gS, s10, s11, s1S, s20, s21, s2S, kl0, kl1, kl2, kl3, sp0, sp1, sp2, sp3, cn1, cn2, cn3, cn4, cn5, cn6, jJa, lk0, lk1, jmS, jmN, s4_0, s4_1, s4_2, s4_3, s4_4, sw0, sw1, cKs, cKn, true_and, and_true, List.map_cons, List.map_nil, Nat.reduceAdd, Nat.zero_add, Int.reduceAdd, Nat.reduceEqDiff, reduceIte, Classical.not_not, b_Rd_unit, shH, Int.reduceEq, not_true_eq_false, not_false_eq_true, false_imp_iff, true_imp_iff, and_self]
  exact hp
def SCA (G : AG) (t : Nat → Nat) (n m lw : Nat) (z : Int) (f : Nat) : Prop := SC G t n m lw z mi_Rd_sum 2 0 f ∧ SD G t n m lw z mi_Rd_sum 2 1 f (fun v i l => [some (vr 2), some (vi v), some (vi i), l]) ∧ SC G t n m lw z mi_Rd_term 1 2 f ∧ SD G t n m lw z mi_Rd_term 1 3 f (fun v i _ => [some (vr 2), some (vi v), some (vi i)]) ∧ SC G t n m lw z mi_Rd_atom 0 4 f ∧ SC G t n m lw z mi_Rd_truth 6 5 f ∧ SD G t n m lw z mi_Rd_truth 6 6 f (fun v i _ => [some (vr 2), some (vi v), some (vi i)]) ∧ SC G t n m lw z mi_Rd_both 5 7 f ∧ SD G t n m lw z mi_Rd_both 5 8 f (fun v i _ => [some (vr 2), some (vi v), some (vi i)]) ∧ SC G t n m lw z mi_Rd_unit 4 9 f
theorem c_Rd_readAll (hz : lwZ z) : ∀ f, SCA G t n m lw z f
  | 0 => by
    refine ⟨?_, ?_, ?_, ?_, ?_, ?_, ?_, ?_, ?_, ?_⟩
    · intro d v k c M hv hd hA h9 h10 hc hck ok; exact absurd rfl (ok k)
    · intro d v k c i M l Q hv hd hA h9 h10 hc hck hik ok; exact absurd rfl (ok k)
    · intro d v k c M hv hd hA h9 h10 hc hck ok; exact absurd rfl (ok k)
    · intro d v k c i M l Q hv hd hA h9 h10 hc hck hik ok; exact absurd rfl (ok k)
    · intro d v k c M hv hd hA h9 h10 hc hck ok; exact absurd rfl (ok k)
    · intro d v k c M hv hd hA h9 h10 hc hck ok; exact absurd rfl (ok k)
    · intro d v k c i M l Q hv hd hA h9 h10 hc hck hik ok; exact absurd rfl (ok k)
    · intro d v k c M hv hd hA h9 h10 hc hck ok; exact absurd rfl (ok k)
    · intro d v k c i M l Q hv hd hA h9 h10 hc hck hik ok; exact absurd rfl (ok k)
    · intro d v k c M hv hd hA h9 h10 hc hck ok; exact absurd rfl (ok k)
  | f + 1 => by
    obtain ⟨i0, i1, i2, i3, i4, i5, i6, i7, i8, i9⟩ := c_Rd_readAll hz f
    exact ⟨c_Rd_sum0 hz i2 i1, c_Rd_sumL0 hz i2 i1, c_Rd_term0 hz i4 i3, c_Rd_termL0 hz i4 i3, c_Rd_atom0 hz i0 i5, c_Rd_truth0 hz i7 i6, c_Rd_truthL0 hz i7 i6, c_Rd_both0 hz i9 i8, c_Rd_bothL0 hz i9 i8, c_Rd_unit0 hz i0 i5 i9⟩
end QF
