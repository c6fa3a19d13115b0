section QE
variable {G : AG} {t : Nat → Nat} {n m lw f : Nat} {z : Int}
theorem c_Rd_next_g {d k c : Nat} {M N : AM} {cs : List Int} (hz : lwZ z) (g : GdC t n m z c M N k cs) (hk : kin t n (pls t n (k)) ≠ 24 ∧ kin t n (pls t n (k)) ≠ 25) : MS G d mi_Rd_next [vr 2] N (fun r M' => r = none ∧ GdC t n m z c M M' (k + 1) cs) := by
  refine (c_Rd_next g.2.1 hk).mono ?_
  rintro r M1 _ ⟨rfl, hA1, e1⟩
  refine ⟨rfl, ?_⟩
  rw [e1] at hA1 ⊢
  exact g.step hz hA1
theorem vn_b {k : Nat} (h : kin t n (pls t n (k)) = 23) : 0 ≤ vlu t (pls t n (k)) (tEnd t n (pls t n (k)) - pls t n (k)) ∧ vlu t (pls t n (k)) (tEnd t n (pls t n (k)) - pls t n (k)) ≤ 999 := by
  obtain ⟨h1, h2, h3⟩ := kin_23 h
  exact vlu_b _ (by omega) (fun y hy => h3 _ (by omega) (by omega))
theorem wrV_some {kk x : Nat} (hw : wrV lw kk = some x) : (2 ≤ kk ∧ kk ≤ 7 ∧ x = kk - 2) ∨ (14 ≤ kk ∧ kk ≤ 16 ∧ lw = 0 ∧ x = kk - 8) := by
  unfold wrV at hw
  split at hw
  · cases hw; left; omega
  · split at hw
    · split at hw
      · cases hw; right; omega
      · cases hw
    · cases hw
theorem wrV_none {kk : Nat} (hw : wrV lw kk = none) : ¬ (2 ≤ kk ∧ kk ≤ 7) ∧ (14 ≤ kk ∧ kk ≤ 16 → lw ≠ 0) := by
  unfold wrV at hw
  split at hw
  · cases hw
  · split at hw
    · split at hw
      · cases hw
      · next h => exact ⟨by omega, fun _ => h⟩
    · exact ⟨by omega, by omega⟩
theorem c_Rd_atom0 (hz : lwZ z) (ihS : SC G t n m lw z mi_Rd_sum 2 0 f) (ihT : SC G t n m lw z mi_Rd_truth 6 5 f) : SC G t n m lw z mi_Rd_atom 0 4 (f + 1) := by
  intro d v k c M hv hd hA h9 h10 hc hck ok
  have m9 := hA.m9
  have h8 := hA.2.2.2.1
  have h7 := hA.2.2.1
  have e23 := ckq (kk := kin t n (pls t n (k))) (x := 23) (v := 21) kin_v (by unfold vK; omega) (by decide +kernel)
  have e35 := ckq (kk := kin t n (pls t n (k))) (x := 35) (v := 140) kin_v (by unfold vK; omega) (by decide +kernel)
  have e10 := ckq (kk := kin t n (pls t n (k))) (x := 10) (v := 13) kin_v (by unfold vK; omega) (by decide +kernel)
  have hsm := ckq_small (kin_v (t := t) (n := n) (i := pls t n k))
  have gr := GdC.refl hA hc
  have km : kin t n (pls t n (k)) ≠ 24 → kin t n (pls t n (k)) ≠ 25 → k < 900 := by
    intro q1 q2
    have h1 := hA.2.1
    have h2 := hA.1.1
    rcases Nat.lt_or_ge k m with q | q
    · omega
    · have e : k = m := by omega
      have := hA.1.2.2.1
      rw [← e] at this
      omega
  refine MS.by ck_Rd_atom [some (vr 2), some (vi v)] fun _ _ => ?_
  by_cases q23 : kin t n (pls t n (k)) = 23
  · rw [PR_4n q23] at ok ⊢
    have hk := km (by omega) (by omega)
    have i6 : isArr 6 := ⟨_, (arT_of (k := 6) rfl rfl).1⟩
    have h6 := (hA.1.2.1 k hA.2.1).2.2 q23
    have hvb := vn_b (t := t) (n := n) q23
    have hcc : vlu t (pls t n (k)) (tEnd t n (pls t n (k)) - pls t n (k)) = cc (vlu t (pls t n (k)) (tEnd t n (pls t n (k)) - pls t n (k))) := by unfold cc; rw [if_pos (by omega)]
    rw [e23.mpr q23] at h8
    have hput := c_Rd_put_g (G := G) (d := d - 1) (v := vlu t (pls t n (k)) (tEnd t n (pls t n (k)) - pls t n (k))) (by omega) hz h9 gr (by simp only [List.length_nil]; omega) hcc
    generalize vlu t (pls t n (k)) (tEnd t n (pls t n (k)) - pls t n (k)) = x at *
    refine AW.run ck_Rd_atom [29] 12 0 ?_
    simp only [wR, wB, wE0, wE1, wE2, wE3, g0, gS, s10, s11, s1S, s20, s21, s2S, kl0, kl1, kl2, kl3, sp0, sp1, sp2, sp3, cn1, cn2, cn3, cn4, cn5, cn6, jJa, lk0, lk1, jmS, jmN, s4_0, s4_1, s4_2, s4_3, s4_4, sw0, sw1, cKs, cKn, true_and, and_true, List.map_cons, List.map_nil, Nat.reduceAdd, Nat.zero_add, Int.reduceAdd, Nat.reduceEqDiff, reduceIte, Classical.not_not, b_Rd_atom, shH, h8, h7, i6, h6, Int.reduceEq, not_true_eq_false, not_false_eq_true, false_imp_iff, true_imp_iff, and_self]
    (repeat' (first | omega | (with_reducible exact True.intro) | exact ⟨by omega, by omega⟩ | (with_reducible exact Or.inr trivial) | (with_reducible exact Or.inl trivial) | (with_reducible assumption) | (with_reducible exact Same.refl) | (with_reducible rfl) | (with_reducible refine And.intro ?_ ?_) | (with_reducible intro _)))
    refine hput.mono ?_
    rintro r M1 _ ⟨rfl, g1, _⟩
    simp only [wR, wB, wE0, wE1, wE2, wE3, g0, gS, s10, s11, s1S, s20, s21, s2S, kl0, kl1, kl2, kl3, sp0, sp1, sp2, sp3, cn1, cn2, cn3, cn4, cn5, cn6, jJa, lk0, lk1, jmS, jmN, s4_0, s4_1, s4_2, s4_3, s4_4, sw0, sw1, cKs, cKn, true_and, and_true, List.map_cons, List.map_nil, Nat.reduceAdd, Nat.zero_add, Int.reduceAdd, Nat.reduceEqDiff, reduceIte, Classical.not_not, b_Rd_atom, shH, Int.reduceEq, not_true_eq_false, not_false_eq_true, false_imp_iff, true_imp_iff, and_self]
    refine ⟨by omega, (c_Rd_next_g hz g1 (by omega)).mono ?_⟩
    rintro r M2 _ ⟨rfl, g2⟩
    simp only [wR, wB, wE0, wE1, wE2, wE3, g0, gS, s10, s11, s1S, s20, s21, s2S, kl0, kl1, kl2, kl3, sp0, sp1, sp2, sp3, cn1, cn2, cn3, cn4, cn5, cn6, jJa, lk0, lk1, jmS, jmN, s4_0, s4_1, s4_2, s4_3, s4_4, sw0, sw1, cKs, cKn, true_and, and_true, List.map_cons, List.map_nil, Nat.reduceAdd, Nat.zero_add, Int.reduceAdd, Nat.reduceEqDiff, reduceIte, Classical.not_not, b_Rd_atom, shH, Int.reduceEq, not_true_eq_false, not_false_eq_true, false_imp_iff, true_imp_iff, and_self]
    exact g2.po
  have a29 : ∀ Q, AW G d mi_Rd_atom Q 29 [some (vr 2), some (vi v)] [] M → AW G d mi_Rd_atom Q 0 [some (vr 2), some (vi v)] [] M := by
    intro Q h
    generalize ck (kin t n (pls t n (k))) = tt at *
    refine AW.run ck_Rd_atom [29] 12 0 ?_
    simp only [wR, wB, wE0, wE1, wE2, wE3, g0, gS, s10, s11, s1S, s20, s21, s2S, kl0, kl1, kl2, kl3, sp0, sp1, sp2, sp3, cn1, cn2, cn3, cn4, cn5, cn6, jJa, lk0, lk1, jmS, jmN, s4_0, s4_1, s4_2, s4_3, s4_4, sw0, sw1, cKs, cKn, true_and, and_true, List.map_cons, List.map_nil, Nat.reduceAdd, Nat.zero_add, Int.reduceAdd, Nat.reduceEqDiff, reduceIte, Classical.not_not, b_Rd_atom, shH, h8, Int.reduceEq, not_true_eq_false, not_false_eq_true, false_imp_iff, true_imp_iff, and_self]
    (repeat' (first | omega | (with_reducible exact True.intro) | exact ⟨by omega, by omega⟩ | (with_reducible exact Or.inr trivial) | (with_reducible exact Or.inl trivial) | (with_reducible assumption) | (with_reducible exact Same.refl) | (with_reducible rfl) | (with_reducible refine And.intro ?_ ?_) | (with_reducible intro _)))
  refine a29 _ ?_
  cases hw : wrV lw (kin t n (pls t n (k))) with
  | some x =>
    rw [PR_4w q23 hw] at ok ⊢
    have hx := wrV_some hw
    have hk := km (by omega) (by omega)
    have hput := c_Rd_put_g (G := G) (d := d - 1) (v := 1000 + (x : Int)) (x := 1000 + (x : Int)) (by omega) hz h9 gr (by simp only [List.length_nil]; omega) (by unfold cc; rw [if_pos (by omega)])
    have hnx := fun M1 g1 => c_Rd_next_g (G := G) (t := t) (n := n) (m := m) (d := d - 1) (M := M) (N := M1) (k := k) (c := c) (cs := [1000 + (x : Int)]) hz g1 (by omega)
    have ex : ck (kin t n (pls t n (k))) = x := by omega
    rw [ex] at h8
    have a54 : AW G d mi_Rd_atom (fun r M' => r = none ∧ PoC t n m z c M M' (Rs.good (k + 1) [1000 + (x : Int)])) 54 [some (vr 2), some (vi v)] [] M := by
      refine AW.run ck_Rd_atom [] 12 54 ?_
      simp only [wR, wB, wE0, wE1, wE2, wE3, g0, gS, s10, s11, s1S, s20, s21, s2S, kl0, kl1, kl2, kl3, sp0, sp1, sp2, sp3, cn1, cn2, cn3, cn4, cn5, cn6, jJa, lk0, lk1, jmS, jmN, s4_0, s4_1, s4_2, s4_3, s4_4, sw0, sw1, cKs, cKn, true_and, and_true, List.map_cons, List.map_nil, Nat.reduceAdd, Nat.zero_add, Int.reduceAdd, Nat.reduceEqDiff, reduceIte, Classical.not_not, b_Rd_atom, shH, h8, Int.reduceEq, not_true_eq_false, not_false_eq_true, false_imp_iff, true_imp_iff, and_self]
      (repeat' (first | omega | (with_reducible exact True.intro) | exact ⟨by omega, by omega⟩ | (with_reducible exact Or.inr trivial) | (with_reducible exact Or.inl trivial) | (with_reducible assumption) | (with_reducible exact Same.refl) | (with_reducible rfl) | (with_reducible refine And.intro ?_ ?_) | (with_reducible intro _)))
      refine hput.mono ?_
      rintro r M1 _ ⟨rfl, g1, _⟩
      simp only [wR, wB, wE0, wE1, wE2, wE3, g0, gS, s10, s11, s1S, s20, s21, s2S, kl0, kl1, kl2, kl3, sp0, sp1, sp2, sp3, cn1, cn2, cn3, cn4, cn5, cn6, jJa, lk0, lk1, jmS, jmN, s4_0, s4_1, s4_2, s4_3, s4_4, sw0, sw1, cKs, cKn, true_and, and_true, List.map_cons, List.map_nil, Nat.reduceAdd, Nat.zero_add, Int.reduceAdd, Nat.reduceEqDiff, reduceIte, Classical.not_not, b_Rd_atom, shH, Int.reduceEq, not_true_eq_false, not_false_eq_true, false_imp_iff, true_imp_iff, and_self]
      refine ⟨by omega, (hnx M1 g1).mono ?_⟩
      rintro r M2 _ ⟨rfl, g2⟩
      simp only [wR, wB, wE0, wE1, wE2, wE3, g0, gS, s10, s11, s1S, s20, s21, s2S, kl0, kl1, kl2, kl3, sp0, sp1, sp2, sp3, cn1, cn2, cn3, cn4, cn5, cn6, jJa, lk0, lk1, jmS, jmN, s4_0, s4_1, s4_2, s4_3, s4_4, sw0, sw1, cKs, cKn, true_and, and_true, List.map_cons, List.map_nil, Nat.reduceAdd, Nat.zero_add, Int.reduceAdd, Nat.reduceEqDiff, reduceIte, Classical.not_not, b_Rd_atom, shH, Int.reduceEq, not_true_eq_false, not_false_eq_true, false_imp_iff, true_imp_iff, and_self]
      exact g2.po
    refine AW.run ck_Rd_atom [54, 73] 12 29 ?_
    rcases hx with ⟨x1, x2, x3⟩ | ⟨x1, x2, x3, x4⟩
    · simp only [wR, wB, wE0, wE1, wE2, wE3, g0, gS, s10, s11, s1S, s20, s21, s2S, kl0, kl1, kl2, kl3, sp0, sp1, sp2, sp3, cn1, cn2, cn3, cn4, cn5, cn6, jJa, lk0, lk1, jmS, jmN, s4_0, s4_1, s4_2, s4_3, s4_4, sw0, sw1, cKs, cKn, true_and, and_true, List.map_cons, List.map_nil, Nat.reduceAdd, Nat.zero_add, Int.reduceAdd, Nat.reduceEqDiff, reduceIte, Classical.not_not, b_Rd_atom, shH, h8, Int.reduceEq, not_true_eq_false, not_false_eq_true, false_imp_iff, true_imp_iff, and_self]
      (repeat' (first | omega | (with_reducible exact True.intro) | exact ⟨by omega, by omega⟩ | (with_reducible exact Or.inr trivial) | (with_reducible exact Or.inl trivial) | (with_reducible assumption) | (with_reducible exact Same.refl) | (with_reducible rfl) | (with_reducible refine And.intro ?_ ?_) | (with_reducible intro _)))
    · rw [if_pos x3] at h10
      simp only [wR, wB, wE0, wE1, wE2, wE3, g0, gS, s10, s11, s1S, s20, s21, s2S, kl0, kl1, kl2, kl3, sp0, sp1, sp2, sp3, cn1, cn2, cn3, cn4, cn5, cn6, jJa, lk0, lk1, jmS, jmN, s4_0, s4_1, s4_2, s4_3, s4_4, sw0, sw1, cKs, cKn, true_and, and_true, List.map_cons, List.map_nil, Nat.reduceAdd, Nat.zero_add, Int.reduceAdd, Nat.reduceEqDiff, reduceIte, Classical.not_not, b_Rd_atom, shH, h8, h10, Int.reduceEq, not_true_eq_false, not_false_eq_true, false_imp_iff, true_imp_iff, and_self]
      (repeat' (first | omega | (with_reducible exact True.intro) | exact ⟨by omega, by omega⟩ | (with_reducible exact Or.inr trivial) | (with_reducible exact Or.inl trivial) | (with_reducible assumption) | (with_reducible exact Same.refl) | (with_reducible rfl) | (with_reducible refine And.intro ?_ ?_) | (with_reducible intro _)))
  | none =>
    rw [PR_4o q23 hw] at ok ⊢
    have hno := wrV_none hw
    have a73 : ∀ Q, AW G d mi_Rd_atom Q 73 [some (vr 2), some (vi v)] [] M → AW G d mi_Rd_atom Q 29 [some (vr 2), some (vi v)] [] M := by
      intro Q h
      generalize ck (kin t n (pls t n (k))) = tt at *
      refine AW.run ck_Rd_atom [54, 73] 12 29 ?_
      by_cases q0 : lw = 0
      · rw [if_pos q0] at h10
        simp only [wR, wB, wE0, wE1, wE2, wE3, g0, gS, s10, s11, s1S, s20, s21, s2S, kl0, kl1, kl2, kl3, sp0, sp1, sp2, sp3, cn1, cn2, cn3, cn4, cn5, cn6, jJa, lk0, lk1, jmS, jmN, s4_0, s4_1, s4_2, s4_3, s4_4, sw0, sw1, cKs, cKn, true_and, and_true, List.map_cons, List.map_nil, Nat.reduceAdd, Nat.zero_add, Int.reduceAdd, Nat.reduceEqDiff, reduceIte, Classical.not_not, b_Rd_atom, shH, h8, h10, Int.reduceEq, not_true_eq_false, not_false_eq_true, false_imp_iff, true_imp_iff, and_self]
        (repeat' (first | omega | (with_reducible exact True.intro) | exact ⟨by omega, by omega⟩ | (with_reducible exact Or.inr trivial) | (with_reducible exact Or.inl trivial) | (with_reducible assumption) | (with_reducible exact Same.refl) | (with_reducible rfl) | (with_reducible refine And.intro ?_ ?_) | (with_reducible intro _)))
      · rw [if_neg q0] at h10
        simp only [wR, wB, wE0, wE1, wE2, wE3, g0, gS, s10, s11, s1S, s20, s21, s2S, kl0, kl1, kl2, kl3, sp0, sp1, sp2, sp3, cn1, cn2, cn3, cn4, cn5, cn6, jJa, lk0, lk1, jmS, jmN, s4_0, s4_1, s4_2, s4_3, s4_4, sw0, sw1, cKs, cKn, true_and, and_true, List.map_cons, List.map_nil, Nat.reduceAdd, Nat.zero_add, Int.reduceAdd, Nat.reduceEqDiff, reduceIte, Classical.not_not, b_Rd_atom, shH, h8, h10, Int.reduceEq, not_true_eq_false, not_false_eq_true, false_imp_iff, true_imp_iff, and_self]
        (repeat' (first | omega | (with_reducible exact True.intro) | exact ⟨by omega, by omega⟩ | (with_reducible exact Or.inr trivial) | (with_reducible exact Or.inl trivial) | (with_reducible assumption) | (with_reducible exact Same.refl) | (with_reducible rfl) | (with_reducible refine And.intro ?_ ?_) | (with_reducible intro _)))
    refine a73 _ ?_
    by_cases q35 : kin t n (pls t n (k)) = 35
    · rw [if_pos q35] at ok ⊢
      have h8' := h8
      rw [e35.mpr q35] at h8'
      by_cases q6 : v = 6
      · subst q6
        rw [if_pos rfl]
        have hb := BdC.mk' (w := 4) hz gr (by simp only [List.length_nil]; omega) (by omega)
        have hdp := c_Rd_deeper_no (G := G) (d := d - 1) (by omega) hA
        generalize up (up (up M 2 0 _) 2 1 _) 2 8 23 = M9 at hdp hb
        refine AW.run ck_Rd_atom [107] 12 73 ?_
        simp only [wR, wB, wE0, wE1, wE2, wE3, g0, gS, s10, s11, s1S, s20, s21, s2S, kl0, kl1, kl2, kl3, sp0, sp1, sp2, sp3, cn1, cn2, cn3, cn4, cn5, cn6, jJa, lk0, lk1, jmS, jmN, s4_0, s4_1, s4_2, s4_3, s4_4, sw0, sw1, cKs, cKn, true_and, and_true, List.map_cons, List.map_nil, Nat.reduceAdd, Nat.zero_add, Int.reduceAdd, Nat.reduceEqDiff, reduceIte, Classical.not_not, b_Rd_atom, shH, h8', Int.reduceEq, not_true_eq_false, not_false_eq_true, false_imp_iff, true_imp_iff, and_self]
        refine ⟨by omega, MS.to hdp fun _ => ?_⟩
        simp only [wR, wB, wE0, wE1, wE2, wE3, g0, gS, s10, s11, s1S, s20, s21, s2S, kl0, kl1, kl2, kl3, sp0, sp1, sp2, sp3, cn1, cn2, cn3, cn4, cn5, cn6, jJa, lk0, lk1, jmS, jmN, s4_0, s4_1, s4_2, s4_3, s4_4, sw0, sw1, cKs, cKn, true_and, and_true, List.map_cons, List.map_nil, Nat.reduceAdd, Nat.zero_add, Int.reduceAdd, Nat.reduceEqDiff, reduceIte, Classical.not_not, b_Rd_atom, shH, Int.reduceEq, not_true_eq_false, not_false_eq_true, false_imp_iff, true_imp_iff, and_self]
        exact hb.po
      rw [if_neg q6] at ok ⊢
      refine AW.run ck_Rd_atom [107] 12 73 ?_
      simp only [wR, wB, wE0, wE1, wE2, wE3, g0, gS, s10, s11, s1S, s20, s21, s2S, kl0, kl1, kl2, kl3, sp0, sp1, sp2, sp3, cn1, cn2, cn3, cn4, cn5, cn6, jJa, lk0, lk1, jmS, jmN, s4_0, s4_1, s4_2, s4_3, s4_4, sw0, sw1, cKs, cKn, true_and, and_true, List.map_cons, List.map_nil, Nat.reduceAdd, Nat.zero_add, Int.reduceAdd, Nat.reduceEqDiff, reduceIte, Classical.not_not, b_Rd_atom, shH, h8', Int.reduceEq, not_true_eq_false, not_false_eq_true, false_imp_iff, true_imp_iff, and_self]
      refine ⟨by omega, (c_Rd_deeper_in (by omega) hA (by omega) (by omega)).mono ?_⟩
      rintro r M0 _ ⟨rfl, hA0, e0⟩
      have gg0 : GdC t n m z c M M0 (k + 1) [] := by
        rw [e0] at hA0 ⊢
        exact gr.step hz hA0
      have f0 := gg0.f9 h9 h10
      clear e0
      simp only [wR, wB, wE0, wE1, wE2, wE3, g0, gS, s10, s11, s1S, s20, s21, s2S, kl0, kl1, kl2, kl3, sp0, sp1, sp2, sp3, cn1, cn2, cn3, cn4, cn5, cn6, jJa, lk0, lk1, jmS, jmN, s4_0, s4_1, s4_2, s4_3, s4_4, sw0, sw1, cKs, cKn, true_and, and_true, List.map_cons, List.map_nil, Nat.reduceAdd, Nat.zero_add, Int.reduceAdd, Nat.reduceEqDiff, reduceIte, Classical.not_not, b_Rd_atom, shH, ce, Int.reduceEq, not_true_eq_false, not_false_eq_true, false_imp_iff, true_imp_iff, and_self]
      (repeat' (first | omega | (with_reducible exact True.intro) | exact ⟨by omega, by omega⟩ | (with_reducible exact Or.inr trivial) | (with_reducible exact Or.inl trivial) | (with_reducible assumption) | (with_reducible exact Same.refl) | (with_reducible rfl) | (with_reducible refine And.intro ?_ ?_) | (with_reducible intro _)))
      refine (ihS (d - 1) (v + 1) (k + 1) c M0 (by omega) (by omega) hA0 f0.1 f0.2 gg0.2.2.1 (by omega) ok.bd).mono ?_
      rintro r M1 _ ⟨rfl, hp⟩
      rcases rs_cases (PR t n lw f 0 (v + 1) (k + 1)) with ⟨w, k1, hr⟩ | ⟨k1, c1, hr⟩
      · rw [hr] at hp ok ⊢
        have hb := BdC.of gg0.1 hp.bad
        simp only [wR, wB, wE0, wE1, wE2, wE3, g0, gS, s10, s11, s1S, s20, s21, s2S, kl0, kl1, kl2, kl3, sp0, sp1, sp2, sp3, cn1, cn2, cn3, cn4, cn5, cn6, jJa, lk0, lk1, jmS, jmN, s4_0, s4_1, s4_2, s4_3, s4_4, sw0, sw1, cKs, cKn, true_and, and_true, List.map_cons, List.map_nil, Nat.reduceAdd, Nat.zero_add, Int.reduceAdd, Nat.reduceEqDiff, reduceIte, Classical.not_not, b_Rd_atom, shH]
        refine ⟨by omega, MS.to (c_Rd_sign_g (by omega) hb.ne hb.2.2.2.1 (by omega)) fun _ => ?_⟩
        simp only [wR, wB, wE0, wE1, wE2, wE3, g0, gS, s10, s11, s1S, s20, s21, s2S, kl0, kl1, kl2, kl3, sp0, sp1, sp2, sp3, cn1, cn2, cn3, cn4, cn5, cn6, jJa, lk0, lk1, jmS, jmN, s4_0, s4_1, s4_2, s4_3, s4_4, sw0, sw1, cKs, cKn, true_and, and_true, List.map_cons, List.map_nil, Nat.reduceAdd, Nat.zero_add, Int.reduceAdd, Nat.reduceEqDiff, reduceIte, Classical.not_not, b_Rd_atom, shH, Int.reduceEq, not_true_eq_false, not_false_eq_true, false_imp_iff, true_imp_iff, and_self]
        exact hb.po
      rw [hr] at hp ok ⊢
      rw [good_bd] at ok ⊢
      have n1 := PR_ln _ _ _ _ (by omega) _ _ hr
      have g1 := gg0.seq (cs := []) hp.good
      rw [List.nil_append] at g1
      have m1 := g1.2.1.m9
      by_cases q1 : kin t n (pls t n (k1)) = 36
      · rw [if_pos q1]
        simp only [wR, wB, wE0, wE1, wE2, wE3, g0, gS, s10, s11, s1S, s20, s21, s2S, kl0, kl1, kl2, kl3, sp0, sp1, sp2, sp3, cn1, cn2, cn3, cn4, cn5, cn6, jJa, lk0, lk1, jmS, jmN, s4_0, s4_1, s4_2, s4_3, s4_4, sw0, sw1, cKs, cKn, true_and, and_true, List.map_cons, List.map_nil, Nat.reduceAdd, Nat.zero_add, Int.reduceAdd, Nat.reduceEqDiff, reduceIte, Classical.not_not, b_Rd_atom, shH]
        refine ⟨by omega, (c_Rd_sign_yes (x := 36) (c := 41) (by omega) g1.2.1 q1 (by omega) (by decide +kernel) (by omega)).mono ?_⟩
        rintro r M2 _ ⟨rfl, hA2, e2⟩
        simp only [wR, wB, wE0, wE1, wE2, wE3, g0, gS, s10, s11, s1S, s20, s21, s2S, kl0, kl1, kl2, kl3, sp0, sp1, sp2, sp3, cn1, cn2, cn3, cn4, cn5, cn6, jJa, lk0, lk1, jmS, jmN, s4_0, s4_1, s4_2, s4_3, s4_4, sw0, sw1, cKs, cKn, true_and, and_true, List.map_cons, List.map_nil, Nat.reduceAdd, Nat.zero_add, Int.reduceAdd, Nat.reduceEqDiff, reduceIte, Classical.not_not, b_Rd_atom, shH, Int.reduceEq, not_true_eq_false, not_false_eq_true, false_imp_iff, true_imp_iff, and_self]
        rw [e2] at hA2 ⊢
        exact (g1.step hz hA2).po
      · rw [if_neg q1]
        have hb := BdC.mk' (w := 2) hz g1 (by omega) (by omega)
        have hsn := c_Rd_sign_no (G := G) (d := d - 1) (x := 36) (c := 41) (by omega) g1.2.1 q1 (by unfold vK; omega) (by decide +kernel) (by omega)
        generalize up (up (up M1 2 0 _) 2 1 _) 2 8 23 = M9 at hsn hb
        simp only [wR, wB, wE0, wE1, wE2, wE3, g0, gS, s10, s11, s1S, s20, s21, s2S, kl0, kl1, kl2, kl3, sp0, sp1, sp2, sp3, cn1, cn2, cn3, cn4, cn5, cn6, jJa, lk0, lk1, jmS, jmN, s4_0, s4_1, s4_2, s4_3, s4_4, sw0, sw1, cKs, cKn, true_and, and_true, List.map_cons, List.map_nil, Nat.reduceAdd, Nat.zero_add, Int.reduceAdd, Nat.reduceEqDiff, reduceIte, Classical.not_not, b_Rd_atom, shH]
        refine ⟨by omega, MS.to hsn fun _ => ?_⟩
        simp only [wR, wB, wE0, wE1, wE2, wE3, g0, gS, s10, s11, s1S, s20, s21, s2S, kl0, kl1, kl2, kl3, sp0, sp1, sp2, sp3, cn1, cn2, cn3, cn4, cn5, cn6, jJa, lk0, lk1, jmS, jmN, s4_0, s4_1, s4_2, s4_3, s4_4, sw0, sw1, cKs, cKn, true_and, and_true, List.map_cons, List.map_nil, Nat.reduceAdd, Nat.zero_add, Int.reduceAdd, Nat.reduceEqDiff, reduceIte, Classical.not_not, b_Rd_atom, shH, Int.reduceEq, not_true_eq_false, not_false_eq_true, false_imp_iff, true_imp_iff, and_self]
        exact hb.po
    rw [if_neg q35] at ok ⊢
    have a107 : ∀ Q, AW G d mi_Rd_atom Q 107 [some (vr 2), some (vi v)] [] M → AW G d mi_Rd_atom Q 73 [some (vr 2), some (vi v)] [] M := by
      intro Q h
      generalize ck (kin t n (pls t n (k))) = tt at *
      refine AW.run ck_Rd_atom [107] 12 73 ?_
      simp only [wR, wB, wE0, wE1, wE2, wE3, g0, gS, s10, s11, s1S, s20, s21, s2S, kl0, kl1, kl2, kl3, sp0, sp1, sp2, sp3, cn1, cn2, cn3, cn4, cn5, cn6, jJa, lk0, lk1, jmS, jmN, s4_0, s4_1, s4_2, s4_3, s4_4, sw0, sw1, cKs, cKn, true_and, and_true, List.map_cons, List.map_nil, Nat.reduceAdd, Nat.zero_add, Int.reduceAdd, Nat.reduceEqDiff, reduceIte, Classical.not_not, b_Rd_atom, shH, h8, Int.reduceEq, not_true_eq_false, not_false_eq_true, false_imp_iff, true_imp_iff, and_self]
      (repeat' (first | omega | (with_reducible exact True.intro) | exact ⟨by omega, by omega⟩ | (with_reducible exact Or.inr trivial) | (with_reducible exact Or.inl trivial) | (with_reducible assumption) | (with_reducible exact Same.refl) | (with_reducible rfl) | (with_reducible refine And.intro ?_ ?_) | (with_reducible intro _)))
    refine a107 _ ?_
    by_cases q10 : kin t n (pls t n (k)) = 10
    · rw [if_pos q10] at ok ⊢
      have h8' := h8
      rw [e10.mpr q10] at h8'
      by_cases q6 : v = 6
      · subst q6
        rw [if_pos rfl]
        have hb := BdC.mk' (w := 4) hz gr (by simp only [List.length_nil]; omega) (by omega)
        have hdp := c_Rd_deeper_no (G := G) (d := d - 1) (by omega) hA
        generalize up (up (up M 2 0 _) 2 1 _) 2 8 23 = M9 at hdp hb
        refine AW.run ck_Rd_atom [134] 12 107 ?_
        simp only [wR, wB, wE0, wE1, wE2, wE3, g0, gS, s10, s11, s1S, s20, s21, s2S, kl0, kl1, kl2, kl3, sp0, sp1, sp2, sp3, cn1, cn2, cn3, cn4, cn5, cn6, jJa, lk0, lk1, jmS, jmN, s4_0, s4_1, s4_2, s4_3, s4_4, sw0, sw1, cKs, cKn, true_and, and_true, List.map_cons, List.map_nil, Nat.reduceAdd, Nat.zero_add, Int.reduceAdd, Nat.reduceEqDiff, reduceIte, Classical.not_not, b_Rd_atom, shH, h8', Int.reduceEq, not_true_eq_false, not_false_eq_true, false_imp_iff, true_imp_iff, and_self]
        refine ⟨by omega, MS.to hdp fun _ => ?_⟩
        simp only [wR, wB, wE0, wE1, wE2, wE3, g0, gS, s10, s11, s1S, s20, s21, s2S, kl0, kl1, kl2, kl3, sp0, sp1, sp2, sp3, cn1, cn2, cn3, cn4, cn5, cn6, jJa, lk0, lk1, jmS, jmN, s4_0, s4_1, s4_2, s4_3, s4_4, sw0, sw1, cKs, cKn, true_and, and_true, List.map_cons, List.map_nil, Nat.reduceAdd, Nat.zero_add, Int.reduceAdd, Nat.reduceEqDiff, reduceIte, Classical.not_not, b_Rd_atom, shH, Int.reduceEq, not_true_eq_false, not_false_eq_true, false_imp_iff, true_imp_iff, and_self]
        exact hb.po
      rw [if_neg q6] at ok ⊢
      refine AW.run ck_Rd_atom [134] 12 107 ?_
      simp only [wR, wB, wE0, wE1, wE2, wE3, g0, gS, s10, s11, s1S, s20, s21, s2S, kl0, kl1, kl2, kl3, sp0, sp1, sp2, sp3, cn1, cn2, cn3, cn4, cn5, cn6, jJa, lk0, lk1, jmS, jmN, s4_0, s4_1, s4_2, s4_3, s4_4, sw0, sw1, cKs, cKn, true_and, and_true, List.map_cons, List.map_nil, Nat.reduceAdd, Nat.zero_add, Int.reduceAdd, Nat.reduceEqDiff, reduceIte, Classical.not_not, b_Rd_atom, shH, h8', Int.reduceEq, not_true_eq_false, not_false_eq_true, false_imp_iff, true_imp_iff, and_self]
      refine ⟨by omega, (c_Rd_deeper_in (by omega) hA (by omega) (by omega)).mono ?_⟩
      rintro r M0 _ ⟨rfl, hA0, e0⟩
      have gg0 : GdC t n m z c M M0 (k + 1) [] := by
        rw [e0] at hA0 ⊢
        exact gr.step hz hA0
      have f0 := gg0.f9 h9 h10
      clear e0
      simp only [wR, wB, wE0, wE1, wE2, wE3, g0, gS, s10, s11, s1S, s20, s21, s2S, kl0, kl1, kl2, kl3, sp0, sp1, sp2, sp3, cn1, cn2, cn3, cn4, cn5, cn6, jJa, lk0, lk1, jmS, jmN, s4_0, s4_1, s4_2, s4_3, s4_4, sw0, sw1, cKs, cKn, true_and, and_true, List.map_cons, List.map_nil, Nat.reduceAdd, Nat.zero_add, Int.reduceAdd, Nat.reduceEqDiff, reduceIte, Classical.not_not, b_Rd_atom, shH, ce, Int.reduceEq, not_true_eq_false, not_false_eq_true, false_imp_iff, true_imp_iff, and_self]
      (repeat' (first | omega | (with_reducible exact True.intro) | exact ⟨by omega, by omega⟩ | (with_reducible exact Or.inr trivial) | (with_reducible exact Or.inl trivial) | (with_reducible assumption) | (with_reducible exact Same.refl) | (with_reducible rfl) | (with_reducible refine And.intro ?_ ?_) | (with_reducible intro _)))
      refine (c_Rd_choice0 (c := c) hz ihS ihT (by omega) (by omega) hA0 f0.1 f0.2 gg0.2.2.1 (by omega) ok).mono ?_
      rintro r M1 _ ⟨rfl, hp⟩
      simp only [wR, wB, wE0, wE1, wE2, wE3, g0, gS, s10, s11, s1S, s20, s21, s2S, kl0, kl1, kl2, kl3, sp0, sp1, sp2, sp3, cn1, cn2, cn3, cn4, cn5, cn6, jJa, lk0, lk1, jmS, jmN, s4_0, s4_1, s4_2, s4_3, s4_4, sw0, sw1, cKs, cKn, true_and, and_true, List.map_cons, List.map_nil, Nat.reduceAdd, Nat.zero_add, Int.reduceAdd, Nat.reduceEqDiff, reduceIte, Classical.not_not, b_Rd_atom, shH, Int.reduceEq, not_true_eq_false, not_false_eq_true, false_imp_iff, true_imp_iff, and_self]
      rcases rs_cases (PRi t n lw f (v + 1) (k + 1)) with ⟨w, k1, hr⟩ | ⟨k1, c1, hr⟩
      · rw [hr] at hp ⊢
        exact (BdC.of gg0.1 hp.bad).po
      · rw [hr] at hp ⊢
        have g1 := gg0.seq (cs := []) hp.good
        rw [List.nil_append] at g1
        exact g1.po
    · rw [if_neg q10] at ok ⊢
      have hb := BdC.mk' (w := 2) hz gr (by simp only [List.length_nil]; omega) (by omega)
      have hrf := c_Rd_refuse (G := G) (d := d - 1) (w := 2) hA
      generalize up (up (up M 2 0 _) 2 1 _) 2 8 23 = M9 at hrf hb
      have := hb.po (m := m) (c := c)
      generalize ck (kin t n (pls t n (k))) = tt at *
      refine AW.run ck_Rd_atom [] 12 107 ?_
      simp only [wR, wB, wE0, wE1, wE2, wE3, g0, gS, s10, s11, s1S, s20, s21, s2S, kl0, kl1, kl2, kl3, sp0, sp1, sp2, sp3, cn1, cn2, cn3, cn4, cn5, cn6, jJa, lk0, lk1, jmS, jmN, s4_0, s4_1, s4_2, s4_3, s4_4, sw0, sw1, cKs, cKn, true_and, and_true, List.map_cons, List.map_nil, Nat.reduceAdd, Nat.zero_add, Int.reduceAdd, Nat.reduceEqDiff, reduceIte, Classical.not_not, b_Rd_atom, shH, h8, Int.reduceEq, not_true_eq_false, not_false_eq_true, false_imp_iff, true_imp_iff, and_self]
      (repeat' (first | omega | (with_reducible exact True.intro) | exact ⟨by omega, by omega⟩ | (with_reducible exact Or.inr trivial) | (with_reducible exact Or.inl trivial) | (with_reducible assumption) | (with_reducible exact Same.refl) | (with_reducible rfl) | (with_reducible refine And.intro ?_ ?_) | (with_reducible intro _)))
      refine MS.to hrf fun _ => ?_
      simp only [wR, wB, wE0, wE1, wE2, wE3, g0, gS, s10, s11, s1S, s20, s21, s2S, kl0, kl1, kl2, kl3, sp0, sp1, sp2, sp3, cn1, cn2, cn3, cn4, cn5, cn6, jJa, lk0, lk1, jmS, jmN, s4_0, s4_1, s4_2, s4_3, s4_4, sw0, sw1, cKs, cKn, true_and, and_true, List.map_cons, List.map_nil, Nat.reduceAdd, Nat.zero_add, Int.reduceAdd, Nat.reduceEqDiff, reduceIte, Classical.not_not, b_Rd_atom, shH, Int.reduceEq, not_true_eq_false, not_false_eq_true, false_imp_iff, true_imp_iff, and_self]
      exact this
end QE
