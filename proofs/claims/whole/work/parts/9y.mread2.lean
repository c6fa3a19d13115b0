section PM
variable {G : AG} {t : Nat → Nat} {n lw f d : Nat} {M : AM}
theorem c_Md_is_yes {k x : Nat} (h : AtM M t n k) (q : kin t n (pls t n (k)) = x) : MS G d mi_Md_is [vr 117, vi x] M (fun r M' => r = some (vi 1) ∧ M' = M) := by
  have := c_Md_is (G := G) (d := d) (x := x) h
  rwa [if_pos q] at this
theorem c_Md_is_no {k x : Nat} (h : AtM M t n k) (q : kin t n (pls t n (k)) ≠ x) : MS G d mi_Md_is [vr 117, vi x] M (fun r M' => r = some (vi 0) ∧ M' = M) := by
  have := c_Md_is (G := G) (d := d) (x := x) h
  rwa [if_neg q] at this
theorem c_Md_wordOf_yes {kk x : Nat} (h15 : M 117 15 = (lw : Int)) (hw : wrV lw kk = some x) : MS G d mi_Md_wordOf [vr 117, vi kk] M (fun r M' => r = some (vi x) ∧ M' = M) := by
  refine MS.run ck_Md_wordOf [some (vr 117), some (vi kk)] [] 10 fun _ _ => ?_
  have h : (2 ≤ kk ∧ kk ≤ 7 ∧ x = kk - 2) ∨ (14 ≤ kk ∧ kk ≤ 16 ∧ lw = 0 ∧ x = kk - 8) := by
    unfold wrV at hw
    split at hw
    · cases hw; left; omega
    · split at hw
      · split at hw
        · cases hw; right; omega
        · cases hw
      · cases hw
  rcases h with ⟨h1, h2, h3⟩ | ⟨h1, h2, h3, h4⟩
  · subst h3
    simp only [wR, wB, wE0, wE1, wE2, wE3, g0, gS, s10, s11, s1S, s20, s21, s2S, kl0, kl1, kl2, kl3, sp0, sp1, sp2, sp3, cn1, cn2, cn3, cn4, cn5, cn6, jJa, lk0, lk1, jmS, jmN, s4_0, s4_1, s4_2, s4_3, s4_4, sw0, sw1, cKs, cKn, true_and, and_true, List.map_cons, List.map_nil, Nat.reduceAdd, Nat.zero_add, Int.reduceAdd, Nat.reduceEqDiff, reduceIte, Classical.not_not, b_Md_wordOf, shMd]
    (repeat' (first | omega | (with_reducible exact True.intro) | exact ⟨by omega, by omega⟩ | (with_reducible exact Or.inr trivial) | (with_reducible exact Or.inl trivial) | (with_reducible assumption) | (with_reducible exact Same.refl) | (with_reducible rfl) | (with_reducible refine And.intro ?_ ?_) | (with_reducible intro _)))
    rw [show (kk : Int) - 2 = ((kk - 2 : Nat) : Int) by omega]
  · subst h4 h3
    simp only [wR, wB, wE0, wE1, wE2, wE3, g0, gS, s10, s11, s1S, s20, s21, s2S, kl0, kl1, kl2, kl3, sp0, sp1, sp2, sp3, cn1, cn2, cn3, cn4, cn5, cn6, jJa, lk0, lk1, jmS, jmN, s4_0, s4_1, s4_2, s4_3, s4_4, sw0, sw1, cKs, cKn, true_and, and_true, List.map_cons, List.map_nil, Nat.reduceAdd, Nat.zero_add, Int.reduceAdd, Nat.reduceEqDiff, reduceIte, Classical.not_not, b_Md_wordOf, shMd, h15]
    (repeat' (first | omega | (with_reducible exact True.intro) | exact ⟨by omega, by omega⟩ | (with_reducible exact Or.inr trivial) | (with_reducible exact Or.inl trivial) | (with_reducible assumption) | (with_reducible exact Same.refl) | (with_reducible rfl) | (with_reducible refine And.intro ?_ ?_) | (with_reducible intro _)))
    rw [show (6 : Int) + kk - 14 = ((kk - 8 : Nat) : Int) by omega]
theorem c_Md_wordOf_no {kk : Nat} (h15 : M 117 15 = (lw : Int)) (hw : wrV lw kk = none) (h50 : kk ≤ 50) : MS G d mi_Md_wordOf [vr 117, vi kk] M (fun r M' => r = some (vi (-1)) ∧ M' = M) := by
  refine MS.run ck_Md_wordOf [some (vr 117), some (vi kk)] [] 10 fun _ _ => ?_
  have h : ¬ (2 ≤ kk ∧ kk ≤ 7) ∧ (14 ≤ kk ∧ kk ≤ 16 → lw ≠ 0) := by
    unfold wrV at hw
    split at hw
    · cases hw
    · split at hw
      · split at hw
        · cases hw
        · next h => exact ⟨by omega, fun _ => h⟩
      · exact ⟨by omega, by omega⟩
  obtain ⟨h1, h2⟩ := h
  by_cases q : 14 ≤ kk ∧ kk ≤ 16
  · have := h2 q
    simp only [wR, wB, wE0, wE1, wE2, wE3, g0, gS, s10, s11, s1S, s20, s21, s2S, kl0, kl1, kl2, kl3, sp0, sp1, sp2, sp3, cn1, cn2, cn3, cn4, cn5, cn6, jJa, lk0, lk1, jmS, jmN, s4_0, s4_1, s4_2, s4_3, s4_4, sw0, sw1, cKs, cKn, true_and, and_true, List.map_cons, List.map_nil, Nat.reduceAdd, Nat.zero_add, Int.reduceAdd, Nat.reduceEqDiff, reduceIte, Classical.not_not, b_Md_wordOf, shMd, h15]
    (repeat' (first | omega | (with_reducible exact True.intro) | exact ⟨by omega, by omega⟩ | (with_reducible exact Or.inr trivial) | (with_reducible exact Or.inl trivial) | (with_reducible assumption) | (with_reducible exact Same.refl) | (with_reducible rfl) | (with_reducible refine And.intro ?_ ?_) | (with_reducible intro _)))
  · simp only [wR, wB, wE0, wE1, wE2, wE3, g0, gS, s10, s11, s1S, s20, s21, s2S, kl0, kl1, kl2, kl3, sp0, sp1, sp2, sp3, cn1, cn2, cn3, cn4, cn5, cn6, jJa, lk0, lk1, jmS, jmN, s4_0, s4_1, s4_2, s4_3, s4_4, sw0, sw1, cKs, cKn, true_and, and_true, List.map_cons, List.map_nil, Nat.reduceAdd, Nat.zero_add, Int.reduceAdd, Nat.reduceEqDiff, reduceIte, Classical.not_not, b_Md_wordOf, shMd, h15]
    (repeat' (first | omega | (with_reducible exact True.intro) | exact ⟨by omega, by omega⟩ | (with_reducible exact Or.inr trivial) | (with_reducible exact Or.inl trivial) | (with_reducible assumption) | (with_reducible exact Same.refl) | (with_reducible rfl) | (with_reducible refine And.intro ?_ ?_) | (with_reducible intro _)))
theorem c_Md_readSumL0 (ihS : SM G t n lw mi_Md_readTerm 1 2 f) (ihL : SL G t n lw mi_Md_readSum 2 1 f (fun v l => [some (vr 117), some (vi v), l])) : SL G t n lw mi_Md_readSum 2 1 (f + 1) (fun v l => [some (vr 117), some (vi v), l]) := by
  intro d v k c M l Q hv hd hA h15 hc hck ok hQ
  have n9 := hA.n9
  have lf : ∀ (N : AM) (l : Option AV), N 117 11 ≠ 0 → Q none N → AW G d mi_Md_readSum Q 5 [some (vr 117), some (vi v), l] [] N := by
    intro N l hN hq
    refine AW.run ck_Md_readSum [23] 10 5 ?_
    simp only [wR, wB, wE0, wE1, wE2, wE3, g0, gS, s10, s11, s1S, s20, s21, s2S, kl0, kl1, kl2, kl3, sp0, sp1, sp2, sp3, cn1, cn2, cn3, cn4, cn5, cn6, jJa, lk0, lk1, jmS, jmN, s4_0, s4_1, s4_2, s4_3, s4_4, sw0, sw1, cKs, cKn, true_and, and_true, List.map_cons, List.map_nil, Nat.reduceAdd, Nat.zero_add, Int.reduceAdd, Nat.reduceEqDiff, reduceIte, Classical.not_not, b_Md_readSum, shMd]
    refine ⟨by omega, MS.to (c_Md_is_f hN) fun _ => ?_⟩
    simp only [wR, wB, wE0, wE1, wE2, wE3, g0, gS, s10, s11, s1S, s20, s21, s2S, kl0, kl1, kl2, kl3, sp0, sp1, sp2, sp3, cn1, cn2, cn3, cn4, cn5, cn6, jJa, lk0, lk1, jmS, jmN, s4_0, s4_1, s4_2, s4_3, s4_4, sw0, sw1, cKs, cKn, true_and, and_true, List.map_cons, List.map_nil, Nat.reduceAdd, Nat.zero_add, Int.reduceAdd, Nat.reduceEqDiff, reduceIte, Classical.not_not, b_Md_readSum, Int.reduceEq, not_true_eq_false, not_false_eq_true, false_imp_iff, true_imp_iff, and_self, shMd]
    refine ⟨by omega, MS.to (c_Md_is_f hN) fun _ => ?_⟩
    simp only [wR, wB, wE0, wE1, wE2, wE3, g0, gS, s10, s11, s1S, s20, s21, s2S, kl0, kl1, kl2, kl3, sp0, sp1, sp2, sp3, cn1, cn2, cn3, cn4, cn5, cn6, jJa, lk0, lk1, jmS, jmN, s4_0, s4_1, s4_2, s4_3, s4_4, sw0, sw1, cKs, cKn, true_and, and_true, List.map_cons, List.map_nil, Nat.reduceAdd, Nat.zero_add, Int.reduceAdd, Nat.reduceEqDiff, reduceIte, Classical.not_not, b_Md_readSum, Int.reduceEq, not_true_eq_false, not_false_eq_true, false_imp_iff, true_imp_iff, and_self]
    exact hq
  rw [PR_1] at ok hQ
  by_cases q : kin t n (pls t n (k)) = 32 ∨ kin t n (pls t n (k)) = 33
  · rw [if_pos q] at ok hQ
    have a41 : ∀ x : Int, x = (if kin t n (pls t n (k)) = 32 then 3000 else 3001) → AW G d mi_Md_readSum Q 41 [some (vr 117), some (vi v), l] [vi x] M := by
      intro x hx
      rw [← hx] at ok hQ
      have hx3 : x = 3000 ∨ x = 3001 := by rw [hx]; split <;> simp
      clear hx
      refine AW.run ck_Md_readSum [5] 10 41 ?_
      simp only [wR, wB, wE0, wE1, wE2, wE3, g0, gS, s10, s11, s1S, s20, s21, s2S, kl0, kl1, kl2, kl3, sp0, sp1, sp2, sp3, cn1, cn2, cn3, cn4, cn5, cn6, jJa, lk0, lk1, jmS, jmN, s4_0, s4_1, s4_2, s4_3, s4_4, sw0, sw1, cKs, cKn, true_and, and_true, List.map_cons, List.map_nil, Nat.reduceAdd, Nat.zero_add, Int.reduceAdd, Nat.reduceEqDiff, reduceIte, Classical.not_not, b_Md_readSum, shMd]
      refine ⟨by omega, (c_Md_next_at (by omega) hA (by omega)).mono ?_⟩
      rintro r M1 _ ⟨rfl, hA1, hf1⟩
      have hc1 : M1 121 152 = (c : Int) := by rw [hf1.1 121 (by simp)]; exact hc
      simp only [wR, wB, wE0, wE1, wE2, wE3, g0, gS, s10, s11, s1S, s20, s21, s2S, kl0, kl1, kl2, kl3, sp0, sp1, sp2, sp3, cn1, cn2, cn3, cn4, cn5, cn6, jJa, lk0, lk1, jmS, jmN, s4_0, s4_1, s4_2, s4_3, s4_4, sw0, sw1, cKs, cKn, true_and, and_true, List.map_cons, List.map_nil, Nat.reduceAdd, Nat.zero_add, Int.reduceAdd, Nat.reduceEqDiff, reduceIte, Classical.not_not, b_Md_readSum, Int.reduceEq, not_true_eq_false, not_false_eq_true, false_imp_iff, true_imp_iff, and_self, shMd]
      refine ⟨by omega, (ihS (d - 1) v (k + 1) c M1 hv (by omega) hA1 (by rw [hf1.2 15 (by omega) (by omega) (by omega) (by omega)]; exact h15) hc1 (by omega) ok.bd).mono ?_⟩
      rintro r M2 _ ⟨rfl, hp⟩
      rcases rs_cases (PR t n lw f 2 v (k + 1)) with ⟨w, k1, hr⟩ | ⟨k1, c1, hr⟩
      · rw [hr] at hp ok hQ
        have hb := hp.bad
        simp only [wR, wB, wE0, wE1, wE2, wE3, g0, gS, s10, s11, s1S, s20, s21, s2S, kl0, kl1, kl2, kl3, sp0, sp1, sp2, sp3, cn1, cn2, cn3, cn4, cn5, cn6, jJa, lk0, lk1, jmS, jmN, s4_0, s4_1, s4_2, s4_3, s4_4, sw0, sw1, cKs, cKn, true_and, and_true, List.map_cons, List.map_nil, Nat.reduceAdd, Nat.zero_add, Int.reduceAdd, Nat.reduceEqDiff, reduceIte, Classical.not_not, b_Md_readSum, shMd]
        refine ⟨by omega, MS.to (c_Md_codes_f hb.ne) fun _ => ?_⟩
        simp only [wR, wB, wE0, wE1, wE2, wE3, g0, gS, s10, s11, s1S, s20, s21, s2S, kl0, kl1, kl2, kl3, sp0, sp1, sp2, sp3, cn1, cn2, cn3, cn4, cn5, cn6, jJa, lk0, lk1, jmS, jmN, s4_0, s4_1, s4_2, s4_3, s4_4, sw0, sw1, cKs, cKn, true_and, and_true, List.map_cons, List.map_nil, Nat.reduceAdd, Nat.zero_add, Int.reduceAdd, Nat.reduceEqDiff, reduceIte, Classical.not_not, b_Md_readSum, shMd]
        exact lf M2 _ hb.ne (hQ _ (BdM.of hf1.fr hb).po)
      · rw [hr] at hp ok hQ
        have hg := hp.good
        have h1 := PR_ln _ _ _ _ (by omega) _ _ hr
        have h2 := PR_go (by omega) hr
        have h3 := kn_lt (h2.2.2 (k1 - 1) (by omega) (by omega)).1
        have hg' := (((GdM.refl hA hc).step hA1 hf1).seq (cs := []) hg).code (v := x)
        simp only [List.nil_append] at hg'
        simp only [wR, wB, wE0, wE1, wE2, wE3, g0, gS, s10, s11, s1S, s20, s21, s2S, kl0, kl1, kl2, kl3, sp0, sp1, sp2, sp3, cn1, cn2, cn3, cn4, cn5, cn6, jJa, lk0, lk1, jmS, jmN, s4_0, s4_1, s4_2, s4_3, s4_4, sw0, sw1, cKs, cKn, true_and, and_true, List.map_cons, List.map_nil, Nat.reduceAdd, Nat.zero_add, Int.reduceAdd, Nat.reduceEqDiff, reduceIte, Classical.not_not, b_Md_readSum, shMd]
        refine ⟨by omega, MS.to (c_Md_codes (c := c + c1.length) hg.2.1.2.2 hg.2.2.1 (by omega)) fun _ => ?_⟩
        simp only [wR, wB, wE0, wE1, wE2, wE3, g0, gS, s10, s11, s1S, s20, s21, s2S, kl0, kl1, kl2, kl3, sp0, sp1, sp2, sp3, cn1, cn2, cn3, cn4, cn5, cn6, jJa, lk0, lk1, jmS, jmN, s4_0, s4_1, s4_2, s4_3, s4_4, sw0, sw1, cKs, cKn, true_and, and_true, List.map_cons, List.map_nil, Nat.reduceAdd, Nat.zero_add, Int.reduceAdd, Nat.reduceEqDiff, reduceIte, Classical.not_not, b_Md_readSum, shMd]
        refine ihL d v k1 (c + c1.length + 1) _ _ Q hv hd hg'.2.1 ?_ (up_eq _ _ _ _) (by omega) ok.to.bd fun M' hM' => ?_
        · rw [hg'.1.2.1 15 (by omega) (by omega) (by omega) (by omega) (by omega) (by omega)]; exact h15
        · exact hQ _ (PoM.seqx hg' rfl hM')
    have h9 := hA.2.1.2.1
    rcases q with q | q
    · have a := a41 3000 (by rw [if_pos q])
      rw [q] at h9
      refine AW.run ck_Md_readSum [41] 10 5 ?_
      simp only [wR, wB, wE0, wE1, wE2, wE3, g0, gS, s10, s11, s1S, s20, s21, s2S, kl0, kl1, kl2, kl3, sp0, sp1, sp2, sp3, cn1, cn2, cn3, cn4, cn5, cn6, jJa, lk0, lk1, jmS, jmN, s4_0, s4_1, s4_2, s4_3, s4_4, sw0, sw1, cKs, cKn, true_and, and_true, List.map_cons, List.map_nil, Nat.reduceAdd, Nat.zero_add, Int.reduceAdd, Nat.reduceEqDiff, reduceIte, Classical.not_not, b_Md_readSum, shMd]
      refine ⟨by omega, MS.to (c_Md_is_yes (x := 32) hA q) fun _ => ?_⟩
      simp only [wR, wB, wE0, wE1, wE2, wE3, g0, gS, s10, s11, s1S, s20, s21, s2S, kl0, kl1, kl2, kl3, sp0, sp1, sp2, sp3, cn1, cn2, cn3, cn4, cn5, cn6, jJa, lk0, lk1, jmS, jmN, s4_0, s4_1, s4_2, s4_3, s4_4, sw0, sw1, cKs, cKn, true_and, and_true, List.map_cons, List.map_nil, Nat.reduceAdd, Nat.zero_add, Int.reduceAdd, Nat.reduceEqDiff, reduceIte, Classical.not_not, b_Md_readSum, Int.reduceEq, not_true_eq_false, not_false_eq_true, false_imp_iff, true_imp_iff, and_self, shMd, h9]
      (repeat' (first | omega | (with_reducible exact True.intro) | exact ⟨by omega, by omega⟩ | (with_reducible exact Or.inr trivial) | (with_reducible exact Or.inl trivial) | (with_reducible assumption) | (with_reducible exact Same.refl) | (with_reducible rfl) | (with_reducible refine And.intro ?_ ?_) | (with_reducible intro _)))
    · have a := a41 3001 (by rw [if_neg (by omega)])
      rw [q] at h9
      refine AW.run ck_Md_readSum [41] 10 5 ?_
      simp only [wR, wB, wE0, wE1, wE2, wE3, g0, gS, s10, s11, s1S, s20, s21, s2S, kl0, kl1, kl2, kl3, sp0, sp1, sp2, sp3, cn1, cn2, cn3, cn4, cn5, cn6, jJa, lk0, lk1, jmS, jmN, s4_0, s4_1, s4_2, s4_3, s4_4, sw0, sw1, cKs, cKn, true_and, and_true, List.map_cons, List.map_nil, Nat.reduceAdd, Nat.zero_add, Int.reduceAdd, Nat.reduceEqDiff, reduceIte, Classical.not_not, b_Md_readSum, shMd]
      refine ⟨by omega, MS.to (c_Md_is_no (x := 32) hA (by omega)) fun _ => ?_⟩
      simp only [wR, wB, wE0, wE1, wE2, wE3, g0, gS, s10, s11, s1S, s20, s21, s2S, kl0, kl1, kl2, kl3, sp0, sp1, sp2, sp3, cn1, cn2, cn3, cn4, cn5, cn6, jJa, lk0, lk1, jmS, jmN, s4_0, s4_1, s4_2, s4_3, s4_4, sw0, sw1, cKs, cKn, true_and, and_true, List.map_cons, List.map_nil, Nat.reduceAdd, Nat.zero_add, Int.reduceAdd, Nat.reduceEqDiff, reduceIte, Classical.not_not, b_Md_readSum, Int.reduceEq, not_true_eq_false, not_false_eq_true, false_imp_iff, true_imp_iff, and_self, shMd, h9]
      refine ⟨by omega, MS.to (c_Md_is_yes (x := 33) hA q) fun _ => ?_⟩
      simp only [wR, wB, wE0, wE1, wE2, wE3, g0, gS, s10, s11, s1S, s20, s21, s2S, kl0, kl1, kl2, kl3, sp0, sp1, sp2, sp3, cn1, cn2, cn3, cn4, cn5, cn6, jJa, lk0, lk1, jmS, jmN, s4_0, s4_1, s4_2, s4_3, s4_4, sw0, sw1, cKs, cKn, true_and, and_true, List.map_cons, List.map_nil, Nat.reduceAdd, Nat.zero_add, Int.reduceAdd, Nat.reduceEqDiff, reduceIte, Classical.not_not, b_Md_readSum, Int.reduceEq, not_true_eq_false, not_false_eq_true, false_imp_iff, true_imp_iff, and_self, shMd, h9]
      (repeat' (first | omega | (with_reducible exact True.intro) | exact ⟨by omega, by omega⟩ | (with_reducible exact Or.inr trivial) | (with_reducible exact Or.inl trivial) | (with_reducible assumption) | (with_reducible exact Same.refl) | (with_reducible rfl) | (with_reducible refine And.intro ?_ ?_) | (with_reducible intro _)))
  · rw [if_neg q] at ok hQ
    refine AW.run ck_Md_readSum [23] 10 5 ?_
    simp only [wR, wB, wE0, wE1, wE2, wE3, g0, gS, s10, s11, s1S, s20, s21, s2S, kl0, kl1, kl2, kl3, sp0, sp1, sp2, sp3, cn1, cn2, cn3, cn4, cn5, cn6, jJa, lk0, lk1, jmS, jmN, s4_0, s4_1, s4_2, s4_3, s4_4, sw0, sw1, cKs, cKn, true_and, and_true, List.map_cons, List.map_nil, Nat.reduceAdd, Nat.zero_add, Int.reduceAdd, Nat.reduceEqDiff, reduceIte, Classical.not_not, b_Md_readSum, shMd]
    refine ⟨by omega, MS.to (c_Md_is_no (x := 32) hA (by omega)) fun _ => ?_⟩
    simp only [wR, wB, wE0, wE1, wE2, wE3, g0, gS, s10, s11, s1S, s20, s21, s2S, kl0, kl1, kl2, kl3, sp0, sp1, sp2, sp3, cn1, cn2, cn3, cn4, cn5, cn6, jJa, lk0, lk1, jmS, jmN, s4_0, s4_1, s4_2, s4_3, s4_4, sw0, sw1, cKs, cKn, true_and, and_true, List.map_cons, List.map_nil, Nat.reduceAdd, Nat.zero_add, Int.reduceAdd, Nat.reduceEqDiff, reduceIte, Classical.not_not, b_Md_readSum, Int.reduceEq, not_true_eq_false, not_false_eq_true, false_imp_iff, true_imp_iff, and_self, shMd]
    refine ⟨by omega, MS.to (c_Md_is_no (x := 33) hA (by omega)) fun _ => ?_⟩
    simp only [wR, wB, wE0, wE1, wE2, wE3, g0, gS, s10, s11, s1S, s20, s21, s2S, kl0, kl1, kl2, kl3, sp0, sp1, sp2, sp3, cn1, cn2, cn3, cn4, cn5, cn6, jJa, lk0, lk1, jmS, jmN, s4_0, s4_1, s4_2, s4_3, s4_4, sw0, sw1, cKs, cKn, true_and, and_true, List.map_cons, List.map_nil, Nat.reduceAdd, Nat.zero_add, Int.reduceAdd, Nat.reduceEqDiff, reduceIte, Classical.not_not, b_Md_readSum, Int.reduceEq, not_true_eq_false, not_false_eq_true, false_imp_iff, true_imp_iff, and_self]
    exact hQ _ (GdM.refl hA hc).po
theorem c_Md_readSum0 (ihS : SM G t n lw mi_Md_readTerm 1 2 f) (ihL : SL G t n lw mi_Md_readSum 2 1 f (fun v l => [some (vr 117), some (vi v), l])) : SM G t n lw mi_Md_readSum 2 0 (f + 1) := by
  intro d v k c M hv hd hA h15 hc hck ok
  have n9 := hA.n9
  rw [PR_0] at ok ⊢
  refine MS.run ck_Md_readSum [some (vr 117), some (vi v), none] [5] 10 fun _ _ => ?_
  simp only [wR, wB, wE0, wE1, wE2, wE3, g0, gS, s10, s11, s1S, s20, s21, s2S, kl0, kl1, kl2, kl3, sp0, sp1, sp2, sp3, cn1, cn2, cn3, cn4, cn5, cn6, jJa, lk0, lk1, jmS, jmN, s4_0, s4_1, s4_2, s4_3, s4_4, sw0, sw1, cKs, cKn, true_and, and_true, List.map_cons, List.map_nil, Nat.reduceAdd, Nat.zero_add, Int.reduceAdd, Nat.reduceEqDiff, reduceIte, Classical.not_not, b_Md_readSum, shMd]
  refine ⟨by omega, (ihS (d - 1) v k c M hv (by omega) hA h15 hc hck ok.bd).mono ?_⟩
  rintro r M1 _ ⟨rfl, hp⟩
  simp only [wR, wB, wE0, wE1, wE2, wE3, g0, gS, s10, s11, s1S, s20, s21, s2S, kl0, kl1, kl2, kl3, sp0, sp1, sp2, sp3, cn1, cn2, cn3, cn4, cn5, cn6, jJa, lk0, lk1, jmS, jmN, s4_0, s4_1, s4_2, s4_3, s4_4, sw0, sw1, cKs, cKn, true_and, and_true, List.map_cons, List.map_nil, Nat.reduceAdd, Nat.zero_add, Int.reduceAdd, Nat.reduceEqDiff, reduceIte, Classical.not_not, b_Md_readSum, shMd]
  rcases rs_cases (PR t n lw f 2 v k) with ⟨w, k1, hr⟩ | ⟨k1, c1, hr⟩
  · rw [hr] at hp ok ⊢
    have hb := hp.bad
    refine AW.run ck_Md_readSum [23] 10 5 ?_
    simp only [wR, wB, wE0, wE1, wE2, wE3, g0, gS, s10, s11, s1S, s20, s21, s2S, kl0, kl1, kl2, kl3, sp0, sp1, sp2, sp3, cn1, cn2, cn3, cn4, cn5, cn6, jJa, lk0, lk1, jmS, jmN, s4_0, s4_1, s4_2, s4_3, s4_4, sw0, sw1, cKs, cKn, true_and, and_true, List.map_cons, List.map_nil, Nat.reduceAdd, Nat.zero_add, Int.reduceAdd, Nat.reduceEqDiff, reduceIte, Classical.not_not, b_Md_readSum, shMd]
    refine ⟨by omega, MS.to (c_Md_is_f hb.ne) fun _ => ?_⟩
    simp only [wR, wB, wE0, wE1, wE2, wE3, g0, gS, s10, s11, s1S, s20, s21, s2S, kl0, kl1, kl2, kl3, sp0, sp1, sp2, sp3, cn1, cn2, cn3, cn4, cn5, cn6, jJa, lk0, lk1, jmS, jmN, s4_0, s4_1, s4_2, s4_3, s4_4, sw0, sw1, cKs, cKn, true_and, and_true, List.map_cons, List.map_nil, Nat.reduceAdd, Nat.zero_add, Int.reduceAdd, Nat.reduceEqDiff, reduceIte, Classical.not_not, b_Md_readSum, Int.reduceEq, not_true_eq_false, not_false_eq_true, false_imp_iff, true_imp_iff, and_self, shMd]
    refine ⟨by omega, MS.to (c_Md_is_f hb.ne) fun _ => ?_⟩
    simp only [wR, wB, wE0, wE1, wE2, wE3, g0, gS, s10, s11, s1S, s20, s21, s2S, kl0, kl1, kl2, kl3, sp0, sp1, sp2, sp3, cn1, cn2, cn3, cn4, cn5, cn6, jJa, lk0, lk1, jmS, jmN, s4_0, s4_1, s4_2, s4_3, s4_4, sw0, sw1, cKs, cKn, true_and, and_true, List.map_cons, List.map_nil, Nat.reduceAdd, Nat.zero_add, Int.reduceAdd, Nat.reduceEqDiff, reduceIte, Classical.not_not, b_Md_readSum, Int.reduceEq, not_true_eq_false, not_false_eq_true, false_imp_iff, true_imp_iff, and_self]
    exact hp
  · rw [hr] at hp ok ⊢
    have hg := hp.good
    have h1 := PR_ln _ _ _ _ (by omega) _ _ hr
    refine ihL d v k1 (c + c1.length) M1 none _ hv hd hg.2.1 ?_ hg.2.2.1 (by omega) ok.to.bd fun M' hM' => ?_
    · rw [hg.1.2.1 15 (by omega) (by omega) (by omega) (by omega) (by omega) (by omega)]; exact h15
    · exact ⟨rfl, PoM.seq hg hM'⟩
end PM
