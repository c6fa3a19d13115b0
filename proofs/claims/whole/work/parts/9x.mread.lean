section PL
variable {G : AG} {t : Nat → Nat} {n lw f : Nat}
def SM (G : AG) (t : Nat → Nat) (n lw : Nat) (mi : MI) (off m f : Nat) : Prop := ∀ (d v k c : Nat) (M : AM), v ≤ 6 → 7 * (6 - v) + 12 + off ≤ d → AtM M t n k → M 117 15 = (lw : Int) → M 121 152 = (c : Int) → c ≤ k → okR (PR t n lw f m v k) → MS G d mi [vr 117, vi v] M (fun r M' => r = none ∧ PoM t n c M M' (PR t n lw f m v k))
def SL (G : AG) (t : Nat → Nat) (n lw : Nat) (mi : MI) (off m f : Nat) (L : Nat → Option AV → AL) : Prop := ∀ (d v k c : Nat) (M : AM) (l : Option AV) (Q : Option AV → AM → Prop), v ≤ 6 → 7 * (6 - v) + 12 + off ≤ d → AtM M t n k → M 117 15 = (lw : Int) → M 121 152 = (c : Int) → c ≤ k → okR (PR t n lw f m v k) → (∀ M', PoM t n c M M' (PR t n lw f m v k) → Q none M') → AW G d mi Q 5 (L v l) [] M
theorem c_Md_readTermL0 (ihS : SM G t n lw mi_Md_readAtom 0 4 f) (ihL : SL G t n lw mi_Md_readTerm 1 3 f (fun v _ => [some (vr 117), some (vi v)])) : SL G t n lw mi_Md_readTerm 1 3 (f + 1) (fun v _ => [some (vr 117), some (vi v)]) := by
  intro d v k c M l Q hv hd hA h15 hc hck ok hQ
  have n9 := hA.n9
  have lf : ∀ N : AM, N 117 11 ≠ 0 → Q none N → AW G d mi_Md_readTerm Q 5 [some (vr 117), some (vi v)] [] N := by
    intro N hN hq
    refine AW.run ck_Md_readTerm [] 10 5 ?_
    simp only [wR, wB, wE0, wE1, wE2, wE3, g0, gS, s10, s11, s1S, s20, s21, s2S, kl0, kl1, kl2, kl3, sp0, sp1, sp2, sp3, cn1, cn2, cn3, cn4, cn5, cn6, jJa, lk0, lk1, jmS, jmN, s4_0, s4_1, s4_2, s4_3, s4_4, sw0, sw1, cKs, cKn, true_and, and_true, List.map_cons, List.map_nil, Nat.reduceAdd, Nat.zero_add, Int.reduceAdd, Nat.reduceEqDiff, reduceIte, Classical.not_not, b_Md_readTerm, shMd]
    refine ⟨by omega, MS.to (c_Md_eats_f (by omega) hN) fun _ => ?_⟩
    simp only [wR, wB, wE0, wE1, wE2, wE3, g0, gS, s10, s11, s1S, s20, s21, s2S, kl0, kl1, kl2, kl3, sp0, sp1, sp2, sp3, cn1, cn2, cn3, cn4, cn5, cn6, jJa, lk0, lk1, jmS, jmN, s4_0, s4_1, s4_2, s4_3, s4_4, sw0, sw1, cKs, cKn, true_and, and_true, List.map_cons, List.map_nil, Nat.reduceAdd, Nat.zero_add, Int.reduceAdd, Nat.reduceEqDiff, reduceIte, Classical.not_not, b_Md_readTerm, Int.reduceEq, not_true_eq_false, not_false_eq_true, false_imp_iff, true_imp_iff, and_self]
    exact hq
  rw [PR_3] at ok hQ
  by_cases q : kin t n (pls t n (k)) = 34
  · rw [if_pos q] at ok hQ
    refine AW.run ck_Md_readTerm [5] 10 5 ?_
    simp only [wR, wB, wE0, wE1, wE2, wE3, g0, gS, s10, s11, s1S, s20, s21, s2S, kl0, kl1, kl2, kl3, sp0, sp1, sp2, sp3, cn1, cn2, cn3, cn4, cn5, cn6, jJa, lk0, lk1, jmS, jmN, s4_0, s4_1, s4_2, s4_3, s4_4, sw0, sw1, cKs, cKn, true_and, and_true, List.map_cons, List.map_nil, Nat.reduceAdd, Nat.zero_add, Int.reduceAdd, Nat.reduceEqDiff, reduceIte, Classical.not_not, b_Md_readTerm, shMd]
    refine ⟨by omega, (c_Md_eats_yes (x := 34) (by omega) hA q (by omega)).mono ?_⟩
    rintro r M1 _ ⟨rfl, hA1, hf1⟩
    have hc1 : M1 121 152 = (c : Int) := by rw [hf1.1 121 (by simp)]; exact hc
    simp only [wR, wB, wE0, wE1, wE2, wE3, g0, gS, s10, s11, s1S, s20, s21, s2S, kl0, kl1, kl2, kl3, sp0, sp1, sp2, sp3, cn1, cn2, cn3, cn4, cn5, cn6, jJa, lk0, lk1, jmS, jmN, s4_0, s4_1, s4_2, s4_3, s4_4, sw0, sw1, cKs, cKn, true_and, and_true, List.map_cons, List.map_nil, Nat.reduceAdd, Nat.zero_add, Int.reduceAdd, Nat.reduceEqDiff, reduceIte, Classical.not_not, b_Md_readTerm, Int.reduceEq, not_true_eq_false, not_false_eq_true, false_imp_iff, true_imp_iff, and_self, shMd]
    refine ⟨by omega, (ihS (d - 1) v (k + 1) c M1 hv (by omega) hA1 (by rw [hf1.2 15 (by omega) (by omega) (by omega) (by omega)]; exact h15) hc1 (by omega) ok.bd).mono ?_⟩
    rintro r M2 _ ⟨rfl, hp⟩
    rcases rs_cases (PR t n lw f 4 v (k + 1)) with ⟨w, k1, hr⟩ | ⟨k1, c1, hr⟩
    · rw [hr] at hp ok hQ
      have hb := hp.bad
      simp only [wR, wB, wE0, wE1, wE2, wE3, g0, gS, s10, s11, s1S, s20, s21, s2S, kl0, kl1, kl2, kl3, sp0, sp1, sp2, sp3, cn1, cn2, cn3, cn4, cn5, cn6, jJa, lk0, lk1, jmS, jmN, s4_0, s4_1, s4_2, s4_3, s4_4, sw0, sw1, cKs, cKn, true_and, and_true, List.map_cons, List.map_nil, Nat.reduceAdd, Nat.zero_add, Int.reduceAdd, Nat.reduceEqDiff, reduceIte, Classical.not_not, b_Md_readTerm, shMd]
      refine ⟨by omega, MS.to (c_Md_codes_f hb.ne) fun _ => ?_⟩
      simp only [wR, wB, wE0, wE1, wE2, wE3, g0, gS, s10, s11, s1S, s20, s21, s2S, kl0, kl1, kl2, kl3, sp0, sp1, sp2, sp3, cn1, cn2, cn3, cn4, cn5, cn6, jJa, lk0, lk1, jmS, jmN, s4_0, s4_1, s4_2, s4_3, s4_4, sw0, sw1, cKs, cKn, true_and, and_true, List.map_cons, List.map_nil, Nat.reduceAdd, Nat.zero_add, Int.reduceAdd, Nat.reduceEqDiff, reduceIte, Classical.not_not, b_Md_readTerm, shMd]
      exact lf M2 hb.ne (hQ _ (BdM.of hf1.fr hb).po)
    · rw [hr] at hp ok hQ
      have hg := hp.good
      have h1 := PR_ln _ _ _ _ (by omega) _ _ hr
      have h2 := PR_go (by omega) hr
      have h3 := kn_lt (h2.2.2 (k1 - 1) (by omega) (by omega)).1
      have hg' := (((GdM.refl hA hc).step hA1 hf1).seq (cs := []) hg).code (v := 3002)
      simp only [List.nil_append] at hg'
      simp only [wR, wB, wE0, wE1, wE2, wE3, g0, gS, s10, s11, s1S, s20, s21, s2S, kl0, kl1, kl2, kl3, sp0, sp1, sp2, sp3, cn1, cn2, cn3, cn4, cn5, cn6, jJa, lk0, lk1, jmS, jmN, s4_0, s4_1, s4_2, s4_3, s4_4, sw0, sw1, cKs, cKn, true_and, and_true, List.map_cons, List.map_nil, Nat.reduceAdd, Nat.zero_add, Int.reduceAdd, Nat.reduceEqDiff, reduceIte, Classical.not_not, b_Md_readTerm, shMd]
      refine ⟨by omega, MS.to (c_Md_codes (c := c + c1.length) hg.2.1.2.2 hg.2.2.1 (by omega)) fun _ => ?_⟩
      simp only [wR, wB, wE0, wE1, wE2, wE3, g0, gS, s10, s11, s1S, s20, s21, s2S, kl0, kl1, kl2, kl3, sp0, sp1, sp2, sp3, cn1, cn2, cn3, cn4, cn5, cn6, jJa, lk0, lk1, jmS, jmN, s4_0, s4_1, s4_2, s4_3, s4_4, sw0, sw1, cKs, cKn, true_and, and_true, List.map_cons, List.map_nil, Nat.reduceAdd, Nat.zero_add, Int.reduceAdd, Nat.reduceEqDiff, reduceIte, Classical.not_not, b_Md_readTerm, shMd]
      refine ihL d v k1 (c + c1.length + 1) _ none Q hv hd hg'.2.1 ?_ (up_eq _ _ _ _) (by omega) ok.to.bd fun M' hM' => ?_
      · rw [hg'.1.2.1 15 (by omega) (by omega) (by omega) (by omega) (by omega) (by omega)]; exact h15
      · exact hQ _ (PoM.seqx hg' rfl hM')
  · rw [if_neg q] at ok hQ
    refine AW.run ck_Md_readTerm [] 10 5 ?_
    simp only [wR, wB, wE0, wE1, wE2, wE3, g0, gS, s10, s11, s1S, s20, s21, s2S, kl0, kl1, kl2, kl3, sp0, sp1, sp2, sp3, cn1, cn2, cn3, cn4, cn5, cn6, jJa, lk0, lk1, jmS, jmN, s4_0, s4_1, s4_2, s4_3, s4_4, sw0, sw1, cKs, cKn, true_and, and_true, List.map_cons, List.map_nil, Nat.reduceAdd, Nat.zero_add, Int.reduceAdd, Nat.reduceEqDiff, reduceIte, Classical.not_not, b_Md_readTerm, shMd]
    refine ⟨by omega, MS.to (c_Md_eats_no (x := 34) (by omega) hA q) fun _ => ?_⟩
    simp only [wR, wB, wE0, wE1, wE2, wE3, g0, gS, s10, s11, s1S, s20, s21, s2S, kl0, kl1, kl2, kl3, sp0, sp1, sp2, sp3, cn1, cn2, cn3, cn4, cn5, cn6, jJa, lk0, lk1, jmS, jmN, s4_0, s4_1, s4_2, s4_3, s4_4, sw0, sw1, cKs, cKn, true_and, and_true, List.map_cons, List.map_nil, Nat.reduceAdd, Nat.zero_add, Int.reduceAdd, Nat.reduceEqDiff, reduceIte, Classical.not_not, b_Md_readTerm, Int.reduceEq, not_true_eq_false, not_false_eq_true, false_imp_iff, true_imp_iff, and_self]
    exact hQ _ (GdM.refl hA hc).po
theorem c_Md_readTerm0 (ihS : SM G t n lw mi_Md_readAtom 0 4 f) (ihL : SL G t n lw mi_Md_readTerm 1 3 f (fun v _ => [some (vr 117), some (vi v)])) : SM G t n lw mi_Md_readTerm 1 2 (f + 1) := by
  intro d v k c M hv hd hA h15 hc hck ok
  have n9 := hA.n9
  rw [PR_2] at ok ⊢
  refine MS.run ck_Md_readTerm [some (vr 117), some (vi v)] [5] 10 fun _ _ => ?_
  simp only [wR, wB, wE0, wE1, wE2, wE3, g0, gS, s10, s11, s1S, s20, s21, s2S, kl0, kl1, kl2, kl3, sp0, sp1, sp2, sp3, cn1, cn2, cn3, cn4, cn5, cn6, jJa, lk0, lk1, jmS, jmN, s4_0, s4_1, s4_2, s4_3, s4_4, sw0, sw1, cKs, cKn, true_and, and_true, List.map_cons, List.map_nil, Nat.reduceAdd, Nat.zero_add, Int.reduceAdd, Nat.reduceEqDiff, reduceIte, Classical.not_not, b_Md_readTerm, shMd]
  refine ⟨by omega, (ihS (d - 1) v k c M hv (by omega) hA h15 hc hck ok.bd).mono ?_⟩
  rintro r M1 _ ⟨rfl, hp⟩
  simp only [wR, wB, wE0, wE1, wE2, wE3, g0, gS, s10, s11, s1S, s20, s21, s2S, kl0, kl1, kl2, kl3, sp0, sp1, sp2, sp3, cn1, cn2, cn3, cn4, cn5, cn6, jJa, lk0, lk1, jmS, jmN, s4_0, s4_1, s4_2, s4_3, s4_4, sw0, sw1, cKs, cKn, true_and, and_true, List.map_cons, List.map_nil, Nat.reduceAdd, Nat.zero_add, Int.reduceAdd, Nat.reduceEqDiff, reduceIte, Classical.not_not, b_Md_readTerm, shMd]
  rcases rs_cases (PR t n lw f 4 v k) with ⟨w, k1, hr⟩ | ⟨k1, c1, hr⟩
  · rw [hr] at hp ok ⊢
    have hb := hp.bad
    refine AW.run ck_Md_readTerm [] 10 5 ?_
    simp only [wR, wB, wE0, wE1, wE2, wE3, g0, gS, s10, s11, s1S, s20, s21, s2S, kl0, kl1, kl2, kl3, sp0, sp1, sp2, sp3, cn1, cn2, cn3, cn4, cn5, cn6, jJa, lk0, lk1, jmS, jmN, s4_0, s4_1, s4_2, s4_3, s4_4, sw0, sw1, cKs, cKn, true_and, and_true, List.map_cons, List.map_nil, Nat.reduceAdd, Nat.zero_add, Int.reduceAdd, Nat.reduceEqDiff, reduceIte, Classical.not_not, b_Md_readTerm, shMd]
    refine ⟨by omega, MS.to (c_Md_eats_f (by omega) hb.ne) fun _ => ?_⟩
    simp only [wR, wB, wE0, wE1, wE2, wE3, g0, gS, s10, s11, s1S, s20, s21, s2S, kl0, kl1, kl2, kl3, sp0, sp1, sp2, sp3, cn1, cn2, cn3, cn4, cn5, cn6, jJa, lk0, lk1, jmS, jmN, s4_0, s4_1, s4_2, s4_3, s4_4, sw0, sw1, cKs, cKn, true_and, and_true, List.map_cons, List.map_nil, Nat.reduceAdd, Nat.zero_add, Int.reduceAdd, Nat.reduceEqDiff, reduceIte, Classical.not_not, b_Md_readTerm, Int.reduceEq, not_true_eq_false, not_false_eq_true, false_imp_iff, true_imp_iff, and_self]
    exact hp
  · rw [hr] at hp ok ⊢
    have hg := hp.good
    have h1 := PR_ln _ _ _ _ (by omega) _ _ hr
    refine ihL d v k1 (c + c1.length) M1 none _ hv hd hg.2.1 ?_ hg.2.2.1 (by omega) ok.to.bd fun M' hM' => ?_
    · rw [hg.1.2.1 15 (by omega) (by omega) (by omega) (by omega) (by omega) (by omega)]; exact h15
    · exact ⟨rfl, PoM.seq hg hM'⟩
theorem c_Md_readBothL0 (ihS : SM G t n lw mi_Md_readUnit 3 9 f) (ihL : SL G t n lw mi_Md_readBoth 4 8 f (fun v _ => [some (vr 117), some (vi v)])) : SL G t n lw mi_Md_readBoth 4 8 (f + 1) (fun v _ => [some (vr 117), some (vi v)]) := by
  intro d v k c M l Q hv hd hA h15 hc hck ok hQ
  have n9 := hA.n9
  have lf : ∀ N : AM, N 117 11 ≠ 0 → Q none N → AW G d mi_Md_readBoth Q 5 [some (vr 117), some (vi v)] [] N := by
    intro N hN hq
    refine AW.run ck_Md_readBoth [] 10 5 ?_
    simp only [wR, wB, wE0, wE1, wE2, wE3, g0, gS, s10, s11, s1S, s20, s21, s2S, kl0, kl1, kl2, kl3, sp0, sp1, sp2, sp3, cn1, cn2, cn3, cn4, cn5, cn6, jJa, lk0, lk1, jmS, jmN, s4_0, s4_1, s4_2, s4_3, s4_4, sw0, sw1, cKs, cKn, true_and, and_true, List.map_cons, List.map_nil, Nat.reduceAdd, Nat.zero_add, Int.reduceAdd, Nat.reduceEqDiff, reduceIte, Classical.not_not, b_Md_readBoth, shMd]
    refine ⟨by omega, MS.to (c_Md_eats_f (by omega) hN) fun _ => ?_⟩
    simp only [wR, wB, wE0, wE1, wE2, wE3, g0, gS, s10, s11, s1S, s20, s21, s2S, kl0, kl1, kl2, kl3, sp0, sp1, sp2, sp3, cn1, cn2, cn3, cn4, cn5, cn6, jJa, lk0, lk1, jmS, jmN, s4_0, s4_1, s4_2, s4_3, s4_4, sw0, sw1, cKs, cKn, true_and, and_true, List.map_cons, List.map_nil, Nat.reduceAdd, Nat.zero_add, Int.reduceAdd, Nat.reduceEqDiff, reduceIte, Classical.not_not, b_Md_readBoth, Int.reduceEq, not_true_eq_false, not_false_eq_true, false_imp_iff, true_imp_iff, and_self]
    exact hq
  rw [PR_8] at ok hQ
  by_cases q : kin t n (pls t n (k)) = 17
  · rw [if_pos q] at ok hQ
    refine AW.run ck_Md_readBoth [5] 10 5 ?_
    simp only [wR, wB, wE0, wE1, wE2, wE3, g0, gS, s10, s11, s1S, s20, s21, s2S, kl0, kl1, kl2, kl3, sp0, sp1, sp2, sp3, cn1, cn2, cn3, cn4, cn5, cn6, jJa, lk0, lk1, jmS, jmN, s4_0, s4_1, s4_2, s4_3, s4_4, sw0, sw1, cKs, cKn, true_and, and_true, List.map_cons, List.map_nil, Nat.reduceAdd, Nat.zero_add, Int.reduceAdd, Nat.reduceEqDiff, reduceIte, Classical.not_not, b_Md_readBoth, shMd]
    refine ⟨by omega, (c_Md_eats_yes (x := 17) (by omega) hA q (by omega)).mono ?_⟩
    rintro r M1 _ ⟨rfl, hA1, hf1⟩
    have hc1 : M1 121 152 = (c : Int) := by rw [hf1.1 121 (by simp)]; exact hc
    simp only [wR, wB, wE0, wE1, wE2, wE3, g0, gS, s10, s11, s1S, s20, s21, s2S, kl0, kl1, kl2, kl3, sp0, sp1, sp2, sp3, cn1, cn2, cn3, cn4, cn5, cn6, jJa, lk0, lk1, jmS, jmN, s4_0, s4_1, s4_2, s4_3, s4_4, sw0, sw1, cKs, cKn, true_and, and_true, List.map_cons, List.map_nil, Nat.reduceAdd, Nat.zero_add, Int.reduceAdd, Nat.reduceEqDiff, reduceIte, Classical.not_not, b_Md_readBoth, Int.reduceEq, not_true_eq_false, not_false_eq_true, false_imp_iff, true_imp_iff, and_self, shMd]
    refine ⟨by omega, (ihS (d - 1) v (k + 1) c M1 hv (by omega) hA1 (by rw [hf1.2 15 (by omega) (by omega) (by omega) (by omega)]; exact h15) hc1 (by omega) ok.bd).mono ?_⟩
    rintro r M2 _ ⟨rfl, hp⟩
    rcases rs_cases (PR t n lw f 9 v (k + 1)) with ⟨w, k1, hr⟩ | ⟨k1, c1, hr⟩
    · rw [hr] at hp ok hQ
      have hb := hp.bad
      simp only [wR, wB, wE0, wE1, wE2, wE3, g0, gS, s10, s11, s1S, s20, s21, s2S, kl0, kl1, kl2, kl3, sp0, sp1, sp2, sp3, cn1, cn2, cn3, cn4, cn5, cn6, jJa, lk0, lk1, jmS, jmN, s4_0, s4_1, s4_2, s4_3, s4_4, sw0, sw1, cKs, cKn, true_and, and_true, List.map_cons, List.map_nil, Nat.reduceAdd, Nat.zero_add, Int.reduceAdd, Nat.reduceEqDiff, reduceIte, Classical.not_not, b_Md_readBoth, shMd]
      refine ⟨by omega, MS.to (c_Md_codes_f hb.ne) fun _ => ?_⟩
      simp only [wR, wB, wE0, wE1, wE2, wE3, g0, gS, s10, s11, s1S, s20, s21, s2S, kl0, kl1, kl2, kl3, sp0, sp1, sp2, sp3, cn1, cn2, cn3, cn4, cn5, cn6, jJa, lk0, lk1, jmS, jmN, s4_0, s4_1, s4_2, s4_3, s4_4, sw0, sw1, cKs, cKn, true_and, and_true, List.map_cons, List.map_nil, Nat.reduceAdd, Nat.zero_add, Int.reduceAdd, Nat.reduceEqDiff, reduceIte, Classical.not_not, b_Md_readBoth, shMd]
      exact lf M2 hb.ne (hQ _ (BdM.of hf1.fr hb).po)
    · rw [hr] at hp ok hQ
      have hg := hp.good
      have h1 := PR_ln _ _ _ _ (by omega) _ _ hr
      have h2 := PR_go (by omega) hr
      have h3 := kn_lt (h2.2.2 (k1 - 1) (by omega) (by omega)).1
      have hg' := (((GdM.refl hA hc).step hA1 hf1).seq (cs := []) hg).code (v := 3007)
      simp only [List.nil_append] at hg'
      simp only [wR, wB, wE0, wE1, wE2, wE3, g0, gS, s10, s11, s1S, s20, s21, s2S, kl0, kl1, kl2, kl3, sp0, sp1, sp2, sp3, cn1, cn2, cn3, cn4, cn5, cn6, jJa, lk0, lk1, jmS, jmN, s4_0, s4_1, s4_2, s4_3, s4_4, sw0, sw1, cKs, cKn, true_and, and_true, List.map_cons, List.map_nil, Nat.reduceAdd, Nat.zero_add, Int.reduceAdd, Nat.reduceEqDiff, reduceIte, Classical.not_not, b_Md_readBoth, shMd]
      refine ⟨by omega, MS.to (c_Md_codes (c := c + c1.length) hg.2.1.2.2 hg.2.2.1 (by omega)) fun _ => ?_⟩
      simp only [wR, wB, wE0, wE1, wE2, wE3, g0, gS, s10, s11, s1S, s20, s21, s2S, kl0, kl1, kl2, kl3, sp0, sp1, sp2, sp3, cn1, cn2, cn3, cn4, cn5, cn6, jJa, lk0, lk1, jmS, jmN, s4_0, s4_1, s4_2, s4_3, s4_4, sw0, sw1, cKs, cKn, true_and, and_true, List.map_cons, List.map_nil, Nat.reduceAdd, Nat.zero_add, Int.reduceAdd, Nat.reduceEqDiff, reduceIte, Classical.not_not, b_Md_readBoth, shMd]
      refine ihL d v k1 (c + c1.length + 1) _ none Q hv hd hg'.2.1 ?_ (up_eq _ _ _ _) (by omega) ok.to.bd fun M' hM' => ?_
      · rw [hg'.1.2.1 15 (by omega) (by omega) (by omega) (by omega) (by omega) (by omega)]; exact h15
      · exact hQ _ (PoM.seqx hg' rfl hM')
  · rw [if_neg q] at ok hQ
    refine AW.run ck_Md_readBoth [] 10 5 ?_
    simp only [wR, wB, wE0, wE1, wE2, wE3, g0, gS, s10, s11, s1S, s20, s21, s2S, kl0, kl1, kl2, kl3, sp0, sp1, sp2, sp3, cn1, cn2, cn3, cn4, cn5, cn6, jJa, lk0, lk1, jmS, jmN, s4_0, s4_1, s4_2, s4_3, s4_4, sw0, sw1, cKs, cKn, true_and, and_true, List.map_cons, List.map_nil, Nat.reduceAdd, Nat.zero_add, Int.reduceAdd, Nat.reduceEqDiff, reduceIte, Classical.not_not, b_Md_readBoth, shMd]
    refine ⟨by omega, MS.to (c_Md_eats_no (x := 17) (by omega) hA q) fun _ => ?_⟩
    simp only [wR, wB, wE0, wE1, wE2, wE3, g0, gS, s10, s11, s1S, s20, s21, s2S, kl0, kl1, kl2, kl3, sp0, sp1, sp2, sp3, cn1, cn2, cn3, cn4, cn5, cn6, jJa, lk0, lk1, jmS, jmN, s4_0, s4_1, s4_2, s4_3, s4_4, sw0, sw1, cKs, cKn, true_and, and_true, List.map_cons, List.map_nil, Nat.reduceAdd, Nat.zero_add, Int.reduceAdd, Nat.reduceEqDiff, reduceIte, Classical.not_not, b_Md_readBoth, Int.reduceEq, not_true_eq_false, not_false_eq_true, false_imp_iff, true_imp_iff, and_self]
    exact hQ _ (GdM.refl hA hc).po
theorem c_Md_readBoth0 (ihS : SM G t n lw mi_Md_readUnit 3 9 f) (ihL : SL G t n lw mi_Md_readBoth 4 8 f (fun v _ => [some (vr 117), some (vi v)])) : SM G t n lw mi_Md_readBoth 4 7 (f + 1) := by
  intro d v k c M hv hd hA h15 hc hck ok
  have n9 := hA.n9
  rw [PR_7] at ok ⊢
  refine MS.run ck_Md_readBoth [some (vr 117), some (vi v)] [5] 10 fun _ _ => ?_
  simp only [wR, wB, wE0, wE1, wE2, wE3, g0, gS, s10, s11, s1S, s20, s21, s2S, kl0, kl1, kl2, kl3, sp0, sp1, sp2, sp3, cn1, cn2, cn3, cn4, cn5, cn6, jJa, lk0, lk1, jmS, jmN, s4_0, s4_1, s4_2, s4_3, s4_4, sw0, sw1, cKs, cKn, true_and, and_true, List.map_cons, List.map_nil, Nat.reduceAdd, Nat.zero_add, Int.reduceAdd, Nat.reduceEqDiff, reduceIte, Classical.not_not, b_Md_readBoth, shMd]
  refine ⟨by omega, (ihS (d - 1) v k c M hv (by omega) hA h15 hc hck ok.bd).mono ?_⟩
  rintro r M1 _ ⟨rfl, hp⟩
  simp only [wR, wB, wE0, wE1, wE2, wE3, g0, gS, s10, s11, s1S, s20, s21, s2S, kl0, kl1, kl2, kl3, sp0, sp1, sp2, sp3, cn1, cn2, cn3, cn4, cn5, cn6, jJa, lk0, lk1, jmS, jmN, s4_0, s4_1, s4_2, s4_3, s4_4, sw0, sw1, cKs, cKn, true_and, and_true, List.map_cons, List.map_nil, Nat.reduceAdd, Nat.zero_add, Int.reduceAdd, Nat.reduceEqDiff, reduceIte, Classical.not_not, b_Md_readBoth, shMd]
  rcases rs_cases (PR t n lw f 9 v k) with ⟨w, k1, hr⟩ | ⟨k1, c1, hr⟩
  · rw [hr] at hp ok ⊢
    have hb := hp.bad
    refine AW.run ck_Md_readBoth [] 10 5 ?_
    simp only [wR, wB, wE0, wE1, wE2, wE3, g0, gS, s10, s11, s1S, s20, s21, s2S, kl0, kl1, kl2, kl3, sp0, sp1, sp2, sp3, cn1, cn2, cn3, cn4, cn5, cn6, jJa, lk0, lk1, jmS, jmN, s4_0, s4_1, s4_2, s4_3, s4_4, sw0, sw1, cKs, cKn, true_and, and_true, List.map_cons, List.map_nil, Nat.reduceAdd, Nat.zero_add, Int.reduceAdd, Nat.reduceEqDiff, reduceIte, Classical.not_not, b_Md_readBoth, shMd]
    refine ⟨by omega, MS.to (c_Md_eats_f (by omega) hb.ne) fun _ => ?_⟩
    simp only [wR, wB, wE0, wE1, wE2, wE3, g0, gS, s10, s11, s1S, s20, s21, s2S, kl0, kl1, kl2, kl3, sp0, sp1, sp2, sp3, cn1, cn2, cn3, cn4, cn5, cn6, jJa, lk0, lk1, jmS, jmN, s4_0, s4_1, s4_2, s4_3, s4_4, sw0, sw1, cKs, cKn, true_and, and_true, List.map_cons, List.map_nil, Nat.reduceAdd, Nat.zero_add, Int.reduceAdd, Nat.reduceEqDiff, reduceIte, Classical.not_not, b_Md_readBoth, Int.reduceEq, not_true_eq_false, not_false_eq_true, false_imp_iff, true_imp_iff, and_self]
    exact hp
  · rw [hr] at hp ok ⊢
    have hg := hp.good
    have h1 := PR_ln _ _ _ _ (by omega) _ _ hr
    refine ihL d v k1 (c + c1.length) M1 none _ hv hd hg.2.1 ?_ hg.2.2.1 (by omega) ok.to.bd fun M' hM' => ?_
    · rw [hg.1.2.1 15 (by omega) (by omega) (by omega) (by omega) (by omega) (by omega)]; exact h15
    · exact ⟨rfl, PoM.seq hg hM'⟩
theorem c_Md_readTruthL0 (ihS : SM G t n lw mi_Md_readBoth 4 7 f) (ihL : SL G t n lw mi_Md_readTruth 5 6 f (fun v _ => [some (vr 117), some (vi v)])) : SL G t n lw mi_Md_readTruth 5 6 (f + 1) (fun v _ => [some (vr 117), some (vi v)]) := by
  intro d v k c M l Q hv hd hA h15 hc hck ok hQ
  have n9 := hA.n9
  have lf : ∀ N : AM, N 117 11 ≠ 0 → Q none N → AW G d mi_Md_readTruth Q 5 [some (vr 117), some (vi v)] [] N := by
    intro N hN hq
    refine AW.run ck_Md_readTruth [] 10 5 ?_
    simp only [wR, wB, wE0, wE1, wE2, wE3, g0, gS, s10, s11, s1S, s20, s21, s2S, kl0, kl1, kl2, kl3, sp0, sp1, sp2, sp3, cn1, cn2, cn3, cn4, cn5, cn6, jJa, lk0, lk1, jmS, jmN, s4_0, s4_1, s4_2, s4_3, s4_4, sw0, sw1, cKs, cKn, true_and, and_true, List.map_cons, List.map_nil, Nat.reduceAdd, Nat.zero_add, Int.reduceAdd, Nat.reduceEqDiff, reduceIte, Classical.not_not, b_Md_readTruth, shMd]
    refine ⟨by omega, MS.to (c_Md_eats_f (by omega) hN) fun _ => ?_⟩
    simp only [wR, wB, wE0, wE1, wE2, wE3, g0, gS, s10, s11, s1S, s20, s21, s2S, kl0, kl1, kl2, kl3, sp0, sp1, sp2, sp3, cn1, cn2, cn3, cn4, cn5, cn6, jJa, lk0, lk1, jmS, jmN, s4_0, s4_1, s4_2, s4_3, s4_4, sw0, sw1, cKs, cKn, true_and, and_true, List.map_cons, List.map_nil, Nat.reduceAdd, Nat.zero_add, Int.reduceAdd, Nat.reduceEqDiff, reduceIte, Classical.not_not, b_Md_readTruth, Int.reduceEq, not_true_eq_false, not_false_eq_true, false_imp_iff, true_imp_iff, and_self]
    exact hq
  rw [PR_6] at ok hQ
  by_cases q : kin t n (pls t n (k)) = 18
  · rw [if_pos q] at ok hQ
    refine AW.run ck_Md_readTruth [5] 10 5 ?_
    simp only [wR, wB, wE0, wE1, wE2, wE3, g0, gS, s10, s11, s1S, s20, s21, s2S, kl0, kl1, kl2, kl3, sp0, sp1, sp2, sp3, cn1, cn2, cn3, cn4, cn5, cn6, jJa, lk0, lk1, jmS, jmN, s4_0, s4_1, s4_2, s4_3, s4_4, sw0, sw1, cKs, cKn, true_and, and_true, List.map_cons, List.map_nil, Nat.reduceAdd, Nat.zero_add, Int.reduceAdd, Nat.reduceEqDiff, reduceIte, Classical.not_not, b_Md_readTruth, shMd]
    refine ⟨by omega, (c_Md_eats_yes (x := 18) (by omega) hA q (by omega)).mono ?_⟩
    rintro r M1 _ ⟨rfl, hA1, hf1⟩
    have hc1 : M1 121 152 = (c : Int) := by rw [hf1.1 121 (by simp)]; exact hc
    simp only [wR, wB, wE0, wE1, wE2, wE3, g0, gS, s10, s11, s1S, s20, s21, s2S, kl0, kl1, kl2, kl3, sp0, sp1, sp2, sp3, cn1, cn2, cn3, cn4, cn5, cn6, jJa, lk0, lk1, jmS, jmN, s4_0, s4_1, s4_2, s4_3, s4_4, sw0, sw1, cKs, cKn, true_and, and_true, List.map_cons, List.map_nil, Nat.reduceAdd, Nat.zero_add, Int.reduceAdd, Nat.reduceEqDiff, reduceIte, Classical.not_not, b_Md_readTruth, Int.reduceEq, not_true_eq_false, not_false_eq_true, false_imp_iff, true_imp_iff, and_self, shMd]
    refine ⟨by omega, (ihS (d - 1) v (k + 1) c M1 hv (by omega) hA1 (by rw [hf1.2 15 (by omega) (by omega) (by omega) (by omega)]; exact h15) hc1 (by omega) ok.bd).mono ?_⟩
    rintro r M2 _ ⟨rfl, hp⟩
    rcases rs_cases (PR t n lw f 7 v (k + 1)) with ⟨w, k1, hr⟩ | ⟨k1, c1, hr⟩
    · rw [hr] at hp ok hQ
      have hb := hp.bad
      simp only [wR, wB, wE0, wE1, wE2, wE3, g0, gS, s10, s11, s1S, s20, s21, s2S, kl0, kl1, kl2, kl3, sp0, sp1, sp2, sp3, cn1, cn2, cn3, cn4, cn5, cn6, jJa, lk0, lk1, jmS, jmN, s4_0, s4_1, s4_2, s4_3, s4_4, sw0, sw1, cKs, cKn, true_and, and_true, List.map_cons, List.map_nil, Nat.reduceAdd, Nat.zero_add, Int.reduceAdd, Nat.reduceEqDiff, reduceIte, Classical.not_not, b_Md_readTruth, shMd]
      refine ⟨by omega, MS.to (c_Md_codes_f hb.ne) fun _ => ?_⟩
      simp only [wR, wB, wE0, wE1, wE2, wE3, g0, gS, s10, s11, s1S, s20, s21, s2S, kl0, kl1, kl2, kl3, sp0, sp1, sp2, sp3, cn1, cn2, cn3, cn4, cn5, cn6, jJa, lk0, lk1, jmS, jmN, s4_0, s4_1, s4_2, s4_3, s4_4, sw0, sw1, cKs, cKn, true_and, and_true, List.map_cons, List.map_nil, Nat.reduceAdd, Nat.zero_add, Int.reduceAdd, Nat.reduceEqDiff, reduceIte, Classical.not_not, b_Md_readTruth, shMd]
      exact lf M2 hb.ne (hQ _ (BdM.of hf1.fr hb).po)
    · rw [hr] at hp ok hQ
      have hg := hp.good
      have h1 := PR_ln _ _ _ _ (by omega) _ _ hr
      have h2 := PR_go (by omega) hr
      have h3 := kn_lt (h2.2.2 (k1 - 1) (by omega) (by omega)).1
      have hg' := (((GdM.refl hA hc).step hA1 hf1).seq (cs := []) hg).code (v := 3008)
      simp only [List.nil_append] at hg'
      simp only [wR, wB, wE0, wE1, wE2, wE3, g0, gS, s10, s11, s1S, s20, s21, s2S, kl0, kl1, kl2, kl3, sp0, sp1, sp2, sp3, cn1, cn2, cn3, cn4, cn5, cn6, jJa, lk0, lk1, jmS, jmN, s4_0, s4_1, s4_2, s4_3, s4_4, sw0, sw1, cKs, cKn, true_and, and_true, List.map_cons, List.map_nil, Nat.reduceAdd, Nat.zero_add, Int.reduceAdd, Nat.reduceEqDiff, reduceIte, Classical.not_not, b_Md_readTruth, shMd]
      refine ⟨by omega, MS.to (c_Md_codes (c := c + c1.length) hg.2.1.2.2 hg.2.2.1 (by omega)) fun _ => ?_⟩
      simp only [wR, wB, wE0, wE1, wE2, wE3, g0, gS, s10, s11, s1S, s20, s21, s2S, kl0, kl1, kl2, kl3, sp0, sp1, sp2, sp3, cn1, cn2, cn3, cn4, cn5, cn6, jJa, lk0, lk1, jmS, jmN, s4_0, s4_1, s4_2, s4_3, s4_4, sw0, sw1, cKs, cKn, true_and, and_true, List.map_cons, List.map_nil, Nat.reduceAdd, Nat.zero_add, Int.reduceAdd, Nat.reduceEqDiff, reduceIte, Classical.not_not, b_Md_readTruth, shMd]
      refine ihL d v k1 (c + c1.length + 1) _ none Q hv hd hg'.2.1 ?_ (up_eq _ _ _ _) (by omega) ok.to.bd fun M' hM' => ?_
      · rw [hg'.1.2.1 15 (by omega) (by omega) (by omega) (by omega) (by omega) (by omega)]; exact h15
      · exact hQ _ (PoM.seqx hg' rfl hM')
  · rw [if_neg q] at ok hQ
    refine AW.run ck_Md_readTruth [] 10 5 ?_
    simp only [wR, wB, wE0, wE1, wE2, wE3, g0, gS, s10, s11, s1S, s20, s21, s2S, kl0, kl1, kl2, kl3, sp0, sp1, sp2, sp3, cn1, cn2, cn3, cn4, cn5, cn6, jJa, lk0, lk1, jmS, jmN, s4_0, s4_1, s4_2, s4_3, s4_4, sw0, sw1, cKs, cKn, true_and, and_true, List.map_cons, List.map_nil, Nat.reduceAdd, Nat.zero_add, Int.reduceAdd, Nat.reduceEqDiff, reduceIte, Classical.not_not, b_Md_readTruth, shMd]
    refine ⟨by omega, MS.to (c_Md_eats_no (x := 18) (by omega) hA q) fun _ => ?_⟩
    simp only [wR, wB, wE0, wE1, wE2, wE3, g0, gS, s10, s11, s1S, s20, s21, s2S, kl0, kl1, kl2, kl3, sp0, sp1, sp2, sp3, cn1, cn2, cn3, cn4, cn5, cn6, jJa, lk0, lk1, jmS, jmN, s4_0, s4_1, s4_2, s4_3, s4_4, sw0, sw1, cKs, cKn, true_and, and_true, List.map_cons, List.map_nil, Nat.reduceAdd, Nat.zero_add, Int.reduceAdd, Nat.reduceEqDiff, reduceIte, Classical.not_not, b_Md_readTruth, Int.reduceEq, not_true_eq_false, not_false_eq_true, false_imp_iff, true_imp_iff, and_self]
    exact hQ _ (GdM.refl hA hc).po
theorem c_Md_readTruth0 (ihS : SM G t n lw mi_Md_readBoth 4 7 f) (ihL : SL G t n lw mi_Md_readTruth 5 6 f (fun v _ => [some (vr 117), some (vi v)])) : SM G t n lw mi_Md_readTruth 5 5 (f + 1) := by
  intro d v k c M hv hd hA h15 hc hck ok
  have n9 := hA.n9
  rw [PR_5] at ok ⊢
  refine MS.run ck_Md_readTruth [some (vr 117), some (vi v)] [5] 10 fun _ _ => ?_
  simp only [wR, wB, wE0, wE1, wE2, wE3, g0, gS, s10, s11, s1S, s20, s21, s2S, kl0, kl1, kl2, kl3, sp0, sp1, sp2, sp3, cn1, cn2, cn3, cn4, cn5, cn6, jJa, lk0, lk1, jmS, jmN, s4_0, s4_1, s4_2, s4_3, s4_4, sw0, sw1, cKs, cKn, true_and, and_true, List.map_cons, List.map_nil, Nat.reduceAdd, Nat.zero_add, Int.reduceAdd, Nat.reduceEqDiff, reduceIte, Classical.not_not, b_Md_readTruth, shMd]
  refine ⟨by omega, (ihS (d - 1) v k c M hv (by omega) hA h15 hc hck ok.bd).mono ?_⟩
  rintro r M1 _ ⟨rfl, hp⟩
  simp only [wR, wB, wE0, wE1, wE2, wE3, g0, gS, s10, s11, s1S, s20, s21, s2S, kl0, kl1, kl2, kl3, sp0, sp1, sp2, sp3, cn1, cn2, cn3, cn4, cn5, cn6, jJa, lk0, lk1, jmS, jmN, s4_0, s4_1, s4_2, s4_3, s4_4, sw0, sw1, cKs, cKn, true_and, and_true, List.map_cons, List.map_nil, Nat.reduceAdd, Nat.zero_add, Int.reduceAdd, Nat.reduceEqDiff, reduceIte, Classical.not_not, b_Md_readTruth, shMd]
  rcases rs_cases (PR t n lw f 7 v k) with ⟨w, k1, hr⟩ | ⟨k1, c1, hr⟩
  · rw [hr] at hp ok ⊢
    have hb := hp.bad
    refine AW.run ck_Md_readTruth [] 10 5 ?_
    simp only [wR, wB, wE0, wE1, wE2, wE3, g0, gS, s10, s11, s1S, s20, s21, s2S, kl0, kl1, kl2, kl3, sp0, sp1, sp2, sp3, cn1, cn2, cn3, cn4, cn5, cn6, jJa, lk0, lk1, jmS, jmN, s4_0, s4_1, s4_2, s4_3, s4_4, sw0, sw1, cKs, cKn, true_and, and_true, List.map_cons, List.map_nil, Nat.reduceAdd, Nat.zero_add, Int.reduceAdd, Nat.reduceEqDiff, reduceIte, Classical.not_not, b_Md_readTruth, shMd]
    refine ⟨by omega, MS.to (c_Md_eats_f (by omega) hb.ne) fun _ => ?_⟩
    simp only [wR, wB, wE0, wE1, wE2, wE3, g0, gS, s10, s11, s1S, s20, s21, s2S, kl0, kl1, kl2, kl3, sp0, sp1, sp2, sp3, cn1, cn2, cn3, cn4, cn5, cn6, jJa, lk0, lk1, jmS, jmN, s4_0, s4_1, s4_2, s4_3, s4_4, sw0, sw1, cKs, cKn, true_and, and_true, List.map_cons, List.map_nil, Nat.reduceAdd, Nat.zero_add, Int.reduceAdd, Nat.reduceEqDiff, reduceIte, Classical.not_not, b_Md_readTruth, Int.reduceEq, not_true_eq_false, not_false_eq_true, false_imp_iff, true_imp_iff, and_self]
    exact hp
  · rw [hr] at hp ok ⊢
    have hg := hp.good
    have h1 := PR_ln _ _ _ _ (by omega) _ _ hr
    refine ihL d v k1 (c + c1.length) M1 none _ hv hd hg.2.1 ?_ hg.2.2.1 (by omega) ok.to.bd fun M' hM' => ?_
    · rw [hg.1.2.1 15 (by omega) (by omega) (by omega) (by omega) (by omega) (by omega)]; exact h15
    · exact ⟨rfl, PoM.seq hg hM'⟩
end PL
