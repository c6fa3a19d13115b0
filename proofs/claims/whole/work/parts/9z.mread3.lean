section PN
variable {G : AG} {t : Nat → Nat} {n lw f d : Nat} {M : AM}
theorem c_Md_readIf0 {v k c : Nat} (ihS : SM G t n lw mi_Md_readSum 2 0 f) (ihT : SM G t n lw mi_Md_readTruth 5 5 f) (hv : v ≤ 6) (hd : 7 * (6 - v) + 11 ≤ d) (hA : AtM M t n k) (h15 : M 117 15 = (lw : Int)) (hc : M 121 152 = (c : Int)) (hck : c ≤ k) (q10 : kin t n (pls t n (k)) = 10) (ok : okR (if v = 6 then Rs.bad 4 k else PRi t n lw f (v + 1) (k + 1))) :
    MS G d mi_Md_readIf [vr 117, vi v] M (fun r M' => r = none ∧ PoM t n c M M' (if v = 6 then Rs.bad 4 k else PRi t n lw f (v + 1) (k + 1))) := by
  have n9 := hA.n9
  refine MS.by ck_Md_readIf [some (vr 117), some (vi v)] fun _ _ => ?_
  generalize hQ : (fun (r : Option AV) (M' : AM) => r = none ∧ PoM t n c M M' (if v = 6 then Rs.bad 4 k else PRi t n lw f (v + 1) (k + 1))) = Q
  have hq : ∀ M', PoM t n c M M' (if v = 6 then Rs.bad 4 k else PRi t n lw f (v + 1) (k + 1)) → Q none M' := by
    intro M' h
    rw [← hQ]
    exact ⟨rfl, h⟩
  clear hQ
  by_cases q6 : v = 6
  · subst q6
    rw [if_pos rfl] at hq
    refine AW.run ck_Md_readIf [9] 10 0 ?_
    simp only [wR, wB, wE0, wE1, wE2, wE3, g0, gS, s10, s11, s1S, s20, s21, s2S, kl0, kl1, kl2, kl3, sp0, sp1, sp2, sp3, cn1, cn2, cn3, cn4, cn5, cn6, jJa, lk0, lk1, jmS, jmN, s4_0, s4_1, s4_2, s4_3, s4_4, sw0, sw1, cKs, cKn, true_and, and_true, List.map_cons, List.map_nil, Nat.reduceAdd, Nat.zero_add, Int.reduceAdd, Nat.reduceEqDiff, reduceIte, Classical.not_not, b_Md_readIf, shMd]
    refine ⟨by omega, MS.to (c_Md_goesIn_no (by omega) hA) fun _ => ?_⟩
    simp only [wR, wB, wE0, wE1, wE2, wE3, g0, gS, s10, s11, s1S, s20, s21, s2S, kl0, kl1, kl2, kl3, sp0, sp1, sp2, sp3, cn1, cn2, cn3, cn4, cn5, cn6, jJa, lk0, lk1, jmS, jmN, s4_0, s4_1, s4_2, s4_3, s4_4, sw0, sw1, cKs, cKn, true_and, and_true, List.map_cons, List.map_nil, Nat.reduceAdd, Nat.zero_add, Int.reduceAdd, Nat.reduceEqDiff, reduceIte, Classical.not_not, b_Md_readIf, shMd, Int.reduceEq, not_true_eq_false, not_false_eq_true, false_imp_iff, true_imp_iff, and_self]
    exact hq _ (BdM.mk' FrM.refl (by omega)).po
  rw [if_neg q6] at hq ok
  unfold PRi at hq ok
  -- behind a fault
  have f72 : ∀ N : AM, N 117 11 ≠ 0 → Q none N → AW G d mi_Md_readIf Q 72 [some (vr 117), some (vi v)] [] N := by
    intro N hN hq
    refine AW.run ck_Md_readIf [] 10 72 ?_
    simp only [wR, wB, wE0, wE1, wE2, wE3, g0, gS, s10, s11, s1S, s20, s21, s2S, kl0, kl1, kl2, kl3, sp0, sp1, sp2, sp3, cn1, cn2, cn3, cn4, cn5, cn6, jJa, lk0, lk1, jmS, jmN, s4_0, s4_1, s4_2, s4_3, s4_4, sw0, sw1, cKs, cKn, true_and, and_true, List.map_cons, List.map_nil, Nat.reduceAdd, Nat.zero_add, Int.reduceAdd, Nat.reduceEqDiff, reduceIte, Classical.not_not, b_Md_readIf, shMd]
    refine ⟨by omega, MS.to (c_Md_codes_f hN) fun _ => ?_⟩
    simp only [wR, wB, wE0, wE1, wE2, wE3, g0, gS, s10, s11, s1S, s20, s21, s2S, kl0, kl1, kl2, kl3, sp0, sp1, sp2, sp3, cn1, cn2, cn3, cn4, cn5, cn6, jJa, lk0, lk1, jmS, jmN, s4_0, s4_1, s4_2, s4_3, s4_4, sw0, sw1, cKs, cKn, true_and, and_true, List.map_cons, List.map_nil, Nat.reduceAdd, Nat.zero_add, Int.reduceAdd, Nat.reduceEqDiff, reduceIte, Classical.not_not, b_Md_readIf, shMd]
    exact hq
  have f51 : ∀ N : AM, N 117 11 ≠ 0 → Q none N → AW G d mi_Md_readIf Q 51 [some (vr 117), some (vi v)] [] N := by
    intro N hN hq
    refine AW.run ck_Md_readIf [72] 10 51 ?_
    simp only [wR, wB, wE0, wE1, wE2, wE3, g0, gS, s10, s11, s1S, s20, s21, s2S, kl0, kl1, kl2, kl3, sp0, sp1, sp2, sp3, cn1, cn2, cn3, cn4, cn5, cn6, jJa, lk0, lk1, jmS, jmN, s4_0, s4_1, s4_2, s4_3, s4_4, sw0, sw1, cKs, cKn, true_and, and_true, List.map_cons, List.map_nil, Nat.reduceAdd, Nat.zero_add, Int.reduceAdd, Nat.reduceEqDiff, reduceIte, Classical.not_not, b_Md_readIf, shMd]
    (repeat' (first | omega | (with_reducible exact True.intro) | exact ⟨by omega, by omega⟩ | (with_reducible exact Or.inr trivial) | (with_reducible exact Or.inl trivial) | (with_reducible assumption) | (with_reducible exact Same.refl) | (with_reducible rfl) | (with_reducible refine And.intro ?_ ?_) | (with_reducible intro _)))
    refine MS.to (c_Md_readSum_f (by omega) hN) fun _ => ?_
    simp only [wR, wB, wE0, wE1, wE2, wE3, g0, gS, s10, s11, s1S, s20, s21, s2S, kl0, kl1, kl2, kl3, sp0, sp1, sp2, sp3, cn1, cn2, cn3, cn4, cn5, cn6, jJa, lk0, lk1, jmS, jmN, s4_0, s4_1, s4_2, s4_3, s4_4, sw0, sw1, cKs, cKn, true_and, and_true, List.map_cons, List.map_nil, Nat.reduceAdd, Nat.zero_add, Int.reduceAdd, Nat.reduceEqDiff, reduceIte, Classical.not_not, b_Md_readIf, shMd]
    refine ⟨by omega, MS.to (c_Md_eats_f (by omega) hN) fun _ => ?_⟩
    simp only [wR, wB, wE0, wE1, wE2, wE3, g0, gS, s10, s11, s1S, s20, s21, s2S, kl0, kl1, kl2, kl3, sp0, sp1, sp2, sp3, cn1, cn2, cn3, cn4, cn5, cn6, jJa, lk0, lk1, jmS, jmN, s4_0, s4_1, s4_2, s4_3, s4_4, sw0, sw1, cKs, cKn, true_and, and_true, List.map_cons, List.map_nil, Nat.reduceAdd, Nat.zero_add, Int.reduceAdd, Nat.reduceEqDiff, reduceIte, Classical.not_not, b_Md_readIf, shMd, Int.reduceEq, not_true_eq_false, not_false_eq_true, false_imp_iff, true_imp_iff, and_self]
    refine ⟨by omega, MS.to (c_Md_fails_f hN) fun _ => ?_⟩
    simp only [wR, wB, wE0, wE1, wE2, wE3, g0, gS, s10, s11, s1S, s20, s21, s2S, kl0, kl1, kl2, kl3, sp0, sp1, sp2, sp3, cn1, cn2, cn3, cn4, cn5, cn6, jJa, lk0, lk1, jmS, jmN, s4_0, s4_1, s4_2, s4_3, s4_4, sw0, sw1, cKs, cKn, true_and, and_true, List.map_cons, List.map_nil, Nat.reduceAdd, Nat.zero_add, Int.reduceAdd, Nat.reduceEqDiff, reduceIte, Classical.not_not, b_Md_readIf, shMd, Int.reduceEq, not_true_eq_false, not_false_eq_true, false_imp_iff, true_imp_iff, and_self]
    exact f72 N hN hq
  have f30 : ∀ N : AM, N 117 11 ≠ 0 → Q none N → AW G d mi_Md_readIf Q 30 [some (vr 117), some (vi v)] [] N := by
    intro N hN hq
    refine AW.run ck_Md_readIf [51] 10 30 ?_
    simp only [wR, wB, wE0, wE1, wE2, wE3, g0, gS, s10, s11, s1S, s20, s21, s2S, kl0, kl1, kl2, kl3, sp0, sp1, sp2, sp3, cn1, cn2, cn3, cn4, cn5, cn6, jJa, lk0, lk1, jmS, jmN, s4_0, s4_1, s4_2, s4_3, s4_4, sw0, sw1, cKs, cKn, true_and, and_true, List.map_cons, List.map_nil, Nat.reduceAdd, Nat.zero_add, Int.reduceAdd, Nat.reduceEqDiff, reduceIte, Classical.not_not, b_Md_readIf, shMd]
    (repeat' (first | omega | (with_reducible exact True.intro) | exact ⟨by omega, by omega⟩ | (with_reducible exact Or.inr trivial) | (with_reducible exact Or.inl trivial) | (with_reducible assumption) | (with_reducible exact Same.refl) | (with_reducible rfl) | (with_reducible refine And.intro ?_ ?_) | (with_reducible intro _)))
    refine MS.to (c_Md_readSum_f (by omega) hN) fun _ => ?_
    simp only [wR, wB, wE0, wE1, wE2, wE3, g0, gS, s10, s11, s1S, s20, s21, s2S, kl0, kl1, kl2, kl3, sp0, sp1, sp2, sp3, cn1, cn2, cn3, cn4, cn5, cn6, jJa, lk0, lk1, jmS, jmN, s4_0, s4_1, s4_2, s4_3, s4_4, sw0, sw1, cKs, cKn, true_and, and_true, List.map_cons, List.map_nil, Nat.reduceAdd, Nat.zero_add, Int.reduceAdd, Nat.reduceEqDiff, reduceIte, Classical.not_not, b_Md_readIf, shMd]
    refine ⟨by omega, MS.to (c_Md_eats_f (by omega) hN) fun _ => ?_⟩
    simp only [wR, wB, wE0, wE1, wE2, wE3, g0, gS, s10, s11, s1S, s20, s21, s2S, kl0, kl1, kl2, kl3, sp0, sp1, sp2, sp3, cn1, cn2, cn3, cn4, cn5, cn6, jJa, lk0, lk1, jmS, jmN, s4_0, s4_1, s4_2, s4_3, s4_4, sw0, sw1, cKs, cKn, true_and, and_true, List.map_cons, List.map_nil, Nat.reduceAdd, Nat.zero_add, Int.reduceAdd, Nat.reduceEqDiff, reduceIte, Classical.not_not, b_Md_readIf, shMd, Int.reduceEq, not_true_eq_false, not_false_eq_true, false_imp_iff, true_imp_iff, and_self]
    refine ⟨by omega, MS.to (c_Md_fails_f hN) fun _ => ?_⟩
    simp only [wR, wB, wE0, wE1, wE2, wE3, g0, gS, s10, s11, s1S, s20, s21, s2S, kl0, kl1, kl2, kl3, sp0, sp1, sp2, sp3, cn1, cn2, cn3, cn4, cn5, cn6, jJa, lk0, lk1, jmS, jmN, s4_0, s4_1, s4_2, s4_3, s4_4, sw0, sw1, cKs, cKn, true_and, and_true, List.map_cons, List.map_nil, Nat.reduceAdd, Nat.zero_add, Int.reduceAdd, Nat.reduceEqDiff, reduceIte, Classical.not_not, b_Md_readIf, shMd, Int.reduceEq, not_true_eq_false, not_false_eq_true, false_imp_iff, true_imp_iff, and_self]
    exact f51 N hN hq
  refine AW.run ck_Md_readIf [9] 10 0 ?_
  simp only [wR, wB, wE0, wE1, wE2, wE3, g0, gS, s10, s11, s1S, s20, s21, s2S, kl0, kl1, kl2, kl3, sp0, sp1, sp2, sp3, cn1, cn2, cn3, cn4, cn5, cn6, jJa, lk0, lk1, jmS, jmN, s4_0, s4_1, s4_2, s4_3, s4_4, sw0, sw1, cKs, cKn, true_and, and_true, List.map_cons, List.map_nil, Nat.reduceAdd, Nat.zero_add, Int.reduceAdd, Nat.reduceEqDiff, reduceIte, Classical.not_not, b_Md_readIf, shMd]
  refine ⟨by omega, (c_Md_goesIn_in (by omega) hA (by omega) (by omega)).mono ?_⟩
  rintro r M0 _ ⟨rfl, hA0, hf0⟩
  have gg0 := (GdM.refl hA hc).step hA0 hf0
  simp only [wR, wB, wE0, wE1, wE2, wE3, g0, gS, s10, s11, s1S, s20, s21, s2S, kl0, kl1, kl2, kl3, sp0, sp1, sp2, sp3, cn1, cn2, cn3, cn4, cn5, cn6, jJa, lk0, lk1, jmS, jmN, s4_0, s4_1, s4_2, s4_3, s4_4, sw0, sw1, cKs, cKn, true_and, and_true, List.map_cons, List.map_nil, Nat.reduceAdd, Nat.zero_add, Int.reduceAdd, Nat.reduceEqDiff, reduceIte, Classical.not_not, b_Md_readIf, shMd, Int.reduceEq, not_true_eq_false, not_false_eq_true, false_imp_iff, true_imp_iff, and_self]
  -- the truth
  refine AW.run ck_Md_readIf [30] 10 9 ?_
  simp only [wR, wB, wE0, wE1, wE2, wE3, g0, gS, s10, s11, s1S, s20, s21, s2S, kl0, kl1, kl2, kl3, sp0, sp1, sp2, sp3, cn1, cn2, cn3, cn4, cn5, cn6, jJa, lk0, lk1, jmS, jmN, s4_0, s4_1, s4_2, s4_3, s4_4, sw0, sw1, cKs, cKn, true_and, and_true, List.map_cons, List.map_nil, Nat.reduceAdd, Nat.zero_add, Int.reduceAdd, Nat.reduceEqDiff, reduceIte, Classical.not_not, b_Md_readIf, shMd, ce]
  (repeat' (first | omega | (with_reducible exact True.intro) | exact ⟨by omega, by omega⟩ | (with_reducible exact Or.inr trivial) | (with_reducible exact Or.inl trivial) | (with_reducible assumption) | (with_reducible exact Same.refl) | (with_reducible rfl) | (with_reducible refine And.intro ?_ ?_) | (with_reducible intro _)))
  refine (ihT (d - 1) (v + 1) (k + 1) c M0 (by omega) (by omega) hA0 (by rw [hf0.2 15 (by omega) (by omega) (by omega) (by omega)]; exact h15) gg0.2.2.1 (by omega) ok.bd).mono ?_
  rintro r M1 _ ⟨rfl, hp⟩
  rcases rs_cases (PR t n lw f 5 (v + 1) (k + 1)) with ⟨w, k1, hr⟩ | ⟨k1, c1, hr⟩
  · rw [hr] at hp ok hq
    have hb := hp.bad
    simp only [wR, wB, wE0, wE1, wE2, wE3, g0, gS, s10, s11, s1S, s20, s21, s2S, kl0, kl1, kl2, kl3, sp0, sp1, sp2, sp3, cn1, cn2, cn3, cn4, cn5, cn6, jJa, lk0, lk1, jmS, jmN, s4_0, s4_1, s4_2, s4_3, s4_4, sw0, sw1, cKs, cKn, true_and, and_true, List.map_cons, List.map_nil, Nat.reduceAdd, Nat.zero_add, Int.reduceAdd, Nat.reduceEqDiff, reduceIte, Classical.not_not, b_Md_readIf, shMd]
    refine ⟨by omega, MS.to (c_Md_eats_f (by omega) hb.ne) fun _ => ?_⟩
    simp only [wR, wB, wE0, wE1, wE2, wE3, g0, gS, s10, s11, s1S, s20, s21, s2S, kl0, kl1, kl2, kl3, sp0, sp1, sp2, sp3, cn1, cn2, cn3, cn4, cn5, cn6, jJa, lk0, lk1, jmS, jmN, s4_0, s4_1, s4_2, s4_3, s4_4, sw0, sw1, cKs, cKn, true_and, and_true, List.map_cons, List.map_nil, Nat.reduceAdd, Nat.zero_add, Int.reduceAdd, Nat.reduceEqDiff, reduceIte, Classical.not_not, b_Md_readIf, shMd, Int.reduceEq, not_true_eq_false, not_false_eq_true, false_imp_iff, true_imp_iff, and_self]
    refine ⟨by omega, MS.to (c_Md_fails_f hb.ne) fun _ => ?_⟩
    simp only [wR, wB, wE0, wE1, wE2, wE3, g0, gS, s10, s11, s1S, s20, s21, s2S, kl0, kl1, kl2, kl3, sp0, sp1, sp2, sp3, cn1, cn2, cn3, cn4, cn5, cn6, jJa, lk0, lk1, jmS, jmN, s4_0, s4_1, s4_2, s4_3, s4_4, sw0, sw1, cKs, cKn, true_and, and_true, List.map_cons, List.map_nil, Nat.reduceAdd, Nat.zero_add, Int.reduceAdd, Nat.reduceEqDiff, reduceIte, Classical.not_not, b_Md_readIf, shMd, Int.reduceEq, not_true_eq_false, not_false_eq_true, false_imp_iff, true_imp_iff, and_self]
    exact f30 M1 hb.ne (hq _ (BdM.of gg0.1 hb).po)
  rw [hr] at hp ok hq
  rw [good_bd] at ok hq
  have n1 := PR_ln _ _ _ _ (by omega) _ _ hr
  have g1 := gg0.seq (cs := []) hp.good
  rw [List.nil_append] at g1
  by_cases q1 : kin t n (pls t n (k1)) = 11
  case neg =>
    rw [if_neg q1] at hq
    have hb := BdM.mk' (t := t) (n := n) (k := k1) g1.1 (show 2 ≠ 0 by omega)
    simp only [wR, wB, wE0, wE1, wE2, wE3, g0, gS, s10, s11, s1S, s20, s21, s2S, kl0, kl1, kl2, kl3, sp0, sp1, sp2, sp3, cn1, cn2, cn3, cn4, cn5, cn6, jJa, lk0, lk1, jmS, jmN, s4_0, s4_1, s4_2, s4_3, s4_4, sw0, sw1, cKs, cKn, true_and, and_true, List.map_cons, List.map_nil, Nat.reduceAdd, Nat.zero_add, Int.reduceAdd, Nat.reduceEqDiff, reduceIte, Classical.not_not, b_Md_readIf, shMd]
    refine ⟨by omega, MS.to (c_Md_eats_no (x := 11) (by omega) g1.2.1 q1) fun _ => ?_⟩
    simp only [wR, wB, wE0, wE1, wE2, wE3, g0, gS, s10, s11, s1S, s20, s21, s2S, kl0, kl1, kl2, kl3, sp0, sp1, sp2, sp3, cn1, cn2, cn3, cn4, cn5, cn6, jJa, lk0, lk1, jmS, jmN, s4_0, s4_1, s4_2, s4_3, s4_4, sw0, sw1, cKs, cKn, true_and, and_true, List.map_cons, List.map_nil, Nat.reduceAdd, Nat.zero_add, Int.reduceAdd, Nat.reduceEqDiff, reduceIte, Classical.not_not, b_Md_readIf, shMd, Int.reduceEq, not_true_eq_false, not_false_eq_true, false_imp_iff, true_imp_iff, and_self]
    refine ⟨by omega, MS.to (c_Md_fails g1.2.1) fun _ => ?_⟩
    simp only [wR, wB, wE0, wE1, wE2, wE3, g0, gS, s10, s11, s1S, s20, s21, s2S, kl0, kl1, kl2, kl3, sp0, sp1, sp2, sp3, cn1, cn2, cn3, cn4, cn5, cn6, jJa, lk0, lk1, jmS, jmN, s4_0, s4_1, s4_2, s4_3, s4_4, sw0, sw1, cKs, cKn, true_and, and_true, List.map_cons, List.map_nil, Nat.reduceAdd, Nat.zero_add, Int.reduceAdd, Nat.reduceEqDiff, reduceIte, Classical.not_not, b_Md_readIf, shMd, Int.reduceEq, not_true_eq_false, not_false_eq_true, false_imp_iff, true_imp_iff, and_self]
    exact f30 _ hb.ne (hq _ hb.po)
  rw [if_pos q1] at hq ok
  simp only [wR, wB, wE0, wE1, wE2, wE3, g0, gS, s10, s11, s1S, s20, s21, s2S, kl0, kl1, kl2, kl3, sp0, sp1, sp2, sp3, cn1, cn2, cn3, cn4, cn5, cn6, jJa, lk0, lk1, jmS, jmN, s4_0, s4_1, s4_2, s4_3, s4_4, sw0, sw1, cKs, cKn, true_and, and_true, List.map_cons, List.map_nil, Nat.reduceAdd, Nat.zero_add, Int.reduceAdd, Nat.reduceEqDiff, reduceIte, Classical.not_not, b_Md_readIf, shMd]
  refine ⟨by omega, (c_Md_eats_yes (x := 11) (by omega) g1.2.1 q1 (by omega)).mono ?_⟩
  rintro r M2 _ ⟨rfl, hA2, hf2⟩
  have g2 := g1.step hA2 hf2
  simp only [wR, wB, wE0, wE1, wE2, wE3, g0, gS, s10, s11, s1S, s20, s21, s2S, kl0, kl1, kl2, kl3, sp0, sp1, sp2, sp3, cn1, cn2, cn3, cn4, cn5, cn6, jJa, lk0, lk1, jmS, jmN, s4_0, s4_1, s4_2, s4_3, s4_4, sw0, sw1, cKs, cKn, true_and, and_true, List.map_cons, List.map_nil, Nat.reduceAdd, Nat.zero_add, Int.reduceAdd, Nat.reduceEqDiff, reduceIte, Classical.not_not, b_Md_readIf, shMd, Int.reduceEq, not_true_eq_false, not_false_eq_true, false_imp_iff, true_imp_iff, and_self]
  -- the first sum
  refine AW.run ck_Md_readIf [51] 10 30 ?_
  simp only [wR, wB, wE0, wE1, wE2, wE3, g0, gS, s10, s11, s1S, s20, s21, s2S, kl0, kl1, kl2, kl3, sp0, sp1, sp2, sp3, cn1, cn2, cn3, cn4, cn5, cn6, jJa, lk0, lk1, jmS, jmN, s4_0, s4_1, s4_2, s4_3, s4_4, sw0, sw1, cKs, cKn, true_and, and_true, List.map_cons, List.map_nil, Nat.reduceAdd, Nat.zero_add, Int.reduceAdd, Nat.reduceEqDiff, reduceIte, Classical.not_not, b_Md_readIf, shMd, ce]
  (repeat' (first | omega | (with_reducible exact True.intro) | exact ⟨by omega, by omega⟩ | (with_reducible exact Or.inr trivial) | (with_reducible exact Or.inl trivial) | (with_reducible assumption) | (with_reducible exact Same.refl) | (with_reducible rfl) | (with_reducible refine And.intro ?_ ?_) | (with_reducible intro _)))
  refine (ihS (d - 1) (v + 1) (k1 + 1) (c + c1.length) M2 (by omega) (by omega) hA2 (by rw [g2.1.2.1 15 (by omega) (by omega) (by omega) (by omega) (by omega) (by omega)]; exact h15) g2.2.2.1 (by omega) ok.bd).mono ?_
  rintro r M3 _ ⟨rfl, hp3⟩
  rcases rs_cases (PR t n lw f 0 (v + 1) (k1 + 1)) with ⟨w, k2, hr2⟩ | ⟨k2, c2, hr2⟩
  · rw [hr2] at hp3 ok hq
    have hb := hp3.bad
    simp only [wR, wB, wE0, wE1, wE2, wE3, g0, gS, s10, s11, s1S, s20, s21, s2S, kl0, kl1, kl2, kl3, sp0, sp1, sp2, sp3, cn1, cn2, cn3, cn4, cn5, cn6, jJa, lk0, lk1, jmS, jmN, s4_0, s4_1, s4_2, s4_3, s4_4, sw0, sw1, cKs, cKn, true_and, and_true, List.map_cons, List.map_nil, Nat.reduceAdd, Nat.zero_add, Int.reduceAdd, Nat.reduceEqDiff, reduceIte, Classical.not_not, b_Md_readIf, shMd]
    refine ⟨by omega, MS.to (c_Md_eats_f (by omega) hb.ne) fun _ => ?_⟩
    simp only [wR, wB, wE0, wE1, wE2, wE3, g0, gS, s10, s11, s1S, s20, s21, s2S, kl0, kl1, kl2, kl3, sp0, sp1, sp2, sp3, cn1, cn2, cn3, cn4, cn5, cn6, jJa, lk0, lk1, jmS, jmN, s4_0, s4_1, s4_2, s4_3, s4_4, sw0, sw1, cKs, cKn, true_and, and_true, List.map_cons, List.map_nil, Nat.reduceAdd, Nat.zero_add, Int.reduceAdd, Nat.reduceEqDiff, reduceIte, Classical.not_not, b_Md_readIf, shMd, Int.reduceEq, not_true_eq_false, not_false_eq_true, false_imp_iff, true_imp_iff, and_self]
    refine ⟨by omega, MS.to (c_Md_fails_f hb.ne) fun _ => ?_⟩
    simp only [wR, wB, wE0, wE1, wE2, wE3, g0, gS, s10, s11, s1S, s20, s21, s2S, kl0, kl1, kl2, kl3, sp0, sp1, sp2, sp3, cn1, cn2, cn3, cn4, cn5, cn6, jJa, lk0, lk1, jmS, jmN, s4_0, s4_1, s4_2, s4_3, s4_4, sw0, sw1, cKs, cKn, true_and, and_true, List.map_cons, List.map_nil, Nat.reduceAdd, Nat.zero_add, Int.reduceAdd, Nat.reduceEqDiff, reduceIte, Classical.not_not, b_Md_readIf, shMd, Int.reduceEq, not_true_eq_false, not_false_eq_true, false_imp_iff, true_imp_iff, and_self]
    exact f51 M3 hb.ne (hq _ (BdM.of g2.1 hb).po)
  rw [hr2] at hp3 ok hq
  rw [good_bd] at ok hq
  have n2 := PR_ln _ _ _ _ (by omega) _ _ hr2
  have g3 := g2.seq hp3.good
  by_cases q2 : kin t n (pls t n (k2)) = 12
  case neg =>
    rw [if_neg q2] at hq
    have hb := BdM.mk' (t := t) (n := n) (k := k2) g3.1 (show 2 ≠ 0 by omega)
    simp only [wR, wB, wE0, wE1, wE2, wE3, g0, gS, s10, s11, s1S, s20, s21, s2S, kl0, kl1, kl2, kl3, sp0, sp1, sp2, sp3, cn1, cn2, cn3, cn4, cn5, cn6, jJa, lk0, lk1, jmS, jmN, s4_0, s4_1, s4_2, s4_3, s4_4, sw0, sw1, cKs, cKn, true_and, and_true, List.map_cons, List.map_nil, Nat.reduceAdd, Nat.zero_add, Int.reduceAdd, Nat.reduceEqDiff, reduceIte, Classical.not_not, b_Md_readIf, shMd]
    refine ⟨by omega, MS.to (c_Md_eats_no (x := 12) (by omega) g3.2.1 q2) fun _ => ?_⟩
    simp only [wR, wB, wE0, wE1, wE2, wE3, g0, gS, s10, s11, s1S, s20, s21, s2S, kl0, kl1, kl2, kl3, sp0, sp1, sp2, sp3, cn1, cn2, cn3, cn4, cn5, cn6, jJa, lk0, lk1, jmS, jmN, s4_0, s4_1, s4_2, s4_3, s4_4, sw0, sw1, cKs, cKn, true_and, and_true, List.map_cons, List.map_nil, Nat.reduceAdd, Nat.zero_add, Int.reduceAdd, Nat.reduceEqDiff, reduceIte, Classical.not_not, b_Md_readIf, shMd, Int.reduceEq, not_true_eq_false, not_false_eq_true, false_imp_iff, true_imp_iff, and_self]
    refine ⟨by omega, MS.to (c_Md_fails g3.2.1) fun _ => ?_⟩
    simp only [wR, wB, wE0, wE1, wE2, wE3, g0, gS, s10, s11, s1S, s20, s21, s2S, kl0, kl1, kl2, kl3, sp0, sp1, sp2, sp3, cn1, cn2, cn3, cn4, cn5, cn6, jJa, lk0, lk1, jmS, jmN, s4_0, s4_1, s4_2, s4_3, s4_4, sw0, sw1, cKs, cKn, true_and, and_true, List.map_cons, List.map_nil, Nat.reduceAdd, Nat.zero_add, Int.reduceAdd, Nat.reduceEqDiff, reduceIte, Classical.not_not, b_Md_readIf, shMd, Int.reduceEq, not_true_eq_false, not_false_eq_true, false_imp_iff, true_imp_iff, and_self]
    exact f51 _ hb.ne (hq _ hb.po)
  rw [if_pos q2] at hq ok
  simp only [wR, wB, wE0, wE1, wE2, wE3, g0, gS, s10, s11, s1S, s20, s21, s2S, kl0, kl1, kl2, kl3, sp0, sp1, sp2, sp3, cn1, cn2, cn3, cn4, cn5, cn6, jJa, lk0, lk1, jmS, jmN, s4_0, s4_1, s4_2, s4_3, s4_4, sw0, sw1, cKs, cKn, true_and, and_true, List.map_cons, List.map_nil, Nat.reduceAdd, Nat.zero_add, Int.reduceAdd, Nat.reduceEqDiff, reduceIte, Classical.not_not, b_Md_readIf, shMd]
  refine ⟨by omega, (c_Md_eats_yes (x := 12) (by omega) g3.2.1 q2 (by omega)).mono ?_⟩
  rintro r M4 _ ⟨rfl, hA4, hf4⟩
  have g4 := g3.step hA4 hf4
  simp only [wR, wB, wE0, wE1, wE2, wE3, g0, gS, s10, s11, s1S, s20, s21, s2S, kl0, kl1, kl2, kl3, sp0, sp1, sp2, sp3, cn1, cn2, cn3, cn4, cn5, cn6, jJa, lk0, lk1, jmS, jmN, s4_0, s4_1, s4_2, s4_3, s4_4, sw0, sw1, cKs, cKn, true_and, and_true, List.map_cons, List.map_nil, Nat.reduceAdd, Nat.zero_add, Int.reduceAdd, Nat.reduceEqDiff, reduceIte, Classical.not_not, b_Md_readIf, shMd, Int.reduceEq, not_true_eq_false, not_false_eq_true, false_imp_iff, true_imp_iff, and_self]
  -- the second sum
  refine AW.run ck_Md_readIf [72] 10 51 ?_
  simp only [wR, wB, wE0, wE1, wE2, wE3, g0, gS, s10, s11, s1S, s20, s21, s2S, kl0, kl1, kl2, kl3, sp0, sp1, sp2, sp3, cn1, cn2, cn3, cn4, cn5, cn6, jJa, lk0, lk1, jmS, jmN, s4_0, s4_1, s4_2, s4_3, s4_4, sw0, sw1, cKs, cKn, true_and, and_true, List.map_cons, List.map_nil, Nat.reduceAdd, Nat.zero_add, Int.reduceAdd, Nat.reduceEqDiff, reduceIte, Classical.not_not, b_Md_readIf, shMd, ce]
  (repeat' (first | omega | (with_reducible exact True.intro) | exact ⟨by omega, by omega⟩ | (with_reducible exact Or.inr trivial) | (with_reducible exact Or.inl trivial) | (with_reducible assumption) | (with_reducible exact Same.refl) | (with_reducible rfl) | (with_reducible refine And.intro ?_ ?_) | (with_reducible intro _)))
  refine (ihS (d - 1) (v + 1) (k2 + 1) (c + (c1 ++ c2).length) M4 (by omega) (by omega) hA4 (by rw [g4.1.2.1 15 (by omega) (by omega) (by omega) (by omega) (by omega) (by omega)]; exact h15) g4.2.2.1 (by rw [List.length_append]; omega) ok.bd).mono ?_
  rintro r M5 _ ⟨rfl, hp5⟩
  rcases rs_cases (PR t n lw f 0 (v + 1) (k2 + 1)) with ⟨w, k3, hr3⟩ | ⟨k3, c3, hr3⟩
  · rw [hr3] at hp5 ok hq
    have hb := hp5.bad
    simp only [wR, wB, wE0, wE1, wE2, wE3, g0, gS, s10, s11, s1S, s20, s21, s2S, kl0, kl1, kl2, kl3, sp0, sp1, sp2, sp3, cn1, cn2, cn3, cn4, cn5, cn6, jJa, lk0, lk1, jmS, jmN, s4_0, s4_1, s4_2, s4_3, s4_4, sw0, sw1, cKs, cKn, true_and, and_true, List.map_cons, List.map_nil, Nat.reduceAdd, Nat.zero_add, Int.reduceAdd, Nat.reduceEqDiff, reduceIte, Classical.not_not, b_Md_readIf, shMd]
    refine ⟨by omega, MS.to (c_Md_eats_f (by omega) hb.ne) fun _ => ?_⟩
    simp only [wR, wB, wE0, wE1, wE2, wE3, g0, gS, s10, s11, s1S, s20, s21, s2S, kl0, kl1, kl2, kl3, sp0, sp1, sp2, sp3, cn1, cn2, cn3, cn4, cn5, cn6, jJa, lk0, lk1, jmS, jmN, s4_0, s4_1, s4_2, s4_3, s4_4, sw0, sw1, cKs, cKn, true_and, and_true, List.map_cons, List.map_nil, Nat.reduceAdd, Nat.zero_add, Int.reduceAdd, Nat.reduceEqDiff, reduceIte, Classical.not_not, b_Md_readIf, shMd, Int.reduceEq, not_true_eq_false, not_false_eq_true, false_imp_iff, true_imp_iff, and_self]
    refine ⟨by omega, MS.to (c_Md_fails_f hb.ne) fun _ => ?_⟩
    simp only [wR, wB, wE0, wE1, wE2, wE3, g0, gS, s10, s11, s1S, s20, s21, s2S, kl0, kl1, kl2, kl3, sp0, sp1, sp2, sp3, cn1, cn2, cn3, cn4, cn5, cn6, jJa, lk0, lk1, jmS, jmN, s4_0, s4_1, s4_2, s4_3, s4_4, sw0, sw1, cKs, cKn, true_and, and_true, List.map_cons, List.map_nil, Nat.reduceAdd, Nat.zero_add, Int.reduceAdd, Nat.reduceEqDiff, reduceIte, Classical.not_not, b_Md_readIf, shMd, Int.reduceEq, not_true_eq_false, not_false_eq_true, false_imp_iff, true_imp_iff, and_self]
    exact f72 M5 hb.ne (hq _ (BdM.of g4.1 hb).po)
  rw [hr3] at hp5 ok hq
  rw [good_bd] at ok hq
  have n3 := PR_ln _ _ _ _ (by omega) _ _ hr3
  have g5 := g4.seq hp5.good
  by_cases q3 : kin t n (pls t n (k3)) = 13
  case neg =>
    rw [if_neg q3] at hq
    have hb := BdM.mk' (t := t) (n := n) (k := k3) g5.1 (show 2 ≠ 0 by omega)
    simp only [wR, wB, wE0, wE1, wE2, wE3, g0, gS, s10, s11, s1S, s20, s21, s2S, kl0, kl1, kl2, kl3, sp0, sp1, sp2, sp3, cn1, cn2, cn3, cn4, cn5, cn6, jJa, lk0, lk1, jmS, jmN, s4_0, s4_1, s4_2, s4_3, s4_4, sw0, sw1, cKs, cKn, true_and, and_true, List.map_cons, List.map_nil, Nat.reduceAdd, Nat.zero_add, Int.reduceAdd, Nat.reduceEqDiff, reduceIte, Classical.not_not, b_Md_readIf, shMd]
    refine ⟨by omega, MS.to (c_Md_eats_no (x := 13) (by omega) g5.2.1 q3) fun _ => ?_⟩
    simp only [wR, wB, wE0, wE1, wE2, wE3, g0, gS, s10, s11, s1S, s20, s21, s2S, kl0, kl1, kl2, kl3, sp0, sp1, sp2, sp3, cn1, cn2, cn3, cn4, cn5, cn6, jJa, lk0, lk1, jmS, jmN, s4_0, s4_1, s4_2, s4_3, s4_4, sw0, sw1, cKs, cKn, true_and, and_true, List.map_cons, List.map_nil, Nat.reduceAdd, Nat.zero_add, Int.reduceAdd, Nat.reduceEqDiff, reduceIte, Classical.not_not, b_Md_readIf, shMd, Int.reduceEq, not_true_eq_false, not_false_eq_true, false_imp_iff, true_imp_iff, and_self]
    refine ⟨by omega, MS.to (c_Md_fails g5.2.1) fun _ => ?_⟩
    simp only [wR, wB, wE0, wE1, wE2, wE3, g0, gS, s10, s11, s1S, s20, s21, s2S, kl0, kl1, kl2, kl3, sp0, sp1, sp2, sp3, cn1, cn2, cn3, cn4, cn5, cn6, jJa, lk0, lk1, jmS, jmN, s4_0, s4_1, s4_2, s4_3, s4_4, sw0, sw1, cKs, cKn, true_and, and_true, List.map_cons, List.map_nil, Nat.reduceAdd, Nat.zero_add, Int.reduceAdd, Nat.reduceEqDiff, reduceIte, Classical.not_not, b_Md_readIf, shMd, Int.reduceEq, not_true_eq_false, not_false_eq_true, false_imp_iff, true_imp_iff, and_self]
    exact f72 _ hb.ne (hq _ hb.po)
  rw [if_pos q3] at hq ok
  have hk3 := kn_lt (t := t) (n := n) (k := k3) (by omega)
  simp only [wR, wB, wE0, wE1, wE2, wE3, g0, gS, s10, s11, s1S, s20, s21, s2S, kl0, kl1, kl2, kl3, sp0, sp1, sp2, sp3, cn1, cn2, cn3, cn4, cn5, cn6, jJa, lk0, lk1, jmS, jmN, s4_0, s4_1, s4_2, s4_3, s4_4, sw0, sw1, cKs, cKn, true_and, and_true, List.map_cons, List.map_nil, Nat.reduceAdd, Nat.zero_add, Int.reduceAdd, Nat.reduceEqDiff, reduceIte, Classical.not_not, b_Md_readIf, shMd]
  refine ⟨by omega, (c_Md_eats_yes (x := 13) (by omega) g5.2.1 q3 (by omega)).mono ?_⟩
  rintro r M6 _ ⟨rfl, hA6, hf6⟩
  have g6 := g5.step hA6 hf6
  simp only [wR, wB, wE0, wE1, wE2, wE3, g0, gS, s10, s11, s1S, s20, s21, s2S, kl0, kl1, kl2, kl3, sp0, sp1, sp2, sp3, cn1, cn2, cn3, cn4, cn5, cn6, jJa, lk0, lk1, jmS, jmN, s4_0, s4_1, s4_2, s4_3, s4_4, sw0, sw1, cKs, cKn, true_and, and_true, List.map_cons, List.map_nil, Nat.reduceAdd, Nat.zero_add, Int.reduceAdd, Nat.reduceEqDiff, reduceIte, Classical.not_not, b_Md_readIf, shMd, Int.reduceEq, not_true_eq_false, not_false_eq_true, false_imp_iff, true_imp_iff, and_self]
  refine AW.run ck_Md_readIf [] 10 72 ?_
  simp only [wR, wB, wE0, wE1, wE2, wE3, g0, gS, s10, s11, s1S, s20, s21, s2S, kl0, kl1, kl2, kl3, sp0, sp1, sp2, sp3, cn1, cn2, cn3, cn4, cn5, cn6, jJa, lk0, lk1, jmS, jmN, s4_0, s4_1, s4_2, s4_3, s4_4, sw0, sw1, cKs, cKn, true_and, and_true, List.map_cons, List.map_nil, Nat.reduceAdd, Nat.zero_add, Int.reduceAdd, Nat.reduceEqDiff, reduceIte, Classical.not_not, b_Md_readIf, shMd, ce]
  refine ⟨by omega, MS.to (c_Md_codes (c := c + (c1 ++ c2 ++ c3).length) g6.2.1.2.2 g6.2.2.1 (by simp only [List.length_append]; omega)) fun _ => ?_⟩
  simp only [wR, wB, wE0, wE1, wE2, wE3, g0, gS, s10, s11, s1S, s20, s21, s2S, kl0, kl1, kl2, kl3, sp0, sp1, sp2, sp3, cn1, cn2, cn3, cn4, cn5, cn6, jJa, lk0, lk1, jmS, jmN, s4_0, s4_1, s4_2, s4_3, s4_4, sw0, sw1, cKs, cKn, true_and, and_true, List.map_cons, List.map_nil, Nat.reduceAdd, Nat.zero_add, Int.reduceAdd, Nat.reduceEqDiff, reduceIte, Classical.not_not, b_Md_readIf, shMd]
  have g7 := g6.code (v := 3009)
  rw [List.append_assoc, List.append_assoc] at g7
  simp only [List.append_assoc] at *
  exact hq _ g7.po
end PN
