section QD
variable {G : AG} {t : Nat → Nat} {n m lw f : Nat} {z : Int}
theorem c_Rd_choice0 {d v k c : Nat} {M : AM} (hz : lwZ z) (ihS : SC G t n m lw z mi_Rd_sum 2 0 f) (ihT : SC G t n m lw z mi_Rd_truth 6 5 f) (hv : v ≤ 6) (hd : 8 * (6 - v) + 6 + 7 ≤ d) (hA : AtC M t n m k) (h9 : M 2 9 = z) (h10 : M 2 10 = (if lw = 0 then 1 else 0)) (hc : M z 1 = (c : Int)) (hck : c ≤ k) (ok : okR (PRi t n lw f v k)) :
    MS G d mi_Rd_choice [vr 2, vi v] M (fun r M' => r = none ∧ PoC t n m z c M M' (PRi t n lw f v k)) := by
  refine MS.by ck_Rd_choice [some (vr 2), some (vi v)] fun _ _ => ?_
  generalize hQ : (fun (r : Option AV) (M' : AM) => r = none ∧ PoC t n m z c M M' (PRi t n lw f v k)) = Q
  have hq : ∀ M', PoC t n m z c M M' (PRi t n lw f v k) → Q none M' := by
    intro M' h
    rw [← hQ]
    exact ⟨rfl, h⟩
  clear hQ
  unfold PRi at ok hq
  refine AW.run ck_Rd_choice [] 12 0 ?_
  simp only [wR, wB, wE0, wE1, wE2, wE3, g0, gS, s10, s11, s1S, s20, s21, s2S, kl0, kl1, kl2, kl3, sp0, sp1, sp2, sp3, cn1, cn2, cn3, cn4, cn5, cn6, jJa, lk0, lk1, jmS, jmN, s4_0, s4_1, s4_2, s4_3, s4_4, sw0, sw1, cKs, cKn, true_and, and_true, List.map_cons, List.map_nil, Nat.reduceAdd, Nat.zero_add, Int.reduceAdd, Nat.reduceEqDiff, reduceIte, Classical.not_not, b_Rd_choice, shH]
  refine ⟨by omega, (ihT (d - 1) v k c M hv (by omega) hA h9 h10 hc hck ok.bd).mono ?_⟩
  rintro r M1 _ ⟨rfl, hp⟩
  rcases rs_cases (PR t n lw f 5 v k) with ⟨w, k1, hr⟩ | ⟨k1, c1, hr⟩
  · rw [hr] at hp ok hq
    have hb := hp.bad
    have h8 := hb.2.2.2.1
    have hn := hb.ne
    simp only [wR, wB, wE0, wE1, wE2, wE3, g0, gS, s10, s11, s1S, s20, s21, s2S, kl0, kl1, kl2, kl3, sp0, sp1, sp2, sp3, cn1, cn2, cn3, cn4, cn5, cn6, jJa, lk0, lk1, jmS, jmN, s4_0, s4_1, s4_2, s4_3, s4_4, sw0, sw1, cKs, cKn, true_and, and_true, List.map_cons, List.map_nil, Nat.reduceAdd, Nat.zero_add, Int.reduceAdd, Nat.reduceEqDiff, reduceIte, Classical.not_not, b_Rd_choice, shH]
    refine ⟨by omega, MS.to (c_Rd_word_g (by omega) hn h8 (by omega)) fun _ => ?_⟩
    simp only [wR, wB, wE0, wE1, wE2, wE3, g0, gS, s10, s11, s1S, s20, s21, s2S, kl0, kl1, kl2, kl3, sp0, sp1, sp2, sp3, cn1, cn2, cn3, cn4, cn5, cn6, jJa, lk0, lk1, jmS, jmN, s4_0, s4_1, s4_2, s4_3, s4_4, sw0, sw1, cKs, cKn, true_and, and_true, List.map_cons, List.map_nil, Nat.reduceAdd, Nat.zero_add, Int.reduceAdd, Nat.reduceEqDiff, reduceIte, Classical.not_not, b_Rd_choice, shH]
    refine ⟨by omega, MS.to (c_Rd_sum_f (by omega) hn h8) fun _ => ?_⟩
    simp only [wR, wB, wE0, wE1, wE2, wE3, g0, gS, s10, s11, s1S, s20, s21, s2S, kl0, kl1, kl2, kl3, sp0, sp1, sp2, sp3, cn1, cn2, cn3, cn4, cn5, cn6, jJa, lk0, lk1, jmS, jmN, s4_0, s4_1, s4_2, s4_3, s4_4, sw0, sw1, cKs, cKn, true_and, and_true, List.map_cons, List.map_nil, Nat.reduceAdd, Nat.zero_add, Int.reduceAdd, Nat.reduceEqDiff, reduceIte, Classical.not_not, b_Rd_choice, shH]
    refine ⟨by omega, MS.to (c_Rd_word_g (by omega) hn h8 (by omega)) fun _ => ?_⟩
    simp only [wR, wB, wE0, wE1, wE2, wE3, g0, gS, s10, s11, s1S, s20, s21, s2S, kl0, kl1, kl2, kl3, sp0, sp1, sp2, sp3, cn1, cn2, cn3, cn4, cn5, cn6, jJa, lk0, lk1, jmS, jmN, s4_0, s4_1, s4_2, s4_3, s4_4, sw0, sw1, cKs, cKn, true_and, and_true, List.map_cons, List.map_nil, Nat.reduceAdd, Nat.zero_add, Int.reduceAdd, Nat.reduceEqDiff, reduceIte, Classical.not_not, b_Rd_choice, shH]
    refine ⟨by omega, MS.to (c_Rd_sum_f (by omega) hn h8) fun _ => ?_⟩
    simp only [wR, wB, wE0, wE1, wE2, wE3, g0, gS, s10, s11, s1S, s20, s21, s2S, kl0, kl1, kl2, kl3, sp0, sp1, sp2, sp3, cn1, cn2, cn3, cn4, cn5, cn6, jJa, lk0, lk1, jmS, jmN, s4_0, s4_1, s4_2, s4_3, s4_4, sw0, sw1, cKs, cKn, true_and, and_true, List.map_cons, List.map_nil, Nat.reduceAdd, Nat.zero_add, Int.reduceAdd, Nat.reduceEqDiff, reduceIte, Classical.not_not, b_Rd_choice, shH]
    refine ⟨by omega, MS.to (c_Rd_word_g (by omega) hn h8 (by omega)) fun _ => ?_⟩
    simp only [wR, wB, wE0, wE1, wE2, wE3, g0, gS, s10, s11, s1S, s20, s21, s2S, kl0, kl1, kl2, kl3, sp0, sp1, sp2, sp3, cn1, cn2, cn3, cn4, cn5, cn6, jJa, lk0, lk1, jmS, jmN, s4_0, s4_1, s4_2, s4_3, s4_4, sw0, sw1, cKs, cKn, true_and, and_true, List.map_cons, List.map_nil, Nat.reduceAdd, Nat.zero_add, Int.reduceAdd, Nat.reduceEqDiff, reduceIte, Classical.not_not, b_Rd_choice, shH]
    refine ⟨by omega, (c_Rd_put_f (by omega) hz (hb.f9 h9) hb).mono ?_⟩
    rintro r M4 _ ⟨rfl, hb4⟩
    simp only [wR, wB, wE0, wE1, wE2, wE3, g0, gS, s10, s11, s1S, s20, s21, s2S, kl0, kl1, kl2, kl3, sp0, sp1, sp2, sp3, cn1, cn2, cn3, cn4, cn5, cn6, jJa, lk0, lk1, jmS, jmN, s4_0, s4_1, s4_2, s4_3, s4_4, sw0, sw1, cKs, cKn, true_and, and_true, List.map_cons, List.map_nil, Nat.reduceAdd, Nat.zero_add, Int.reduceAdd, Nat.reduceEqDiff, reduceIte, Classical.not_not, b_Rd_choice]
    exact hq _ hb4.po
  rw [hr] at hp ok hq
  rw [good_bd] at ok hq
  have n1 := PR_ln _ _ _ _ (by omega) _ _ hr
  have g1 := hp.good
  have m1 := g1.2.1.m9
  by_cases q1 : kin t n (pls t n (k1)) = 11
  case neg =>
    rw [if_neg q1] at hq
    have hb := BdC.mk' (w := 2) hz g1 (by omega) (by omega)
    have hrf := c_Rd_word_no (G := G) (d := d - 1) (x := 11) (by omega) g1.2.1 q1 (by unfold vK; omega)
    generalize up (up (up M1 2 0 _) 2 1 _) 2 8 23 = M9 at hrf hb
    have h8 := hb.2.2.2.1
    have hn := hb.ne
    simp only [wR, wB, wE0, wE1, wE2, wE3, g0, gS, s10, s11, s1S, s20, s21, s2S, kl0, kl1, kl2, kl3, sp0, sp1, sp2, sp3, cn1, cn2, cn3, cn4, cn5, cn6, jJa, lk0, lk1, jmS, jmN, s4_0, s4_1, s4_2, s4_3, s4_4, sw0, sw1, cKs, cKn, true_and, and_true, List.map_cons, List.map_nil, Nat.reduceAdd, Nat.zero_add, Int.reduceAdd, Nat.reduceEqDiff, reduceIte, Classical.not_not, b_Rd_choice, shH]
    refine ⟨by omega, MS.to hrf fun _ => ?_⟩
    simp only [wR, wB, wE0, wE1, wE2, wE3, g0, gS, s10, s11, s1S, s20, s21, s2S, kl0, kl1, kl2, kl3, sp0, sp1, sp2, sp3, cn1, cn2, cn3, cn4, cn5, cn6, jJa, lk0, lk1, jmS, jmN, s4_0, s4_1, s4_2, s4_3, s4_4, sw0, sw1, cKs, cKn, true_and, and_true, List.map_cons, List.map_nil, Nat.reduceAdd, Nat.zero_add, Int.reduceAdd, Nat.reduceEqDiff, reduceIte, Classical.not_not, b_Rd_choice, shH]
    refine ⟨by omega, MS.to (c_Rd_sum_f (by omega) hn h8) fun _ => ?_⟩
    simp only [wR, wB, wE0, wE1, wE2, wE3, g0, gS, s10, s11, s1S, s20, s21, s2S, kl0, kl1, kl2, kl3, sp0, sp1, sp2, sp3, cn1, cn2, cn3, cn4, cn5, cn6, jJa, lk0, lk1, jmS, jmN, s4_0, s4_1, s4_2, s4_3, s4_4, sw0, sw1, cKs, cKn, true_and, and_true, List.map_cons, List.map_nil, Nat.reduceAdd, Nat.zero_add, Int.reduceAdd, Nat.reduceEqDiff, reduceIte, Classical.not_not, b_Rd_choice, shH]
    refine ⟨by omega, MS.to (c_Rd_word_g (by omega) hn h8 (by omega)) fun _ => ?_⟩
    simp only [wR, wB, wE0, wE1, wE2, wE3, g0, gS, s10, s11, s1S, s20, s21, s2S, kl0, kl1, kl2, kl3, sp0, sp1, sp2, sp3, cn1, cn2, cn3, cn4, cn5, cn6, jJa, lk0, lk1, jmS, jmN, s4_0, s4_1, s4_2, s4_3, s4_4, sw0, sw1, cKs, cKn, true_and, and_true, List.map_cons, List.map_nil, Nat.reduceAdd, Nat.zero_add, Int.reduceAdd, Nat.reduceEqDiff, reduceIte, Classical.not_not, b_Rd_choice, shH]
    refine ⟨by omega, MS.to (c_Rd_sum_f (by omega) hn h8) fun _ => ?_⟩
    simp only [wR, wB, wE0, wE1, wE2, wE3, g0, gS, s10, s11, s1S, s20, s21, s2S, kl0, kl1, kl2, kl3, sp0, sp1, sp2, sp3, cn1, cn2, cn3, cn4, cn5, cn6, jJa, lk0, lk1, jmS, jmN, s4_0, s4_1, s4_2, s4_3, s4_4, sw0, sw1, cKs, cKn, true_and, and_true, List.map_cons, List.map_nil, Nat.reduceAdd, Nat.zero_add, Int.reduceAdd, Nat.reduceEqDiff, reduceIte, Classical.not_not, b_Rd_choice, shH]
    refine ⟨by omega, MS.to (c_Rd_word_g (by omega) hn h8 (by omega)) fun _ => ?_⟩
    simp only [wR, wB, wE0, wE1, wE2, wE3, g0, gS, s10, s11, s1S, s20, s21, s2S, kl0, kl1, kl2, kl3, sp0, sp1, sp2, sp3, cn1, cn2, cn3, cn4, cn5, cn6, jJa, lk0, lk1, jmS, jmN, s4_0, s4_1, s4_2, s4_3, s4_4, sw0, sw1, cKs, cKn, true_and, and_true, List.map_cons, List.map_nil, Nat.reduceAdd, Nat.zero_add, Int.reduceAdd, Nat.reduceEqDiff, reduceIte, Classical.not_not, b_Rd_choice, shH]
    refine ⟨by omega, (c_Rd_put_f (by omega) hz (hb.f9 h9) hb).mono ?_⟩
    rintro r M4 _ ⟨rfl, hb4⟩
    simp only [wR, wB, wE0, wE1, wE2, wE3, g0, gS, s10, s11, s1S, s20, s21, s2S, kl0, kl1, kl2, kl3, sp0, sp1, sp2, sp3, cn1, cn2, cn3, cn4, cn5, cn6, jJa, lk0, lk1, jmS, jmN, s4_0, s4_1, s4_2, s4_3, s4_4, sw0, sw1, cKs, cKn, true_and, and_true, List.map_cons, List.map_nil, Nat.reduceAdd, Nat.zero_add, Int.reduceAdd, Nat.reduceEqDiff, reduceIte, Classical.not_not, b_Rd_choice]
    exact hq _ hb4.po
  rw [if_pos q1] at hq ok
  simp only [wR, wB, wE0, wE1, wE2, wE3, g0, gS, s10, s11, s1S, s20, s21, s2S, kl0, kl1, kl2, kl3, sp0, sp1, sp2, sp3, cn1, cn2, cn3, cn4, cn5, cn6, jJa, lk0, lk1, jmS, jmN, s4_0, s4_1, s4_2, s4_3, s4_4, sw0, sw1, cKs, cKn, true_and, and_true, List.map_cons, List.map_nil, Nat.reduceAdd, Nat.zero_add, Int.reduceAdd, Nat.reduceEqDiff, reduceIte, Classical.not_not, b_Rd_choice, shH]
  refine ⟨by omega, (c_Rd_word_yes (x := 11) (by omega) g1.2.1 q1 (by omega)).mono ?_⟩
  rintro r M2 _ ⟨rfl, hA2, e2⟩
  have g2 : GdC t n m z c M M2 (k1 + 1) c1 := by
    rw [e2] at hA2 ⊢
    exact g1.step hz hA2
  have f2 := g2.f9 h9 h10
  clear e2
  simp only [wR, wB, wE0, wE1, wE2, wE3, g0, gS, s10, s11, s1S, s20, s21, s2S, kl0, kl1, kl2, kl3, sp0, sp1, sp2, sp3, cn1, cn2, cn3, cn4, cn5, cn6, jJa, lk0, lk1, jmS, jmN, s4_0, s4_1, s4_2, s4_3, s4_4, sw0, sw1, cKs, cKn, true_and, and_true, List.map_cons, List.map_nil, Nat.reduceAdd, Nat.zero_add, Int.reduceAdd, Nat.reduceEqDiff, reduceIte, Classical.not_not, b_Rd_choice, shH]
  refine ⟨by omega, (ihS (d - 1) v (k1 + 1) (c + c1.length) M2 hv (by omega) hA2 f2.1 f2.2 g2.2.2.1 (by omega) ok.bd).mono ?_⟩
  rintro r M3 _ ⟨rfl, hp3⟩
  rcases rs_cases (PR t n lw f 0 v (k1 + 1)) with ⟨w, k2, hr2⟩ | ⟨k2, c2, hr2⟩
  · rw [hr2] at hp3 ok hq
    have hb := BdC.of g2.1 hp3.bad
    have h8 := hb.2.2.2.1
    have hn := hb.ne
    simp only [wR, wB, wE0, wE1, wE2, wE3, g0, gS, s10, s11, s1S, s20, s21, s2S, kl0, kl1, kl2, kl3, sp0, sp1, sp2, sp3, cn1, cn2, cn3, cn4, cn5, cn6, jJa, lk0, lk1, jmS, jmN, s4_0, s4_1, s4_2, s4_3, s4_4, sw0, sw1, cKs, cKn, true_and, and_true, List.map_cons, List.map_nil, Nat.reduceAdd, Nat.zero_add, Int.reduceAdd, Nat.reduceEqDiff, reduceIte, Classical.not_not, b_Rd_choice, shH]
    refine ⟨by omega, MS.to (c_Rd_word_g (by omega) hn h8 (by omega)) fun _ => ?_⟩
    simp only [wR, wB, wE0, wE1, wE2, wE3, g0, gS, s10, s11, s1S, s20, s21, s2S, kl0, kl1, kl2, kl3, sp0, sp1, sp2, sp3, cn1, cn2, cn3, cn4, cn5, cn6, jJa, lk0, lk1, jmS, jmN, s4_0, s4_1, s4_2, s4_3, s4_4, sw0, sw1, cKs, cKn, true_and, and_true, List.map_cons, List.map_nil, Nat.reduceAdd, Nat.zero_add, Int.reduceAdd, Nat.reduceEqDiff, reduceIte, Classical.not_not, b_Rd_choice, shH]
    refine ⟨by omega, MS.to (c_Rd_sum_f (by omega) hn h8) fun _ => ?_⟩
    simp only [wR, wB, wE0, wE1, wE2, wE3, g0, gS, s10, s11, s1S, s20, s21, s2S, kl0, kl1, kl2, kl3, sp0, sp1, sp2, sp3, cn1, cn2, cn3, cn4, cn5, cn6, jJa, lk0, lk1, jmS, jmN, s4_0, s4_1, s4_2, s4_3, s4_4, sw0, sw1, cKs, cKn, true_and, and_true, List.map_cons, List.map_nil, Nat.reduceAdd, Nat.zero_add, Int.reduceAdd, Nat.reduceEqDiff, reduceIte, Classical.not_not, b_Rd_choice, shH]
    refine ⟨by omega, MS.to (c_Rd_word_g (by omega) hn h8 (by omega)) fun _ => ?_⟩
    simp only [wR, wB, wE0, wE1, wE2, wE3, g0, gS, s10, s11, s1S, s20, s21, s2S, kl0, kl1, kl2, kl3, sp0, sp1, sp2, sp3, cn1, cn2, cn3, cn4, cn5, cn6, jJa, lk0, lk1, jmS, jmN, s4_0, s4_1, s4_2, s4_3, s4_4, sw0, sw1, cKs, cKn, true_and, and_true, List.map_cons, List.map_nil, Nat.reduceAdd, Nat.zero_add, Int.reduceAdd, Nat.reduceEqDiff, reduceIte, Classical.not_not, b_Rd_choice, shH]
    refine ⟨by omega, (c_Rd_put_f (by omega) hz (hb.f9 h9) hb).mono ?_⟩
    rintro r M4 _ ⟨rfl, hb4⟩
    simp only [wR, wB, wE0, wE1, wE2, wE3, g0, gS, s10, s11, s1S, s20, s21, s2S, kl0, kl1, kl2, kl3, sp0, sp1, sp2, sp3, cn1, cn2, cn3, cn4, cn5, cn6, jJa, lk0, lk1, jmS, jmN, s4_0, s4_1, s4_2, s4_3, s4_4, sw0, sw1, cKs, cKn, true_and, and_true, List.map_cons, List.map_nil, Nat.reduceAdd, Nat.zero_add, Int.reduceAdd, Nat.reduceEqDiff, reduceIte, Classical.not_not, b_Rd_choice]
    exact hq _ hb4.po
  rw [hr2] at hp3 ok hq
  rw [good_bd] at ok hq
  have n2 := PR_ln _ _ _ _ (by omega) _ _ hr2
  have g3 := g2.seq hp3.good
  have m3 := g3.2.1.m9
  by_cases q2 : kin t n (pls t n (k2)) = 12
  case neg =>
    rw [if_neg q2] at hq
    have hb := BdC.mk' (w := 2) hz g3 (by rw [List.length_append]; omega) (by omega)
    have hrf := c_Rd_word_no (G := G) (d := d - 1) (x := 12) (by omega) g3.2.1 q2 (by unfold vK; omega)
    generalize up (up (up M3 2 0 _) 2 1 _) 2 8 23 = M9 at hrf hb
    have h8 := hb.2.2.2.1
    have hn := hb.ne
    simp only [wR, wB, wE0, wE1, wE2, wE3, g0, gS, s10, s11, s1S, s20, s21, s2S, kl0, kl1, kl2, kl3, sp0, sp1, sp2, sp3, cn1, cn2, cn3, cn4, cn5, cn6, jJa, lk0, lk1, jmS, jmN, s4_0, s4_1, s4_2, s4_3, s4_4, sw0, sw1, cKs, cKn, true_and, and_true, List.map_cons, List.map_nil, Nat.reduceAdd, Nat.zero_add, Int.reduceAdd, Nat.reduceEqDiff, reduceIte, Classical.not_not, b_Rd_choice, shH]
    refine ⟨by omega, MS.to hrf fun _ => ?_⟩
    simp only [wR, wB, wE0, wE1, wE2, wE3, g0, gS, s10, s11, s1S, s20, s21, s2S, kl0, kl1, kl2, kl3, sp0, sp1, sp2, sp3, cn1, cn2, cn3, cn4, cn5, cn6, jJa, lk0, lk1, jmS, jmN, s4_0, s4_1, s4_2, s4_3, s4_4, sw0, sw1, cKs, cKn, true_and, and_true, List.map_cons, List.map_nil, Nat.reduceAdd, Nat.zero_add, Int.reduceAdd, Nat.reduceEqDiff, reduceIte, Classical.not_not, b_Rd_choice, shH]
    refine ⟨by omega, MS.to (c_Rd_sum_f (by omega) hn h8) fun _ => ?_⟩
    simp only [wR, wB, wE0, wE1, wE2, wE3, g0, gS, s10, s11, s1S, s20, s21, s2S, kl0, kl1, kl2, kl3, sp0, sp1, sp2, sp3, cn1, cn2, cn3, cn4, cn5, cn6, jJa, lk0, lk1, jmS, jmN, s4_0, s4_1, s4_2, s4_3, s4_4, sw0, sw1, cKs, cKn, true_and, and_true, List.map_cons, List.map_nil, Nat.reduceAdd, Nat.zero_add, Int.reduceAdd, Nat.reduceEqDiff, reduceIte, Classical.not_not, b_Rd_choice, shH]
    refine ⟨by omega, MS.to (c_Rd_word_g (by omega) hn h8 (by omega)) fun _ => ?_⟩
    simp only [wR, wB, wE0, wE1, wE2, wE3, g0, gS, s10, s11, s1S, s20, s21, s2S, kl0, kl1, kl2, kl3, sp0, sp1, sp2, sp3, cn1, cn2, cn3, cn4, cn5, cn6, jJa, lk0, lk1, jmS, jmN, s4_0, s4_1, s4_2, s4_3, s4_4, sw0, sw1, cKs, cKn, true_and, and_true, List.map_cons, List.map_nil, Nat.reduceAdd, Nat.zero_add, Int.reduceAdd, Nat.reduceEqDiff, reduceIte, Classical.not_not, b_Rd_choice, shH]
    refine ⟨by omega, (c_Rd_put_f (by omega) hz (hb.f9 h9) hb).mono ?_⟩
    rintro r M4 _ ⟨rfl, hb4⟩
    simp only [wR, wB, wE0, wE1, wE2, wE3, g0, gS, s10, s11, s1S, s20, s21, s2S, kl0, kl1, kl2, kl3, sp0, sp1, sp2, sp3, cn1, cn2, cn3, cn4, cn5, cn6, jJa, lk0, lk1, jmS, jmN, s4_0, s4_1, s4_2, s4_3, s4_4, sw0, sw1, cKs, cKn, true_and, and_true, List.map_cons, List.map_nil, Nat.reduceAdd, Nat.zero_add, Int.reduceAdd, Nat.reduceEqDiff, reduceIte, Classical.not_not, b_Rd_choice]
    exact hq _ hb4.po
  rw [if_pos q2] at hq ok
  simp only [wR, wB, wE0, wE1, wE2, wE3, g0, gS, s10, s11, s1S, s20, s21, s2S, kl0, kl1, kl2, kl3, sp0, sp1, sp2, sp3, cn1, cn2, cn3, cn4, cn5, cn6, jJa, lk0, lk1, jmS, jmN, s4_0, s4_1, s4_2, s4_3, s4_4, sw0, sw1, cKs, cKn, true_and, and_true, List.map_cons, List.map_nil, Nat.reduceAdd, Nat.zero_add, Int.reduceAdd, Nat.reduceEqDiff, reduceIte, Classical.not_not, b_Rd_choice, shH]
  refine ⟨by omega, (c_Rd_word_yes (x := 12) (by omega) g3.2.1 q2 (by omega)).mono ?_⟩
  rintro r M4 _ ⟨rfl, hA4, e4⟩
  have g4 : GdC t n m z c M M4 (k2 + 1) (c1 ++ c2) := by
    rw [e4] at hA4 ⊢
    exact g3.step hz hA4
  have f4 := g4.f9 h9 h10
  clear e4
  simp only [wR, wB, wE0, wE1, wE2, wE3, g0, gS, s10, s11, s1S, s20, s21, s2S, kl0, kl1, kl2, kl3, sp0, sp1, sp2, sp3, cn1, cn2, cn3, cn4, cn5, cn6, jJa, lk0, lk1, jmS, jmN, s4_0, s4_1, s4_2, s4_3, s4_4, sw0, sw1, cKs, cKn, true_and, and_true, List.map_cons, List.map_nil, Nat.reduceAdd, Nat.zero_add, Int.reduceAdd, Nat.reduceEqDiff, reduceIte, Classical.not_not, b_Rd_choice, shH]
  refine ⟨by omega, (ihS (d - 1) v (k2 + 1) (c + (c1 ++ c2).length) M4 hv (by omega) hA4 f4.1 f4.2 g4.2.2.1 (by rw [List.length_append]; omega) ok.bd).mono ?_⟩
  rintro r M5 _ ⟨rfl, hp5⟩
  rcases rs_cases (PR t n lw f 0 v (k2 + 1)) with ⟨w, k3, hr3⟩ | ⟨k3, c3, hr3⟩
  · rw [hr3] at hp5 ok hq
    have hb := BdC.of g4.1 hp5.bad
    have h8 := hb.2.2.2.1
    have hn := hb.ne
    simp only [wR, wB, wE0, wE1, wE2, wE3, g0, gS, s10, s11, s1S, s20, s21, s2S, kl0, kl1, kl2, kl3, sp0, sp1, sp2, sp3, cn1, cn2, cn3, cn4, cn5, cn6, jJa, lk0, lk1, jmS, jmN, s4_0, s4_1, s4_2, s4_3, s4_4, sw0, sw1, cKs, cKn, true_and, and_true, List.map_cons, List.map_nil, Nat.reduceAdd, Nat.zero_add, Int.reduceAdd, Nat.reduceEqDiff, reduceIte, Classical.not_not, b_Rd_choice, shH]
    refine ⟨by omega, MS.to (c_Rd_word_g (by omega) hn h8 (by omega)) fun _ => ?_⟩
    simp only [wR, wB, wE0, wE1, wE2, wE3, g0, gS, s10, s11, s1S, s20, s21, s2S, kl0, kl1, kl2, kl3, sp0, sp1, sp2, sp3, cn1, cn2, cn3, cn4, cn5, cn6, jJa, lk0, lk1, jmS, jmN, s4_0, s4_1, s4_2, s4_3, s4_4, sw0, sw1, cKs, cKn, true_and, and_true, List.map_cons, List.map_nil, Nat.reduceAdd, Nat.zero_add, Int.reduceAdd, Nat.reduceEqDiff, reduceIte, Classical.not_not, b_Rd_choice, shH]
    refine ⟨by omega, (c_Rd_put_f (by omega) hz (hb.f9 h9) hb).mono ?_⟩
    rintro r M6 _ ⟨rfl, hb4⟩
    simp only [wR, wB, wE0, wE1, wE2, wE3, g0, gS, s10, s11, s1S, s20, s21, s2S, kl0, kl1, kl2, kl3, sp0, sp1, sp2, sp3, cn1, cn2, cn3, cn4, cn5, cn6, jJa, lk0, lk1, jmS, jmN, s4_0, s4_1, s4_2, s4_3, s4_4, sw0, sw1, cKs, cKn, true_and, and_true, List.map_cons, List.map_nil, Nat.reduceAdd, Nat.zero_add, Int.reduceAdd, Nat.reduceEqDiff, reduceIte, Classical.not_not, b_Rd_choice]
    exact hq _ hb4.po
  rw [hr3] at hp5 ok hq
  rw [good_bd] at ok hq
  have n3 := PR_ln _ _ _ _ (by omega) _ _ hr3
  have g5 := g4.seq hp5.good
  have m5 := g5.2.1.m9
  by_cases q3 : kin t n (pls t n (k3)) = 13
  case neg =>
    rw [if_neg q3] at hq
    have hb := BdC.mk' (w := 2) hz g5 (by simp only [List.length_append]; omega) (by omega)
    have hrf := c_Rd_word_no (G := G) (d := d - 1) (x := 13) (by omega) g5.2.1 q3 (by unfold vK; omega)
    generalize up (up (up M5 2 0 _) 2 1 _) 2 8 23 = M9 at hrf hb
    simp only [wR, wB, wE0, wE1, wE2, wE3, g0, gS, s10, s11, s1S, s20, s21, s2S, kl0, kl1, kl2, kl3, sp0, sp1, sp2, sp3, cn1, cn2, cn3, cn4, cn5, cn6, jJa, lk0, lk1, jmS, jmN, s4_0, s4_1, s4_2, s4_3, s4_4, sw0, sw1, cKs, cKn, true_and, and_true, List.map_cons, List.map_nil, Nat.reduceAdd, Nat.zero_add, Int.reduceAdd, Nat.reduceEqDiff, reduceIte, Classical.not_not, b_Rd_choice, shH]
    refine ⟨by omega, MS.to hrf fun _ => ?_⟩
    simp only [wR, wB, wE0, wE1, wE2, wE3, g0, gS, s10, s11, s1S, s20, s21, s2S, kl0, kl1, kl2, kl3, sp0, sp1, sp2, sp3, cn1, cn2, cn3, cn4, cn5, cn6, jJa, lk0, lk1, jmS, jmN, s4_0, s4_1, s4_2, s4_3, s4_4, sw0, sw1, cKs, cKn, true_and, and_true, List.map_cons, List.map_nil, Nat.reduceAdd, Nat.zero_add, Int.reduceAdd, Nat.reduceEqDiff, reduceIte, Classical.not_not, b_Rd_choice, shH]
    refine ⟨by omega, (c_Rd_put_f (by omega) hz (hb.f9 h9) hb).mono ?_⟩
    rintro r M6 _ ⟨rfl, hb4⟩
    simp only [wR, wB, wE0, wE1, wE2, wE3, g0, gS, s10, s11, s1S, s20, s21, s2S, kl0, kl1, kl2, kl3, sp0, sp1, sp2, sp3, cn1, cn2, cn3, cn4, cn5, cn6, jJa, lk0, lk1, jmS, jmN, s4_0, s4_1, s4_2, s4_3, s4_4, sw0, sw1, cKs, cKn, true_and, and_true, List.map_cons, List.map_nil, Nat.reduceAdd, Nat.zero_add, Int.reduceAdd, Nat.reduceEqDiff, reduceIte, Classical.not_not, b_Rd_choice]
    exact hq _ hb4.po
  rw [if_pos q3] at hq ok
  simp only [wR, wB, wE0, wE1, wE2, wE3, g0, gS, s10, s11, s1S, s20, s21, s2S, kl0, kl1, kl2, kl3, sp0, sp1, sp2, sp3, cn1, cn2, cn3, cn4, cn5, cn6, jJa, lk0, lk1, jmS, jmN, s4_0, s4_1, s4_2, s4_3, s4_4, sw0, sw1, cKs, cKn, true_and, and_true, List.map_cons, List.map_nil, Nat.reduceAdd, Nat.zero_add, Int.reduceAdd, Nat.reduceEqDiff, reduceIte, Classical.not_not, b_Rd_choice, shH]
  refine ⟨by omega, (c_Rd_word_yes (x := 13) (by omega) g5.2.1 q3 (by omega)).mono ?_⟩
  rintro r M6 _ ⟨rfl, hA6, e6⟩
  have g6 : GdC t n m z c M M6 (k3 + 1) (c1 ++ c2 ++ c3) := by
    rw [e6] at hA6 ⊢
    exact g5.step hz hA6
  have f6 := g6.f9 h9 h10
  have m6 := g6.2.1.m9
  clear e6
  simp only [wR, wB, wE0, wE1, wE2, wE3, g0, gS, s10, s11, s1S, s20, s21, s2S, kl0, kl1, kl2, kl3, sp0, sp1, sp2, sp3, cn1, cn2, cn3, cn4, cn5, cn6, jJa, lk0, lk1, jmS, jmN, s4_0, s4_1, s4_2, s4_3, s4_4, sw0, sw1, cKs, cKn, true_and, and_true, List.map_cons, List.map_nil, Nat.reduceAdd, Nat.zero_add, Int.reduceAdd, Nat.reduceEqDiff, reduceIte, Classical.not_not, b_Rd_choice, shH]
  refine ⟨by omega, (c_Rd_put_g (v := 3009) (by omega) hz f6.1 g6 (by simp only [List.length_append]; omega) (by decide)).mono ?_⟩
  rintro r M7 _ ⟨rfl, g7, _⟩
  simp only [wR, wB, wE0, wE1, wE2, wE3, g0, gS, s10, s11, s1S, s20, s21, s2S, kl0, kl1, kl2, kl3, sp0, sp1, sp2, sp3, cn1, cn2, cn3, cn4, cn5, cn6, jJa, lk0, lk1, jmS, jmN, s4_0, s4_1, s4_2, s4_3, s4_4, sw0, sw1, cKs, cKn, true_and, and_true, List.map_cons, List.map_nil, Nat.reduceAdd, Nat.zero_add, Int.reduceAdd, Nat.reduceEqDiff, reduceIte, Classical.not_not, b_Rd_choice, shH]
  simp only [List.append_assoc] at g7
  exact hq _ g7.po
end QD
