section QC
variable {G : AG} {t : Nat → Nat} {n m lw f : Nat} {z : Int}
theorem c_Rd_sumL0 (hz : lwZ z) (ihS : SC G t n m lw z mi_Rd_term 1 2 f) (ihL : SD G t n m lw z mi_Rd_sum 2 1 f (fun v i l => [some (vr 2), some (vi v), some (vi i), l])) : SD G t n m lw z mi_Rd_sum 2 1 (f + 1) (fun v i l => [some (vr 2), some (vi v), some (vi i), l]) := by
  intro d v k c i M l Q hv hd hA h9 h10 hc hck hik ok hQ
  have m9 := hA.m9
  have h8 := hA.2.2.2.1
  have e32 := ckq (kk := kin t n (pls t n (k))) (x := 32) (v := 143) kin_v (by unfold vK; omega) (by decide +kernel)
  have e33 := ckq (kk := kin t n (pls t n (k))) (x := 33) (v := 145) kin_v (by unfold vK; omega) (by decide +kernel)
  rw [PR_1] at ok hQ
  by_cases q : kin t n (pls t n (k)) = 32 ∨ kin t n (pls t n (k)) = 33
  · rw [if_pos q] at ok hQ
    have a52 : ∀ x : Int, x = (if kin t n (pls t n (k)) = 32 then 3000 else 3001) → AW G d mi_Rd_sum Q 52 [some (vr 2), some (vi v), some (vi i), l] [vi (x - 1000)] M := by
      intro x hx
      rw [← hx] at ok hQ
      have hx3 : x = 3000 ∨ x = 3001 := by rw [hx]; split <;> simp
      have hcc : x - 1000 = cc x := by unfold cc; rw [if_neg (by omega)]
      clear hx
      refine AW.run ck_Rd_sum [7] 10 52 ?_
      simp only [wR, wB, wE0, wE1, wE2, wE3, g0, gS, s10, s11, s1S, s20, s21, s2S, kl0, kl1, kl2, kl3, sp0, sp1, sp2, sp3, cn1, cn2, cn3, cn4, cn5, cn6, jJa, lk0, lk1, jmS, jmN, s4_0, s4_1, s4_2, s4_3, s4_4, sw0, sw1, cKs, cKn, true_and, and_true, List.map_cons, List.map_nil, Nat.reduceAdd, Nat.zero_add, Int.reduceAdd, Nat.reduceEqDiff, reduceIte, Classical.not_not, b_Rd_sum, shH]
      refine ⟨by omega, (c_Rd_next hA (by omega)).mono ?_⟩
      rintro r M1 _ ⟨rfl, hA1, e1⟩
      have g1 : GdC t n m z c M M1 (k + 1) [] := by
        rw [e1] at hA1 ⊢
        exact (GdC.refl hA hc).step hz hA1
      have f1 := g1.f9 h9 h10
      simp only [wR, wB, wE0, wE1, wE2, wE3, g0, gS, s10, s11, s1S, s20, s21, s2S, kl0, kl1, kl2, kl3, sp0, sp1, sp2, sp3, cn1, cn2, cn3, cn4, cn5, cn6, jJa, lk0, lk1, jmS, jmN, s4_0, s4_1, s4_2, s4_3, s4_4, sw0, sw1, cKs, cKn, true_and, and_true, List.map_cons, List.map_nil, Nat.reduceAdd, Nat.zero_add, Int.reduceAdd, Nat.reduceEqDiff, reduceIte, Classical.not_not, b_Rd_sum, Int.reduceEq, not_true_eq_false, not_false_eq_true, false_imp_iff, true_imp_iff, and_self, shH]
      refine ⟨by omega, (ihS (d - 1) v (k + 1) c M1 hv (by omega) hA1 f1.1 f1.2 g1.2.2.1 (by omega) ok.bd).mono ?_⟩
      rintro r M2 _ ⟨rfl, hp⟩
      rcases rs_cases (PR t n lw f 2 v (k + 1)) with ⟨w, k1, hr⟩ | ⟨k1, c1, hr⟩
      · rw [hr] at hp ok hQ
        have hb := BdC.of g1.1 hp.bad
        simp only [wR, wB, wE0, wE1, wE2, wE3, g0, gS, s10, s11, s1S, s20, s21, s2S, kl0, kl1, kl2, kl3, sp0, sp1, sp2, sp3, cn1, cn2, cn3, cn4, cn5, cn6, jJa, lk0, lk1, jmS, jmN, s4_0, s4_1, s4_2, s4_3, s4_4, sw0, sw1, cKs, cKn, true_and, and_true, List.map_cons, List.map_nil, Nat.reduceAdd, Nat.zero_add, Int.reduceAdd, Nat.reduceEqDiff, reduceIte, Classical.not_not, b_Rd_sum, shH]
        refine ⟨by omega, (c_Rd_put_f (by omega) hz (hb.f9 h9) hb).mono ?_⟩
        rintro r M3 _ ⟨rfl, hb3⟩
        have h83 := hb3.2.2.2.1
        simp only [wR, wB, wE0, wE1, wE2, wE3, g0, gS, s10, s11, s1S, s20, s21, s2S, kl0, kl1, kl2, kl3, sp0, sp1, sp2, sp3, cn1, cn2, cn3, cn4, cn5, cn6, jJa, lk0, lk1, jmS, jmN, s4_0, s4_1, s4_2, s4_3, s4_4, sw0, sw1, cKs, cKn, true_and, and_true, List.map_cons, List.map_nil, Nat.reduceAdd, Nat.zero_add, Int.reduceAdd, Nat.reduceEqDiff, reduceIte, Classical.not_not, b_Rd_sum, shH, ce]
        (repeat' (first | omega | (with_reducible exact True.intro) | exact ⟨by omega, by omega⟩ | (with_reducible exact Or.inr trivial) | (with_reducible exact Or.inl trivial) | (with_reducible assumption) | (with_reducible exact Same.refl) | (with_reducible rfl) | (with_reducible refine And.intro ?_ ?_) | (with_reducible intro _)))
        refine AW.run ck_Rd_sum [33] 10 7 ?_
        simp only [wR, wB, wE0, wE1, wE2, wE3, g0, gS, s10, s11, s1S, s20, s21, s2S, kl0, kl1, kl2, kl3, sp0, sp1, sp2, sp3, cn1, cn2, cn3, cn4, cn5, cn6, jJa, lk0, lk1, jmS, jmN, s4_0, s4_1, s4_2, s4_3, s4_4, sw0, sw1, cKs, cKn, true_and, and_true, List.map_cons, List.map_nil, Nat.reduceAdd, Nat.zero_add, Int.reduceAdd, Nat.reduceEqDiff, reduceIte, Classical.not_not, b_Rd_sum, shH, h83, Int.reduceEq, not_true_eq_false, not_false_eq_true, false_imp_iff, true_imp_iff, and_self]
        (repeat' (first | omega | (with_reducible exact True.intro) | exact ⟨by omega, by omega⟩ | (with_reducible exact Or.inr trivial) | (with_reducible exact Or.inl trivial) | (with_reducible assumption) | (with_reducible exact Same.refl) | (with_reducible rfl) | (with_reducible refine And.intro ?_ ?_) | (with_reducible intro _)))
        exact hQ _ hb3.po
      · rw [hr] at hp ok hQ
        have hg := g1.seq (cs := []) hp.good
        rw [List.nil_append] at hg
        have h1 := PR_ln _ _ _ _ (by omega) _ _ hr
        have hm9 := hg.2.1.m9
        have f2 := hg.f9 h9 h10
        simp only [wR, wB, wE0, wE1, wE2, wE3, g0, gS, s10, s11, s1S, s20, s21, s2S, kl0, kl1, kl2, kl3, sp0, sp1, sp2, sp3, cn1, cn2, cn3, cn4, cn5, cn6, jJa, lk0, lk1, jmS, jmN, s4_0, s4_1, s4_2, s4_3, s4_4, sw0, sw1, cKs, cKn, true_and, and_true, List.map_cons, List.map_nil, Nat.reduceAdd, Nat.zero_add, Int.reduceAdd, Nat.reduceEqDiff, reduceIte, Classical.not_not, b_Rd_sum, shH]
        refine ⟨by omega, (c_Rd_put_g (v := x) (by omega) hz f2.1 hg (by omega) hcc).mono ?_⟩
        rintro r M3 _ ⟨rfl, g3, c3⟩
        have f3 := g3.f9 h9 h10
        simp only [wR, wB, wE0, wE1, wE2, wE3, g0, gS, s10, s11, s1S, s20, s21, s2S, kl0, kl1, kl2, kl3, sp0, sp1, sp2, sp3, cn1, cn2, cn3, cn4, cn5, cn6, jJa, lk0, lk1, jmS, jmN, s4_0, s4_1, s4_2, s4_3, s4_4, sw0, sw1, cKs, cKn, true_and, and_true, List.map_cons, List.map_nil, Nat.reduceAdd, Nat.zero_add, Int.reduceAdd, Nat.reduceEqDiff, reduceIte, Classical.not_not, b_Rd_sum, shH, ce]
        (repeat' (first | omega | (with_reducible exact True.intro) | exact ⟨by omega, by omega⟩ | (with_reducible exact Or.inr trivial) | (with_reducible exact Or.inl trivial) | (with_reducible assumption) | (with_reducible exact Same.refl) | (with_reducible rfl) | (with_reducible refine And.intro ?_ ?_) | (with_reducible intro _)))
        refine ihL d v k1 (c + c1.length + 1) (i + 1) _ _ Q hv hd g3.2.1 f3.1 f3.2 c3 (by omega) (by omega) ok.to.bd fun M' hM' => ?_
        exact hQ _ (PoC.seqx g3 rfl hM')
    rcases q with q | q
    · have a := a52 3000 (by rw [if_pos q])
      rw [e32.mpr q] at h8
      refine AW.run ck_Rd_sum [52] 10 7 ?_
      simp only [wR, wB, wE0, wE1, wE2, wE3, g0, gS, s10, s11, s1S, s20, s21, s2S, kl0, kl1, kl2, kl3, sp0, sp1, sp2, sp3, cn1, cn2, cn3, cn4, cn5, cn6, jJa, lk0, lk1, jmS, jmN, s4_0, s4_1, s4_2, s4_3, s4_4, sw0, sw1, cKs, cKn, true_and, and_true, List.map_cons, List.map_nil, Nat.reduceAdd, Nat.zero_add, Int.reduceAdd, Nat.reduceEqDiff, reduceIte, Classical.not_not, b_Rd_sum, shH, h8, Int.reduceEq, not_true_eq_false, not_false_eq_true, false_imp_iff, true_imp_iff, and_self]
      (repeat' (first | omega | (with_reducible exact True.intro) | exact ⟨by omega, by omega⟩ | (with_reducible exact Or.inr trivial) | (with_reducible exact Or.inl trivial) | (with_reducible assumption) | (with_reducible exact Same.refl) | (with_reducible rfl) | (with_reducible refine And.intro ?_ ?_) | (with_reducible intro _)))
      exact a
    · have a := a52 3001 (by rw [if_neg (by omega)])
      rw [e33.mpr q] at h8
      refine AW.run ck_Rd_sum [52] 10 7 ?_
      simp only [wR, wB, wE0, wE1, wE2, wE3, g0, gS, s10, s11, s1S, s20, s21, s2S, kl0, kl1, kl2, kl3, sp0, sp1, sp2, sp3, cn1, cn2, cn3, cn4, cn5, cn6, jJa, lk0, lk1, jmS, jmN, s4_0, s4_1, s4_2, s4_3, s4_4, sw0, sw1, cKs, cKn, true_and, and_true, List.map_cons, List.map_nil, Nat.reduceAdd, Nat.zero_add, Int.reduceAdd, Nat.reduceEqDiff, reduceIte, Classical.not_not, b_Rd_sum, shH, h8, Int.reduceEq, not_true_eq_false, not_false_eq_true, false_imp_iff, true_imp_iff, and_self]
      (repeat' (first | omega | (with_reducible exact True.intro) | exact ⟨by omega, by omega⟩ | (with_reducible exact Or.inr trivial) | (with_reducible exact Or.inl trivial) | (with_reducible assumption) | (with_reducible exact Same.refl) | (with_reducible rfl) | (with_reducible refine And.intro ?_ ?_) | (with_reducible intro _)))
      exact a
  · rw [if_neg q] at ok hQ
    generalize ck (kin t n (pls t n (k))) = tt at *
    refine AW.run ck_Rd_sum [33] 10 7 ?_
    simp only [wR, wB, wE0, wE1, wE2, wE3, g0, gS, s10, s11, s1S, s20, s21, s2S, kl0, kl1, kl2, kl3, sp0, sp1, sp2, sp3, cn1, cn2, cn3, cn4, cn5, cn6, jJa, lk0, lk1, jmS, jmN, s4_0, s4_1, s4_2, s4_3, s4_4, sw0, sw1, cKs, cKn, true_and, and_true, List.map_cons, List.map_nil, Nat.reduceAdd, Nat.zero_add, Int.reduceAdd, Nat.reduceEqDiff, reduceIte, Classical.not_not, b_Rd_sum, shH, h8]
    have := hQ _ (GdC.refl hA hc).po
    (repeat' (first | omega | (with_reducible exact True.intro) | exact ⟨by omega, by omega⟩ | (with_reducible exact Or.inr trivial) | (with_reducible exact Or.inl trivial) | (with_reducible assumption) | (with_reducible exact Same.refl) | (with_reducible rfl) | (with_reducible refine And.intro ?_ ?_) | (with_reducible intro _)))
theorem c_Rd_sum0 (hz : lwZ z) (ihS : SC G t n m lw z mi_Rd_term 1 2 f) (ihL : SD G t n m lw z mi_Rd_sum 2 1 f (fun v i l => [some (vr 2), some (vi v), some (vi i), l])) : SC G t n m lw z mi_Rd_sum 2 0 (f + 1) := by
  intro d v k c M hv hd hA h9 h10 hc hck ok
  rw [PR_0] at ok ⊢
  refine MS.run ck_Rd_sum [some (vr 2), some (vi v), none, none] [7] 10 fun _ _ => ?_
  simp only [wR, wB, wE0, wE1, wE2, wE3, g0, gS, s10, s11, s1S, s20, s21, s2S, kl0, kl1, kl2, kl3, sp0, sp1, sp2, sp3, cn1, cn2, cn3, cn4, cn5, cn6, jJa, lk0, lk1, jmS, jmN, s4_0, s4_1, s4_2, s4_3, s4_4, sw0, sw1, cKs, cKn, true_and, and_true, List.map_cons, List.map_nil, Nat.reduceAdd, Nat.zero_add, Int.reduceAdd, Nat.reduceEqDiff, reduceIte, Classical.not_not, b_Rd_sum, shH]
  refine ⟨by omega, (ihS (d - 1) v k c M hv (by omega) hA h9 h10 hc hck ok.bd).mono ?_⟩
  rintro r M1 _ ⟨rfl, hp⟩
  simp only [wR, wB, wE0, wE1, wE2, wE3, g0, gS, s10, s11, s1S, s20, s21, s2S, kl0, kl1, kl2, kl3, sp0, sp1, sp2, sp3, cn1, cn2, cn3, cn4, cn5, cn6, jJa, lk0, lk1, jmS, jmN, s4_0, s4_1, s4_2, s4_3, s4_4, sw0, sw1, cKs, cKn, true_and, and_true, List.map_cons, List.map_nil, Nat.reduceAdd, Nat.zero_add, Int.reduceAdd, Nat.reduceEqDiff, reduceIte, Classical.not_not, b_Rd_sum, shH]
  rcases rs_cases (PR t n lw f 2 v k) with ⟨w, k1, hr⟩ | ⟨k1, c1, hr⟩
  · rw [hr] at hp ok ⊢
    have hb := hp.bad
    have h8 := hb.2.2.2.1
    refine AW.run ck_Rd_sum [33] 10 7 ?_
    simp only [wR, wB, wE0, wE1, wE2, wE3, g0, gS, s10, s11, s1S, s20, s21, s2S, kl0, kl1, kl2, kl3, sp0, sp1, sp2, sp3, cn1, cn2, cn3, cn4, cn5, cn6, jJa, lk0, lk1, jmS, jmN, s4_0, s4_1, s4_2, s4_3, s4_4, sw0, sw1, cKs, cKn, true_and, and_true, List.map_cons, List.map_nil, Nat.reduceAdd, Nat.zero_add, Int.reduceAdd, Nat.reduceEqDiff, reduceIte, Classical.not_not, b_Rd_sum, shH, h8, Int.reduceEq, not_true_eq_false, not_false_eq_true, false_imp_iff, true_imp_iff, and_self]
    (repeat' (first | omega | (with_reducible exact True.intro) | exact ⟨by omega, by omega⟩ | (with_reducible exact Or.inr trivial) | (with_reducible exact Or.inl trivial) | (with_reducible assumption) | (with_reducible exact Same.refl) | (with_reducible rfl) | (with_reducible refine And.intro ?_ ?_) | (with_reducible intro _)))
    exact hp
  · rw [hr] at hp ok ⊢
    have hg := hp.good
    have h1 := PR_ln _ _ _ _ (by omega) _ _ hr
    have ff := hg.f9 h9 h10
    refine ihL d v k1 (c + c1.length) 0 M1 none _ hv hd hg.2.1 ff.1 ff.2 hg.2.2.1 (by omega) (by omega) ok.to.bd fun M' hM' => ?_
    exact ⟨rfl, PoC.seq hg hM'⟩
theorem c_Rd_comparison0 {d v k c : Nat} {M : AM} (hz : lwZ z) (ihS : SC G t n m lw z mi_Rd_sum 2 0 f) (hv : v ≤ 6) (hd : 8 * (6 - v) + 6 + 3 ≤ d) (hA : AtC M t n m k) (h9 : M 2 9 = z) (h10 : M 2 10 = (if lw = 0 then 1 else 0)) (hc : M z 1 = (c : Int)) (hck : c ≤ k) (ok : okR (PRc t n lw f v k)) :
    MS G d mi_Rd_comparison [vr 2, vi v] M (fun r M' => r = none ∧ PoC t n m z c M M' (PRc t n lw f v k)) := by
  refine MS.by ck_Rd_comparison [some (vr 2), some (vi v), none] fun _ _ => ?_
  generalize hQ : (fun (r : Option AV) (M' : AM) => r = none ∧ PoC t n m z c M M' (PRc t n lw f v k)) = Q
  have hq : ∀ M', PoC t n m z c M M' (PRc t n lw f v k) → Q none M' := by
    intro M' h
    rw [← hQ]
    exact ⟨rfl, h⟩
  clear hQ
  unfold PRc at ok hq
  refine AW.run ck_Rd_comparison [59] 12 0 ?_
  simp only [wR, wB, wE0, wE1, wE2, wE3, g0, gS, s10, s11, s1S, s20, s21, s2S, kl0, kl1, kl2, kl3, sp0, sp1, sp2, sp3, cn1, cn2, cn3, cn4, cn5, cn6, jJa, lk0, lk1, jmS, jmN, s4_0, s4_1, s4_2, s4_3, s4_4, sw0, sw1, cKs, cKn, true_and, and_true, List.map_cons, List.map_nil, Nat.reduceAdd, Nat.zero_add, Int.reduceAdd, Nat.reduceEqDiff, reduceIte, Classical.not_not, b_Rd_comparison, shH]
  refine ⟨by omega, (ihS (d - 1) v k c M hv (by omega) hA h9 h10 hc hck ok.bd).mono ?_⟩
  rintro r M1 _ ⟨rfl, hp⟩
  rcases rs_cases (PR t n lw f 0 v k) with ⟨w, k1, hr⟩ | ⟨k1, c1, hr⟩
  · rw [hr] at hp ok hq
    have hb := hp.bad
    have h8 := hb.2.2.2.1
    simp only [wR, wB, wE0, wE1, wE2, wE3, g0, gS, s10, s11, s1S, s20, s21, s2S, kl0, kl1, kl2, kl3, sp0, sp1, sp2, sp3, cn1, cn2, cn3, cn4, cn5, cn6, jJa, lk0, lk1, jmS, jmN, s4_0, s4_1, s4_2, s4_3, s4_4, sw0, sw1, cKs, cKn, true_and, and_true, List.map_cons, List.map_nil, Nat.reduceAdd, Nat.zero_add, Int.reduceAdd, Nat.reduceEqDiff, reduceIte, Classical.not_not, b_Rd_comparison, shH, h8, Int.reduceEq, not_true_eq_false, not_false_eq_true, false_imp_iff, true_imp_iff, and_self]
    refine ⟨by omega, MS.to (c_Rd_refuse_g hb.ne h8) fun _ => ?_⟩
    simp only [wR, wB, wE0, wE1, wE2, wE3, g0, gS, s10, s11, s1S, s20, s21, s2S, kl0, kl1, kl2, kl3, sp0, sp1, sp2, sp3, cn1, cn2, cn3, cn4, cn5, cn6, jJa, lk0, lk1, jmS, jmN, s4_0, s4_1, s4_2, s4_3, s4_4, sw0, sw1, cKs, cKn, true_and, and_true, List.map_cons, List.map_nil, Nat.reduceAdd, Nat.zero_add, Int.reduceAdd, Nat.reduceEqDiff, reduceIte, Classical.not_not, b_Rd_comparison, shH]
    exact hq _ hb.po
  rw [hr] at hp ok hq
  rw [good_bd] at ok hq
  have h1 := PR_ln _ _ _ _ (by omega) _ _ hr
  have g1 := hp.good
  have hA1 := g1.2.1
  have m9 := hA1.m9
  have h8 := hA1.2.2.2.1
  have e39 := ckq (kk := kin t n (pls t n (k1))) (x := 39) (v := 161) kin_v (by unfold vK; omega) (by decide +kernel)
  have e40 := ckq (kk := kin t n (pls t n (k1))) (x := 40) (v := 160) kin_v (by unfold vK; omega) (by decide +kernel)
  have e41 := ckq (kk := kin t n (pls t n (k1))) (x := 41) (v := 162) kin_v (by unfold vK; omega) (by decide +kernel)
  by_cases q1 : kin t n (pls t n (k1)) = 39 ∨ kin t n (pls t n (k1)) = 40 ∨ kin t n (pls t n (k1)) = 41
  · rw [if_pos q1] at ok hq
    have a59 : ∀ x : Int, x = (if kin t n (pls t n (k1)) = 39 then 3003 else if kin t n (pls t n (k1)) = 40 then 3004 else 3005) → AW G d mi_Rd_comparison Q 59 [some (vr 2), some (vi v), some (vi (x - 1000))] [] M1 := by
      intro x hx
      rw [← hx] at hq
      have hx3 : 3003 ≤ x ∧ x ≤ 3005 := by rw [hx]; split <;> (try split) <;> omega
      have hcc : x - 1000 = cc x := by unfold cc; rw [if_neg (by omega)]
      clear hx
      refine AW.run ck_Rd_comparison [] 12 59 ?_
      simp only [wR, wB, wE0, wE1, wE2, wE3, g0, gS, s10, s11, s1S, s20, s21, s2S, kl0, kl1, kl2, kl3, sp0, sp1, sp2, sp3, cn1, cn2, cn3, cn4, cn5, cn6, jJa, lk0, lk1, jmS, jmN, s4_0, s4_1, s4_2, s4_3, s4_4, sw0, sw1, cKs, cKn, true_and, and_true, List.map_cons, List.map_nil, Nat.reduceAdd, Nat.zero_add, Int.reduceAdd, Nat.reduceEqDiff, reduceIte, Classical.not_not, b_Rd_comparison, shH]
      refine ⟨by omega, (c_Rd_next hA1 (by omega)).mono ?_⟩
      rintro r M2 _ ⟨rfl, hA2, e2⟩
      have g2 : GdC t n m z c M M2 (k1 + 1) c1 := by
        rw [e2] at hA2 ⊢
        exact g1.step hz hA2
      have f2 := g2.f9 h9 h10
      simp only [wR, wB, wE0, wE1, wE2, wE3, g0, gS, s10, s11, s1S, s20, s21, s2S, kl0, kl1, kl2, kl3, sp0, sp1, sp2, sp3, cn1, cn2, cn3, cn4, cn5, cn6, jJa, lk0, lk1, jmS, jmN, s4_0, s4_1, s4_2, s4_3, s4_4, sw0, sw1, cKs, cKn, true_and, and_true, List.map_cons, List.map_nil, Nat.reduceAdd, Nat.zero_add, Int.reduceAdd, Nat.reduceEqDiff, reduceIte, Classical.not_not, b_Rd_comparison, shH]
      refine ⟨by omega, (ihS (d - 1) v (k1 + 1) (c + c1.length) M2 hv (by omega) hA2 f2.1 f2.2 g2.2.2.1 (by omega) ok.bd).mono ?_⟩
      rintro r M3 _ ⟨rfl, hp3⟩
      rcases rs_cases (PR t n lw f 0 v (k1 + 1)) with ⟨w, k2, hr2⟩ | ⟨k2, c2, hr2⟩
      · rw [hr2] at hp3 hq
        have hb := BdC.of g2.1 hp3.bad
        simp only [wR, wB, wE0, wE1, wE2, wE3, g0, gS, s10, s11, s1S, s20, s21, s2S, kl0, kl1, kl2, kl3, sp0, sp1, sp2, sp3, cn1, cn2, cn3, cn4, cn5, cn6, jJa, lk0, lk1, jmS, jmN, s4_0, s4_1, s4_2, s4_3, s4_4, sw0, sw1, cKs, cKn, true_and, and_true, List.map_cons, List.map_nil, Nat.reduceAdd, Nat.zero_add, Int.reduceAdd, Nat.reduceEqDiff, reduceIte, Classical.not_not, b_Rd_comparison, shH]
        refine ⟨by omega, (c_Rd_put_f (by omega) hz (hb.f9 h9) hb).mono ?_⟩
        rintro r M4 _ ⟨rfl, hb4⟩
        simp only [wR, wB, wE0, wE1, wE2, wE3, g0, gS, s10, s11, s1S, s20, s21, s2S, kl0, kl1, kl2, kl3, sp0, sp1, sp2, sp3, cn1, cn2, cn3, cn4, cn5, cn6, jJa, lk0, lk1, jmS, jmN, s4_0, s4_1, s4_2, s4_3, s4_4, sw0, sw1, cKs, cKn, true_and, and_true, List.map_cons, List.map_nil, Nat.reduceAdd, Nat.zero_add, Int.reduceAdd, Nat.reduceEqDiff, reduceIte, Classical.not_not, b_Rd_comparison, shH]
        exact hq _ hb4.po
      rw [hr2] at hp3 hq
      rw [good_bd] at hq
      have n2 := PR_ln _ _ _ _ (by omega) _ _ hr2
      have g3 := g2.seq hp3.good
      have m93 := g3.2.1.m9
      have f3 := g3.f9 h9 h10
      simp only [wR, wB, wE0, wE1, wE2, wE3, g0, gS, s10, s11, s1S, s20, s21, s2S, kl0, kl1, kl2, kl3, sp0, sp1, sp2, sp3, cn1, cn2, cn3, cn4, cn5, cn6, jJa, lk0, lk1, jmS, jmN, s4_0, s4_1, s4_2, s4_3, s4_4, sw0, sw1, cKs, cKn, true_and, and_true, List.map_cons, List.map_nil, Nat.reduceAdd, Nat.zero_add, Int.reduceAdd, Nat.reduceEqDiff, reduceIte, Classical.not_not, b_Rd_comparison, shH]
      refine ⟨by omega, (c_Rd_put_g (v := x) (by omega) hz f3.1 g3 (by rw [List.length_append]; omega) hcc).mono ?_⟩
      rintro r M4 _ ⟨rfl, g4, _⟩
      simp only [wR, wB, wE0, wE1, wE2, wE3, g0, gS, s10, s11, s1S, s20, s21, s2S, kl0, kl1, kl2, kl3, sp0, sp1, sp2, sp3, cn1, cn2, cn3, cn4, cn5, cn6, jJa, lk0, lk1, jmS, jmN, s4_0, s4_1, s4_2, s4_3, s4_4, sw0, sw1, cKs, cKn, true_and, and_true, List.map_cons, List.map_nil, Nat.reduceAdd, Nat.zero_add, Int.reduceAdd, Nat.reduceEqDiff, reduceIte, Classical.not_not, b_Rd_comparison, shH]
      rw [List.append_assoc] at g4
      exact hq _ g4.po
    rcases q1 with q1 | q1 | q1
    · have a := a59 3003 (by rw [if_pos q1])
      rw [e39.mpr q1] at h8
      simp only [wR, wB, wE0, wE1, wE2, wE3, g0, gS, s10, s11, s1S, s20, s21, s2S, kl0, kl1, kl2, kl3, sp0, sp1, sp2, sp3, cn1, cn2, cn3, cn4, cn5, cn6, jJa, lk0, lk1, jmS, jmN, s4_0, s4_1, s4_2, s4_3, s4_4, sw0, sw1, cKs, cKn, true_and, and_true, List.map_cons, List.map_nil, Nat.reduceAdd, Nat.zero_add, Int.reduceAdd, Nat.reduceEqDiff, reduceIte, Classical.not_not, b_Rd_comparison, shH, h8, Int.reduceEq, not_true_eq_false, not_false_eq_true, false_imp_iff, true_imp_iff, and_self]
      exact a
    · have a := a59 3004 (by rw [if_neg (by omega), if_pos q1])
      rw [e40.mpr q1] at h8
      simp only [wR, wB, wE0, wE1, wE2, wE3, g0, gS, s10, s11, s1S, s20, s21, s2S, kl0, kl1, kl2, kl3, sp0, sp1, sp2, sp3, cn1, cn2, cn3, cn4, cn5, cn6, jJa, lk0, lk1, jmS, jmN, s4_0, s4_1, s4_2, s4_3, s4_4, sw0, sw1, cKs, cKn, true_and, and_true, List.map_cons, List.map_nil, Nat.reduceAdd, Nat.zero_add, Int.reduceAdd, Nat.reduceEqDiff, reduceIte, Classical.not_not, b_Rd_comparison, shH, h8, Int.reduceEq, not_true_eq_false, not_false_eq_true, false_imp_iff, true_imp_iff, and_self]
      exact a
    · have a := a59 3005 (by rw [if_neg (by omega), if_neg (by omega)])
      rw [e41.mpr q1] at h8
      simp only [wR, wB, wE0, wE1, wE2, wE3, g0, gS, s10, s11, s1S, s20, s21, s2S, kl0, kl1, kl2, kl3, sp0, sp1, sp2, sp3, cn1, cn2, cn3, cn4, cn5, cn6, jJa, lk0, lk1, jmS, jmN, s4_0, s4_1, s4_2, s4_3, s4_4, sw0, sw1, cKs, cKn, true_and, and_true, List.map_cons, List.map_nil, Nat.reduceAdd, Nat.zero_add, Int.reduceAdd, Nat.reduceEqDiff, reduceIte, Classical.not_not, b_Rd_comparison, shH, h8, Int.reduceEq, not_true_eq_false, not_false_eq_true, false_imp_iff, true_imp_iff, and_self]
      exact a
  · rw [if_neg q1] at hq
    have hb := BdC.mk' (w := 2) hz g1 (by omega) (by omega)
    have hrf := c_Rd_refuse (G := G) (d := d - 1) (w := 2) hA1
    have hq' := hq _ hb.po
    generalize up (up (up M1 2 0 _) 2 1 _) 2 8 23 = M9 at hrf hq'
    generalize ck (kin t n (pls t n (k1))) = tt at h8 e39 e40 e41
    simp only [wR, wB, wE0, wE1, wE2, wE3, g0, gS, s10, s11, s1S, s20, s21, s2S, kl0, kl1, kl2, kl3, sp0, sp1, sp2, sp3, cn1, cn2, cn3, cn4, cn5, cn6, jJa, lk0, lk1, jmS, jmN, s4_0, s4_1, s4_2, s4_3, s4_4, sw0, sw1, cKs, cKn, true_and, and_true, List.map_cons, List.map_nil, Nat.reduceAdd, Nat.zero_add, Int.reduceAdd, Nat.reduceEqDiff, reduceIte, Classical.not_not, b_Rd_comparison, shH, h8]
    (repeat' (first | omega | (with_reducible exact True.intro) | exact ⟨by omega, by omega⟩ | (with_reducible exact Or.inr trivial) | (with_reducible exact Or.inl trivial) | (with_reducible assumption) | (with_reducible exact Same.refl) | (with_reducible rfl) | (with_reducible refine And.intro ?_ ?_) | (with_reducible intro _)))
    refine MS.to hrf fun _ => ?_
    simp only [wR, wB, wE0, wE1, wE2, wE3, g0, gS, s10, s11, s1S, s20, s21, s2S, kl0, kl1, kl2, kl3, sp0, sp1, sp2, sp3, cn1, cn2, cn3, cn4, cn5, cn6, jJa, lk0, lk1, jmS, jmN, s4_0, s4_1, s4_2, s4_3, s4_4, sw0, sw1, cKs, cKn, true_and, and_true, List.map_cons, List.map_nil, Nat.reduceAdd, Nat.zero_add, Int.reduceAdd, Nat.reduceEqDiff, reduceIte, Classical.not_not, b_Rd_comparison]
    exact hq'
end QC
