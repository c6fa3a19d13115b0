section QB
variable {G : AG} {t : Nat → Nat} {n m lw f : Nat} {z : Int}
def SC (G : AG) (t : Nat → Nat) (n m lw : Nat) (z : Int) (mi : MI) (off md f : Nat) : Prop := ∀ (d v k c : Nat) (M : AM), v ≤ 6 → 8 * (6 - v) + 6 + off ≤ d → AtC M t n m k → M 2 9 = z → M 2 10 = (if lw = 0 then 1 else 0) → M z 1 = (c : Int) → c ≤ k → okR (PR t n lw f md v k) → MS G d mi [vr 2, vi v] M (fun r M' => r = none ∧ PoC t n m z c M M' (PR t n lw f md v k))
def SD (G : AG) (t : Nat → Nat) (n m lw : Nat) (z : Int) (mi : MI) (off md f : Nat) (L : Nat → Nat → Option AV → AL) : Prop := ∀ (d v k c i : Nat) (M : AM) (l : Option AV) (Q : Option AV → AM → Prop), v ≤ 6 → 8 * (6 - v) + 6 + off ≤ d → AtC M t n m k → M 2 9 = z → M 2 10 = (if lw = 0 then 1 else 0) → M z 1 = (c : Int) → c ≤ k → i ≤ k → okR (PR t n lw f md v k) → (∀ M', PoC t n m z c M M' (PR t n lw f md v k) → Q none M') → AW G d mi Q 7 (L v i l) [] M
theorem AtC.m9 {M : AM} {k : Nat} (h : AtC M t n m k) : k ≤ 900 := by
  have := h.1.1
  have := h.2.1
  omega
theorem GdC.f9 {M N : AM} {k c : Nat} {cs : List Int} (g : GdC t n m z c M N k cs) (h9 : M 2 9 = z) (h10 : M 2 10 = (if lw = 0 then 1 else 0)) : N 2 9 = z ∧ N 2 10 = (if lw = 0 then 1 else 0) := ⟨by rw [g.1.2.1 9 (by omega) (by omega) (by omega) (by omega)]; exact h9, by rw [g.1.2.1 10 (by omega) (by omega) (by omega) (by omega)]; exact h10⟩
theorem BdC.f9 {M N : AM} {k w : Nat} (g : BdC t n z M N w k) (h9 : M 2 9 = z) : N 2 9 = z := by rw [g.1.2.1 9 (by omega) (by omega) (by omega) (by omega)]; exact h9
theorem c_Rd_termL0 (hz : lwZ z) (ihS : SC G t n m lw z mi_Rd_atom 0 4 f) (ihL : SD G t n m lw z mi_Rd_term 1 3 f (fun v i _ => [some (vr 2), some (vi v), some (vi i)])) : SD G t n m lw z mi_Rd_term 1 3 (f + 1) (fun v i _ => [some (vr 2), some (vi v), some (vi i)]) := by
  intro d v k c i M l Q hv hd hA h9 h10 hc hck hik ok hQ
  have m9 := hA.m9
  have h8 := hA.2.2.2.1
  have eT := ckq (kk := kin t n (pls t n (k))) (x := 34) (v := 142) kin_v (by unfold vK; omega) (by decide +kernel)
  rw [PR_3] at ok hQ
  by_cases q : kin t n (pls t n (k)) = 34
  · rw [if_pos q] at ok hQ
    have h8' := h8
    rw [eT.mpr q] at h8'
    refine AW.run ck_Rd_term [7] 10 7 ?_
    simp only [wR, wB, wE0, wE1, wE2, wE3, g0, gS, s10, s11, s1S, s20, s21, s2S, kl0, kl1, kl2, kl3, sp0, sp1, sp2, sp3, cn1, cn2, cn3, cn4, cn5, cn6, jJa, lk0, lk1, jmS, jmN, s4_0, s4_1, s4_2, s4_3, s4_4, sw0, sw1, cKs, cKn, true_and, and_true, List.map_cons, List.map_nil, Nat.reduceAdd, Nat.zero_add, Int.reduceAdd, Nat.reduceEqDiff, reduceIte, Classical.not_not, b_Rd_term, shH, h8', Int.reduceEq, not_true_eq_false, not_false_eq_true, false_imp_iff, true_imp_iff, and_self]
    (repeat' (first | omega | (with_reducible exact True.intro) | exact ⟨by omega, by omega⟩ | (with_reducible exact Or.inr trivial) | (with_reducible exact Or.inl trivial) | (with_reducible assumption) | (with_reducible exact Same.refl) | (with_reducible rfl) | (with_reducible refine And.intro ?_ ?_) | (with_reducible intro _)))
    refine (c_Rd_next hA (by omega)).mono ?_
    rintro r M1 _ ⟨rfl, hA1, e1⟩
    have g1 : GdC t n m z c M M1 (k + 1) [] := by
      rw [e1] at hA1 ⊢
      exact (GdC.refl hA hc).step hz hA1
    have f1 := g1.f9 h9 h10
    simp only [wR, wB, wE0, wE1, wE2, wE3, g0, gS, s10, s11, s1S, s20, s21, s2S, kl0, kl1, kl2, kl3, sp0, sp1, sp2, sp3, cn1, cn2, cn3, cn4, cn5, cn6, jJa, lk0, lk1, jmS, jmN, s4_0, s4_1, s4_2, s4_3, s4_4, sw0, sw1, cKs, cKn, true_and, and_true, List.map_cons, List.map_nil, Nat.reduceAdd, Nat.zero_add, Int.reduceAdd, Nat.reduceEqDiff, reduceIte, Classical.not_not, b_Rd_term, Int.reduceEq, not_true_eq_false, not_false_eq_true, false_imp_iff, true_imp_iff, and_self, shH]
    refine ⟨by omega, (ihS (d - 1) v (k + 1) c M1 hv (by omega) hA1 f1.1 f1.2 g1.2.2.1 (by omega) ok.bd).mono ?_⟩
    rintro r M2 _ ⟨rfl, hp⟩
    rcases rs_cases (PR t n lw f 4 v (k + 1)) with ⟨w, k1, hr⟩ | ⟨k1, c1, hr⟩
    · rw [hr] at hp ok hQ
      have hb := BdC.of g1.1 hp.bad
      simp only [wR, wB, wE0, wE1, wE2, wE3, g0, gS, s10, s11, s1S, s20, s21, s2S, kl0, kl1, kl2, kl3, sp0, sp1, sp2, sp3, cn1, cn2, cn3, cn4, cn5, cn6, jJa, lk0, lk1, jmS, jmN, s4_0, s4_1, s4_2, s4_3, s4_4, sw0, sw1, cKs, cKn, true_and, and_true, List.map_cons, List.map_nil, Nat.reduceAdd, Nat.zero_add, Int.reduceAdd, Nat.reduceEqDiff, reduceIte, Classical.not_not, b_Rd_term, shH]
      refine ⟨by omega, (c_Rd_put_f (by omega) hz (hb.f9 h9) hb).mono ?_⟩
      rintro r M3 _ ⟨rfl, hb3⟩
      have h83 := hb3.2.2.2.1
      simp only [wR, wB, wE0, wE1, wE2, wE3, g0, gS, s10, s11, s1S, s20, s21, s2S, kl0, kl1, kl2, kl3, sp0, sp1, sp2, sp3, cn1, cn2, cn3, cn4, cn5, cn6, jJa, lk0, lk1, jmS, jmN, s4_0, s4_1, s4_2, s4_3, s4_4, sw0, sw1, cKs, cKn, true_and, and_true, List.map_cons, List.map_nil, Nat.reduceAdd, Nat.zero_add, Int.reduceAdd, Nat.reduceEqDiff, reduceIte, Classical.not_not, b_Rd_term, shH, ce]
      (repeat' (first | omega | (with_reducible exact True.intro) | exact ⟨by omega, by omega⟩ | (with_reducible exact Or.inr trivial) | (with_reducible exact Or.inl trivial) | (with_reducible assumption) | (with_reducible exact Same.refl) | (with_reducible rfl) | (with_reducible refine And.intro ?_ ?_) | (with_reducible intro _)))
      refine AW.run ck_Rd_term [] 10 7 ?_
      simp only [wR, wB, wE0, wE1, wE2, wE3, g0, gS, s10, s11, s1S, s20, s21, s2S, kl0, kl1, kl2, kl3, sp0, sp1, sp2, sp3, cn1, cn2, cn3, cn4, cn5, cn6, jJa, lk0, lk1, jmS, jmN, s4_0, s4_1, s4_2, s4_3, s4_4, sw0, sw1, cKs, cKn, true_and, and_true, List.map_cons, List.map_nil, Nat.reduceAdd, Nat.zero_add, Int.reduceAdd, Nat.reduceEqDiff, reduceIte, Classical.not_not, b_Rd_term, shH, h83, Int.reduceEq, not_true_eq_false, not_false_eq_true, false_imp_iff, true_imp_iff, and_self]
      (repeat' (first | omega | (with_reducible exact True.intro) | exact ⟨by omega, by omega⟩ | (with_reducible exact Or.inr trivial) | (with_reducible exact Or.inl trivial) | (with_reducible assumption) | (with_reducible exact Same.refl) | (with_reducible rfl) | (with_reducible refine And.intro ?_ ?_) | (with_reducible intro _)))
      exact hQ _ hb3.po
    · rw [hr] at hp ok hQ
      have hg := g1.seq (cs := []) hp.good
      rw [List.nil_append] at hg
      have h1 := PR_ln _ _ _ _ (by omega) _ _ hr
      have hm9 := hg.2.1.m9
      have f2 := hg.f9 h9 h10
      simp only [wR, wB, wE0, wE1, wE2, wE3, g0, gS, s10, s11, s1S, s20, s21, s2S, kl0, kl1, kl2, kl3, sp0, sp1, sp2, sp3, cn1, cn2, cn3, cn4, cn5, cn6, jJa, lk0, lk1, jmS, jmN, s4_0, s4_1, s4_2, s4_3, s4_4, sw0, sw1, cKs, cKn, true_and, and_true, List.map_cons, List.map_nil, Nat.reduceAdd, Nat.zero_add, Int.reduceAdd, Nat.reduceEqDiff, reduceIte, Classical.not_not, b_Rd_term, shH]
      refine ⟨by omega, (c_Rd_put_g (v := 3002) (by omega) hz f2.1 hg (by omega) (by decide)).mono ?_⟩
      rintro r M3 _ ⟨rfl, g3, c3⟩
      have f3 := g3.f9 h9 h10
      simp only [wR, wB, wE0, wE1, wE2, wE3, g0, gS, s10, s11, s1S, s20, s21, s2S, kl0, kl1, kl2, kl3, sp0, sp1, sp2, sp3, cn1, cn2, cn3, cn4, cn5, cn6, jJa, lk0, lk1, jmS, jmN, s4_0, s4_1, s4_2, s4_3, s4_4, sw0, sw1, cKs, cKn, true_and, and_true, List.map_cons, List.map_nil, Nat.reduceAdd, Nat.zero_add, Int.reduceAdd, Nat.reduceEqDiff, reduceIte, Classical.not_not, b_Rd_term, shH, ce]
      (repeat' (first | omega | (with_reducible exact True.intro) | exact ⟨by omega, by omega⟩ | (with_reducible exact Or.inr trivial) | (with_reducible exact Or.inl trivial) | (with_reducible assumption) | (with_reducible exact Same.refl) | (with_reducible rfl) | (with_reducible refine And.intro ?_ ?_) | (with_reducible intro _)))
      refine ihL d v k1 (c + c1.length + 1) (i + 1) _ none Q hv hd g3.2.1 f3.1 f3.2 c3 (by omega) (by omega) ok.to.bd fun M' hM' => ?_
      exact hQ _ (PoC.seqx g3 rfl hM')
  · rw [if_neg q] at ok hQ
    generalize ck (kin t n (pls t n (k))) = tt at *
    refine AW.run ck_Rd_term [] 10 7 ?_
    simp only [wR, wB, wE0, wE1, wE2, wE3, g0, gS, s10, s11, s1S, s20, s21, s2S, kl0, kl1, kl2, kl3, sp0, sp1, sp2, sp3, cn1, cn2, cn3, cn4, cn5, cn6, jJa, lk0, lk1, jmS, jmN, s4_0, s4_1, s4_2, s4_3, s4_4, sw0, sw1, cKs, cKn, true_and, and_true, List.map_cons, List.map_nil, Nat.reduceAdd, Nat.zero_add, Int.reduceAdd, Nat.reduceEqDiff, reduceIte, Classical.not_not, b_Rd_term, shH, h8]
    have := hQ _ (GdC.refl hA hc).po
    (repeat' (first | omega | (with_reducible exact True.intro) | exact ⟨by omega, by omega⟩ | (with_reducible exact Or.inr trivial) | (with_reducible exact Or.inl trivial) | (with_reducible assumption) | (with_reducible exact Same.refl) | (with_reducible rfl) | (with_reducible refine And.intro ?_ ?_) | (with_reducible intro _)))
theorem c_Rd_term0 (hz : lwZ z) (ihS : SC G t n m lw z mi_Rd_atom 0 4 f) (ihL : SD G t n m lw z mi_Rd_term 1 3 f (fun v i _ => [some (vr 2), some (vi v), some (vi i)])) : SC G t n m lw z mi_Rd_term 1 2 (f + 1) := by
  intro d v k c M hv hd hA h9 h10 hc hck ok
  rw [PR_2] at ok ⊢
  refine MS.run ck_Rd_term [some (vr 2), some (vi v), none] [7] 10 fun _ _ => ?_
  simp only [wR, wB, wE0, wE1, wE2, wE3, g0, gS, s10, s11, s1S, s20, s21, s2S, kl0, kl1, kl2, kl3, sp0, sp1, sp2, sp3, cn1, cn2, cn3, cn4, cn5, cn6, jJa, lk0, lk1, jmS, jmN, s4_0, s4_1, s4_2, s4_3, s4_4, sw0, sw1, cKs, cKn, true_and, and_true, List.map_cons, List.map_nil, Nat.reduceAdd, Nat.zero_add, Int.reduceAdd, Nat.reduceEqDiff, reduceIte, Classical.not_not, b_Rd_term, shH]
  refine ⟨by omega, (ihS (d - 1) v k c M hv (by omega) hA h9 h10 hc hck ok.bd).mono ?_⟩
  rintro r M1 _ ⟨rfl, hp⟩
  simp only [wR, wB, wE0, wE1, wE2, wE3, g0, gS, s10, s11, s1S, s20, s21, s2S, kl0, kl1, kl2, kl3, sp0, sp1, sp2, sp3, cn1, cn2, cn3, cn4, cn5, cn6, jJa, lk0, lk1, jmS, jmN, s4_0, s4_1, s4_2, s4_3, s4_4, sw0, sw1, cKs, cKn, true_and, and_true, List.map_cons, List.map_nil, Nat.reduceAdd, Nat.zero_add, Int.reduceAdd, Nat.reduceEqDiff, reduceIte, Classical.not_not, b_Rd_term, shH]
  rcases rs_cases (PR t n lw f 4 v k) with ⟨w, k1, hr⟩ | ⟨k1, c1, hr⟩
  · rw [hr] at hp ok ⊢
    have hb := hp.bad
    have h8 := hb.2.2.2.1
    refine AW.run ck_Rd_term [] 10 7 ?_
    simp only [wR, wB, wE0, wE1, wE2, wE3, g0, gS, s10, s11, s1S, s20, s21, s2S, kl0, kl1, kl2, kl3, sp0, sp1, sp2, sp3, cn1, cn2, cn3, cn4, cn5, cn6, jJa, lk0, lk1, jmS, jmN, s4_0, s4_1, s4_2, s4_3, s4_4, sw0, sw1, cKs, cKn, true_and, and_true, List.map_cons, List.map_nil, Nat.reduceAdd, Nat.zero_add, Int.reduceAdd, Nat.reduceEqDiff, reduceIte, Classical.not_not, b_Rd_term, shH, h8, Int.reduceEq, not_true_eq_false, not_false_eq_true, false_imp_iff, true_imp_iff, and_self]
    (repeat' (first | omega | (with_reducible exact True.intro) | exact ⟨by omega, by omega⟩ | (with_reducible exact Or.inr trivial) | (with_reducible exact Or.inl trivial) | (with_reducible assumption) | (with_reducible exact Same.refl) | (with_reducible rfl) | (with_reducible refine And.intro ?_ ?_) | (with_reducible intro _)))
    exact hp
  · rw [hr] at hp ok ⊢
    have hg := hp.good
    have h1 := PR_ln _ _ _ _ (by omega) _ _ hr
    have ff := hg.f9 h9 h10
    refine ihL d v k1 (c + c1.length) 0 M1 none _ hv hd hg.2.1 ff.1 ff.2 hg.2.2.1 (by omega) (by omega) ok.to.bd fun M' hM' => ?_
    exact ⟨rfl, PoC.seq hg hM'⟩
theorem c_Rd_bothL0 (hz : lwZ z) (ihS : SC G t n m lw z mi_Rd_unit 4 9 f) (ihL : SD G t n m lw z mi_Rd_both 5 8 f (fun v i _ => [some (vr 2), some (vi v), some (vi i)])) : SD G t n m lw z mi_Rd_both 5 8 (f + 1) (fun v i _ => [some (vr 2), some (vi v), some (vi i)]) := by
  intro d v k c i M l Q hv hd hA h9 h10 hc hck hik ok hQ
  have m9 := hA.m9
  have h8 := hA.2.2.2.1
  have eT := ckq (kk := kin t n (pls t n (k))) (x := 17) (v := 17) kin_v (by unfold vK; omega) (by decide +kernel)
  rw [PR_8] at ok hQ
  by_cases q : kin t n (pls t n (k)) = 17
  · rw [if_pos q] at ok hQ
    have h8' := h8
    rw [eT.mpr q] at h8'
    refine AW.run ck_Rd_both [7] 10 7 ?_
    simp only [wR, wB, wE0, wE1, wE2, wE3, g0, gS, s10, s11, s1S, s20, s21, s2S, kl0, kl1, kl2, kl3, sp0, sp1, sp2, sp3, cn1, cn2, cn3, cn4, cn5, cn6, jJa, lk0, lk1, jmS, jmN, s4_0, s4_1, s4_2, s4_3, s4_4, sw0, sw1, cKs, cKn, true_and, and_true, List.map_cons, List.map_nil, Nat.reduceAdd, Nat.zero_add, Int.reduceAdd, Nat.reduceEqDiff, reduceIte, Classical.not_not, b_Rd_both, shH, h8', Int.reduceEq, not_true_eq_false, not_false_eq_true, false_imp_iff, true_imp_iff, and_self]
    (repeat' (first | omega | (with_reducible exact True.intro) | exact ⟨by omega, by omega⟩ | (with_reducible exact Or.inr trivial) | (with_reducible exact Or.inl trivial) | (with_reducible assumption) | (with_reducible exact Same.refl) | (with_reducible rfl) | (with_reducible refine And.intro ?_ ?_) | (with_reducible intro _)))
    refine (c_Rd_next hA (by omega)).mono ?_
    rintro r M1 _ ⟨rfl, hA1, e1⟩
    have g1 : GdC t n m z c M M1 (k + 1) [] := by
      rw [e1] at hA1 ⊢
      exact (GdC.refl hA hc).step hz hA1
    have f1 := g1.f9 h9 h10
    simp only [wR, wB, wE0, wE1, wE2, wE3, g0, gS, s10, s11, s1S, s20, s21, s2S, kl0, kl1, kl2, kl3, sp0, sp1, sp2, sp3, cn1, cn2, cn3, cn4, cn5, cn6, jJa, lk0, lk1, jmS, jmN, s4_0, s4_1, s4_2, s4_3, s4_4, sw0, sw1, cKs, cKn, true_and, and_true, List.map_cons, List.map_nil, Nat.reduceAdd, Nat.zero_add, Int.reduceAdd, Nat.reduceEqDiff, reduceIte, Classical.not_not, b_Rd_both, Int.reduceEq, not_true_eq_false, not_false_eq_true, false_imp_iff, true_imp_iff, and_self, shH]
    refine ⟨by omega, (ihS (d - 1) v (k + 1) c M1 hv (by omega) hA1 f1.1 f1.2 g1.2.2.1 (by omega) ok.bd).mono ?_⟩
    rintro r M2 _ ⟨rfl, hp⟩
    rcases rs_cases (PR t n lw f 9 v (k + 1)) with ⟨w, k1, hr⟩ | ⟨k1, c1, hr⟩
    · rw [hr] at hp ok hQ
      have hb := BdC.of g1.1 hp.bad
      simp only [wR, wB, wE0, wE1, wE2, wE3, g0, gS, s10, s11, s1S, s20, s21, s2S, kl0, kl1, kl2, kl3, sp0, sp1, sp2, sp3, cn1, cn2, cn3, cn4, cn5, cn6, jJa, lk0, lk1, jmS, jmN, s4_0, s4_1, s4_2, s4_3, s4_4, sw0, sw1, cKs, cKn, true_and, and_true, List.map_cons, List.map_nil, Nat.reduceAdd, Nat.zero_add, Int.reduceAdd, Nat.reduceEqDiff, reduceIte, Classical.not_not, b_Rd_both, shH]
      refine ⟨by omega, (c_Rd_put_f (by omega) hz (hb.f9 h9) hb).mono ?_⟩
      rintro r M3 _ ⟨rfl, hb3⟩
      have h83 := hb3.2.2.2.1
      simp only [wR, wB, wE0, wE1, wE2, wE3, g0, gS, s10, s11, s1S, s20, s21, s2S, kl0, kl1, kl2, kl3, sp0, sp1, sp2, sp3, cn1, cn2, cn3, cn4, cn5, cn6, jJa, lk0, lk1, jmS, jmN, s4_0, s4_1, s4_2, s4_3, s4_4, sw0, sw1, cKs, cKn, true_and, and_true, List.map_cons, List.map_nil, Nat.reduceAdd, Nat.zero_add, Int.reduceAdd, Nat.reduceEqDiff, reduceIte, Classical.not_not, b_Rd_both, shH, ce]
      (repeat' (first | omega | (with_reducible exact True.intro) | exact ⟨by omega, by omega⟩ | (with_reducible exact Or.inr trivial) | (with_reducible exact Or.inl trivial) | (with_reducible assumption) | (with_reducible exact Same.refl) | (with_reducible rfl) | (with_reducible refine And.intro ?_ ?_) | (with_reducible intro _)))
      refine AW.run ck_Rd_both [] 10 7 ?_
      simp only [wR, wB, wE0, wE1, wE2, wE3, g0, gS, s10, s11, s1S, s20, s21, s2S, kl0, kl1, kl2, kl3, sp0, sp1, sp2, sp3, cn1, cn2, cn3, cn4, cn5, cn6, jJa, lk0, lk1, jmS, jmN, s4_0, s4_1, s4_2, s4_3, s4_4, sw0, sw1, cKs, cKn, true_and, and_true, List.map_cons, List.map_nil, Nat.reduceAdd, Nat.zero_add, Int.reduceAdd, Nat.reduceEqDiff, reduceIte, Classical.not_not, b_Rd_both, shH, h83, Int.reduceEq, not_true_eq_false, not_false_eq_true, false_imp_iff, true_imp_iff, and_self]
      (repeat' (first | omega | (with_reducible exact True.intro) | exact ⟨by omega, by omega⟩ | (with_reducible exact Or.inr trivial) | (with_reducible exact Or.inl trivial) | (with_reducible assumption) | (with_reducible exact Same.refl) | (with_reducible rfl) | (with_reducible refine And.intro ?_ ?_) | (with_reducible intro _)))
      exact hQ _ hb3.po
    · rw [hr] at hp ok hQ
      have hg := g1.seq (cs := []) hp.good
      rw [List.nil_append] at hg
      have h1 := PR_ln _ _ _ _ (by omega) _ _ hr
      have hm9 := hg.2.1.m9
      have f2 := hg.f9 h9 h10
      simp only [wR, wB, wE0, wE1, wE2, wE3, g0, gS, s10, s11, s1S, s20, s21, s2S, kl0, kl1, kl2, kl3, sp0, sp1, sp2, sp3, cn1, cn2, cn3, cn4, cn5, cn6, jJa, lk0, lk1, jmS, jmN, s4_0, s4_1, s4_2, s4_3, s4_4, sw0, sw1, cKs, cKn, true_and, and_true, List.map_cons, List.map_nil, Nat.reduceAdd, Nat.zero_add, Int.reduceAdd, Nat.reduceEqDiff, reduceIte, Classical.not_not, b_Rd_both, shH]
      refine ⟨by omega, (c_Rd_put_g (v := 3007) (by omega) hz f2.1 hg (by omega) (by decide)).mono ?_⟩
      rintro r M3 _ ⟨rfl, g3, c3⟩
      have f3 := g3.f9 h9 h10
      simp only [wR, wB, wE0, wE1, wE2, wE3, g0, gS, s10, s11, s1S, s20, s21, s2S, kl0, kl1, kl2, kl3, sp0, sp1, sp2, sp3, cn1, cn2, cn3, cn4, cn5, cn6, jJa, lk0, lk1, jmS, jmN, s4_0, s4_1, s4_2, s4_3, s4_4, sw0, sw1, cKs, cKn, true_and, and_true, List.map_cons, List.map_nil, Nat.reduceAdd, Nat.zero_add, Int.reduceAdd, Nat.reduceEqDiff, reduceIte, Classical.not_not, b_Rd_both, shH, ce]
      (repeat' (first | omega | (with_reducible exact True.intro) | exact ⟨by omega, by omega⟩ | (with_reducible exact Or.inr trivial) | (with_reducible exact Or.inl trivial) | (with_reducible assumption) | (with_reducible exact Same.refl) | (with_reducible rfl) | (with_reducible refine And.intro ?_ ?_) | (with_reducible intro _)))
      refine ihL d v k1 (c + c1.length + 1) (i + 1) _ none Q hv hd g3.2.1 f3.1 f3.2 c3 (by omega) (by omega) ok.to.bd fun M' hM' => ?_
      exact hQ _ (PoC.seqx g3 rfl hM')
  · rw [if_neg q] at ok hQ
    generalize ck (kin t n (pls t n (k))) = tt at *
    refine AW.run ck_Rd_both [] 10 7 ?_
    simp only [wR, wB, wE0, wE1, wE2, wE3, g0, gS, s10, s11, s1S, s20, s21, s2S, kl0, kl1, kl2, kl3, sp0, sp1, sp2, sp3, cn1, cn2, cn3, cn4, cn5, cn6, jJa, lk0, lk1, jmS, jmN, s4_0, s4_1, s4_2, s4_3, s4_4, sw0, sw1, cKs, cKn, true_and, and_true, List.map_cons, List.map_nil, Nat.reduceAdd, Nat.zero_add, Int.reduceAdd, Nat.reduceEqDiff, reduceIte, Classical.not_not, b_Rd_both, shH, h8]
    have := hQ _ (GdC.refl hA hc).po
    (repeat' (first | omega | (with_reducible exact True.intro) | exact ⟨by omega, by omega⟩ | (with_reducible exact Or.inr trivial) | (with_reducible exact Or.inl trivial) | (with_reducible assumption) | (with_reducible exact Same.refl) | (with_reducible rfl) | (with_reducible refine And.intro ?_ ?_) | (with_reducible intro _)))
theorem c_Rd_both0 (hz : lwZ z) (ihS : SC G t n m lw z mi_Rd_unit 4 9 f) (ihL : SD G t n m lw z mi_Rd_both 5 8 f (fun v i _ => [some (vr 2), some (vi v), some (vi i)])) : SC G t n m lw z mi_Rd_both 5 7 (f + 1) := by
  intro d v k c M hv hd hA h9 h10 hc hck ok
  rw [PR_7] at ok ⊢
  refine MS.run ck_Rd_both [some (vr 2), some (vi v), none] [7] 10 fun _ _ => ?_
  simp only [wR, wB, wE0, wE1, wE2, wE3, g0, gS, s10, s11, s1S, s20, s21, s2S, kl0, kl1, kl2, kl3, sp0, sp1, sp2, sp3, cn1, cn2, cn3, cn4, cn5, cn6, jJa, lk0, lk1, jmS, jmN, s4_0, s4_1, s4_2, s4_3, s4_4, sw0, sw1, cKs, cKn, true_and, and_true, List.map_cons, List.map_nil, Nat.reduceAdd, Nat.zero_add, Int.reduceAdd, Nat.reduceEqDiff, reduceIte, Classical.not_not, b_Rd_both, shH]
  refine ⟨by omega, (ihS (d - 1) v k c M hv (by omega) hA h9 h10 hc hck ok.bd).mono ?_⟩
  rintro r M1 _ ⟨rfl, hp⟩
  simp only [wR, wB, wE0, wE1, wE2, wE3, g0, gS, s10, s11, s1S, s20, s21, s2S, kl0, kl1, kl2, kl3, sp0, sp1, sp2, sp3, cn1, cn2, cn3, cn4, cn5, cn6, jJa, lk0, lk1, jmS, jmN, s4_0, s4_1, s4_2, s4_3, s4_4, sw0, sw1, cKs, cKn, true_and, and_true, List.map_cons, List.map_nil, Nat.reduceAdd, Nat.zero_add, Int.reduceAdd, Nat.reduceEqDiff, reduceIte, Classical.not_not, b_Rd_both, shH]
  rcases rs_cases (PR t n lw f 9 v k) with ⟨w, k1, hr⟩ | ⟨k1, c1, hr⟩
  · rw [hr] at hp ok ⊢
    have hb := hp.bad
    have h8 := hb.2.2.2.1
    refine AW.run ck_Rd_both [] 10 7 ?_
    simp only [wR, wB, wE0, wE1, wE2, wE3, g0, gS, s10, s11, s1S, s20, s21, s2S, kl0, kl1, kl2, kl3, sp0, sp1, sp2, sp3, cn1, cn2, cn3, cn4, cn5, cn6, jJa, lk0, lk1, jmS, jmN, s4_0, s4_1, s4_2, s4_3, s4_4, sw0, sw1, cKs, cKn, true_and, and_true, List.map_cons, List.map_nil, Nat.reduceAdd, Nat.zero_add, Int.reduceAdd, Nat.reduceEqDiff, reduceIte, Classical.not_not, b_Rd_both, shH, h8, Int.reduceEq, not_true_eq_false, not_false_eq_true, false_imp_iff, true_imp_iff, and_self]
    (repeat' (first | omega | (with_reducible exact True.intro) | exact ⟨by omega, by omega⟩ | (with_reducible exact Or.inr trivial) | (with_reducible exact Or.inl trivial) | (with_reducible assumption) | (with_reducible exact Same.refl) | (with_reducible rfl) | (with_reducible refine And.intro ?_ ?_) | (with_reducible intro _)))
    exact hp
  · rw [hr] at hp ok ⊢
    have hg := hp.good
    have h1 := PR_ln _ _ _ _ (by omega) _ _ hr
    have ff := hg.f9 h9 h10
    refine ihL d v k1 (c + c1.length) 0 M1 none _ hv hd hg.2.1 ff.1 ff.2 hg.2.2.1 (by omega) (by omega) ok.to.bd fun M' hM' => ?_
    exact ⟨rfl, PoC.seq hg hM'⟩
theorem c_Rd_truthL0 (hz : lwZ z) (ihS : SC G t n m lw z mi_Rd_both 5 7 f) (ihL : SD G t n m lw z mi_Rd_truth 6 6 f (fun v i _ => [some (vr 2), some (vi v), some (vi i)])) : SD G t n m lw z mi_Rd_truth 6 6 (f + 1) (fun v i _ => [some (vr 2), some (vi v), some (vi i)]) := by
  intro d v k c i M l Q hv hd hA h9 h10 hc hck hik ok hQ
  have m9 := hA.m9
  have h8 := hA.2.2.2.1
  have eT := ckq (kk := kin t n (pls t n (k))) (x := 18) (v := 18) kin_v (by unfold vK; omega) (by decide +kernel)
  rw [PR_6] at ok hQ
  by_cases q : kin t n (pls t n (k)) = 18
  · rw [if_pos q] at ok hQ
    have h8' := h8
    rw [eT.mpr q] at h8'
    refine AW.run ck_Rd_truth [7] 10 7 ?_
    simp only [wR, wB, wE0, wE1, wE2, wE3, g0, gS, s10, s11, s1S, s20, s21, s2S, kl0, kl1, kl2, kl3, sp0, sp1, sp2, sp3, cn1, cn2, cn3, cn4, cn5, cn6, jJa, lk0, lk1, jmS, jmN, s4_0, s4_1, s4_2, s4_3, s4_4, sw0, sw1, cKs, cKn, true_and, and_true, List.map_cons, List.map_nil, Nat.reduceAdd, Nat.zero_add, Int.reduceAdd, Nat.reduceEqDiff, reduceIte, Classical.not_not, b_Rd_truth, shH, h8', Int.reduceEq, not_true_eq_false, not_false_eq_true, false_imp_iff, true_imp_iff, and_self]
    (repeat' (first | omega | (with_reducible exact True.intro) | exact ⟨by omega, by omega⟩ | (with_reducible exact Or.inr trivial) | (with_reducible exact Or.inl trivial) | (with_reducible assumption) | (with_reducible exact Same.refl) | (with_reducible rfl) | (with_reducible refine And.intro ?_ ?_) | (with_reducible intro _)))
    refine (c_Rd_next hA (by omega)).mono ?_
    rintro r M1 _ ⟨rfl, hA1, e1⟩
    have g1 : GdC t n m z c M M1 (k + 1) [] := by
      rw [e1] at hA1 ⊢
      exact (GdC.refl hA hc).step hz hA1
    have f1 := g1.f9 h9 h10
    simp only [wR, wB, wE0, wE1, wE2, wE3, g0, gS, s10, s11, s1S, s20, s21, s2S, kl0, kl1, kl2, kl3, sp0, sp1, sp2, sp3, cn1, cn2, cn3, cn4, cn5, cn6, jJa, lk0, lk1, jmS, jmN, s4_0, s4_1, s4_2, s4_3, s4_4, sw0, sw1, cKs, cKn, true_and, and_true, List.map_cons, List.map_nil, Nat.reduceAdd, Nat.zero_add, Int.reduceAdd, Nat.reduceEqDiff, reduceIte, Classical.not_not, b_Rd_truth, Int.reduceEq, not_true_eq_false, not_false_eq_true, false_imp_iff, true_imp_iff, and_self, shH]
    refine ⟨by omega, (ihS (d - 1) v (k + 1) c M1 hv (by omega) hA1 f1.1 f1.2 g1.2.2.1 (by omega) ok.bd).mono ?_⟩
    rintro r M2 _ ⟨rfl, hp⟩
    rcases rs_cases (PR t n lw f 7 v (k + 1)) with ⟨w, k1, hr⟩ | ⟨k1, c1, hr⟩
    · rw [hr] at hp ok hQ
      have hb := BdC.of g1.1 hp.bad
      simp only [wR, wB, wE0, wE1, wE2, wE3, g0, gS, s10, s11, s1S, s20, s21, s2S, kl0, kl1, kl2, kl3, sp0, sp1, sp2, sp3, cn1, cn2, cn3, cn4, cn5, cn6, jJa, lk0, lk1, jmS, jmN, s4_0, s4_1, s4_2, s4_3, s4_4, sw0, sw1, cKs, cKn, true_and, and_true, List.map_cons, List.map_nil, Nat.reduceAdd, Nat.zero_add, Int.reduceAdd, Nat.reduceEqDiff, reduceIte, Classical.not_not, b_Rd_truth, shH]
      refine ⟨by omega, (c_Rd_put_f (by omega) hz (hb.f9 h9) hb).mono ?_⟩
      rintro r M3 _ ⟨rfl, hb3⟩
      have h83 := hb3.2.2.2.1
      simp only [wR, wB, wE0, wE1, wE2, wE3, g0, gS, s10, s11, s1S, s20, s21, s2S, kl0, kl1, kl2, kl3, sp0, sp1, sp2, sp3, cn1, cn2, cn3, cn4, cn5, cn6, jJa, lk0, lk1, jmS, jmN, s4_0, s4_1, s4_2, s4_3, s4_4, sw0, sw1, cKs, cKn, true_and, and_true, List.map_cons, List.map_nil, Nat.reduceAdd, Nat.zero_add, Int.reduceAdd, Nat.reduceEqDiff, reduceIte, Classical.not_not, b_Rd_truth, shH, ce]
      (repeat' (first | omega | (with_reducible exact True.intro) | exact ⟨by omega, by omega⟩ | (with_reducible exact Or.inr trivial) | (with_reducible exact Or.inl trivial) | (with_reducible assumption) | (with_reducible exact Same.refl) | (with_reducible rfl) | (with_reducible refine And.intro ?_ ?_) | (with_reducible intro _)))
      refine AW.run ck_Rd_truth [] 10 7 ?_
      simp only [wR, wB, wE0, wE1, wE2, wE3, g0, gS, s10, s11, s1S, s20, s21, s2S, kl0, kl1, kl2, kl3, sp0, sp1, sp2, sp3, cn1, cn2, cn3, cn4, cn5, cn6, jJa, lk0, lk1, jmS, jmN, s4_0, s4_1, s4_2, s4_3, s4_4, sw0, sw1, cKs, cKn, true_and, and_true, List.map_cons, List.map_nil, Nat.reduceAdd, Nat.zero_add, Int.reduceAdd, Nat.reduceEqDiff, reduceIte, Classical.not_not, b_Rd_truth, shH, h83, Int.reduceEq, not_true_eq_false, not_false_eq_true, false_imp_iff, true_imp_iff, and_self]
      (repeat' (first | omega | (with_reducible exact True.intro) | exact ⟨by omega, by omega⟩ | (with_reducible exact Or.inr trivial) | (with_reducible exact Or.inl trivial) | (with_reducible assumption) | (with_reducible exact Same.refl) | (with_reducible rfl) | (with_reducible refine And.intro ?_ ?_) | (with_reducible intro _)))
      exact hQ _ hb3.po
    · rw [hr] at hp ok hQ
      have hg := g1.seq (cs := []) hp.good
      rw [List.nil_append] at hg
      have h1 := PR_ln _ _ _ _ (by omega) _ _ hr
      have hm9 := hg.2.1.m9
      have f2 := hg.f9 h9 h10
      simp only [wR, wB, wE0, wE1, wE2, wE3, g0, gS, s10, s11, s1S, s20, s21, s2S, kl0, kl1, kl2, kl3, sp0, sp1, sp2, sp3, cn1, cn2, cn3, cn4, cn5, cn6, jJa, lk0, lk1, jmS, jmN, s4_0, s4_1, s4_2, s4_3, s4_4, sw0, sw1, cKs, cKn, true_and, and_true, List.map_cons, List.map_nil, Nat.reduceAdd, Nat.zero_add, Int.reduceAdd, Nat.reduceEqDiff, reduceIte, Classical.not_not, b_Rd_truth, shH]
      refine ⟨by omega, (c_Rd_put_g (v := 3008) (by omega) hz f2.1 hg (by omega) (by decide)).mono ?_⟩
      rintro r M3 _ ⟨rfl, g3, c3⟩
      have f3 := g3.f9 h9 h10
      simp only [wR, wB, wE0, wE1, wE2, wE3, g0, gS, s10, s11, s1S, s20, s21, s2S, kl0, kl1, kl2, kl3, sp0, sp1, sp2, sp3, cn1, cn2, cn3, cn4, cn5, cn6, jJa, lk0, lk1, jmS, jmN, s4_0, s4_1, s4_2, s4_3, s4_4, sw0, sw1, cKs, cKn, true_and, and_true, List.map_cons, List.map_nil, Nat.reduceAdd, Nat.zero_add, Int.reduceAdd, Nat.reduceEqDiff, reduceIte, Classical.not_not, b_Rd_truth, shH, ce]
      (repeat' (first | omega | (with_reducible exact True.intro) | exact ⟨by omega, by omega⟩ | (with_reducible exact Or.inr trivial) | (with_reducible exact Or.inl trivial) | (with_reducible assumption) | (with_reducible exact Same.refl) | (with_reducible rfl) | (with_reducible refine And.intro ?_ ?_) | (with_reducible intro _)))
      refine ihL d v k1 (c + c1.length + 1) (i + 1) _ none Q hv hd g3.2.1 f3.1 f3.2 c3 (by omega) (by omega) ok.to.bd fun M' hM' => ?_
      exact hQ _ (PoC.seqx g3 rfl hM')
  · rw [if_neg q] at ok hQ
    generalize ck (kin t n (pls t n (k))) = tt at *
    refine AW.run ck_Rd_truth [] 10 7 ?_
    simp only [wR, wB, wE0, wE1, wE2, wE3, g0, gS, s10, s11, s1S, s20, s21, s2S, kl0, kl1, kl2, kl3, sp0, sp1, sp2, sp3, cn1, cn2, cn3, cn4, cn5, cn6, jJa, lk0, lk1, jmS, jmN, s4_0, s4_1, s4_2, s4_3, s4_4, sw0, sw1, cKs, cKn, true_and, and_true, List.map_cons, List.map_nil, Nat.reduceAdd, Nat.zero_add, Int.reduceAdd, Nat.reduceEqDiff, reduceIte, Classical.not_not, b_Rd_truth, shH, h8]
    have := hQ _ (GdC.refl hA hc).po
    (repeat' (first | omega | (with_reducible exact True.intro) | exact ⟨by omega, by omega⟩ | (with_reducible exact Or.inr trivial) | (with_reducible exact Or.inl trivial) | (with_reducible assumption) | (with_reducible exact Same.refl) | (with_reducible rfl) | (with_reducible refine And.intro ?_ ?_) | (with_reducible intro _)))
theorem c_Rd_truth0 (hz : lwZ z) (ihS : SC G t n m lw z mi_Rd_both 5 7 f) (ihL : SD G t n m lw z mi_Rd_truth 6 6 f (fun v i _ => [some (vr 2), some (vi v), some (vi i)])) : SC G t n m lw z mi_Rd_truth 6 5 (f + 1) := by
  intro d v k c M hv hd hA h9 h10 hc hck ok
  rw [PR_5] at ok ⊢
  refine MS.run ck_Rd_truth [some (vr 2), some (vi v), none] [7] 10 fun _ _ => ?_
  simp only [wR, wB, wE0, wE1, wE2, wE3, g0, gS, s10, s11, s1S, s20, s21, s2S, kl0, kl1, kl2, kl3, sp0, sp1, sp2, sp3, cn1, cn2, cn3, cn4, cn5, cn6, jJa, lk0, lk1, jmS, jmN, s4_0, s4_1, s4_2, s4_3, s4_4, sw0, sw1, cKs, cKn, true_and, and_true, List.map_cons, List.map_nil, Nat.reduceAdd, Nat.zero_add, Int.reduceAdd, Nat.reduceEqDiff, reduceIte, Classical.not_not, b_Rd_truth, shH]
  refine ⟨by omega, (ihS (d - 1) v k c M hv (by omega) hA h9 h10 hc hck ok.bd).mono ?_⟩
  rintro r M1 _ ⟨rfl, hp⟩
  simp only [wR, wB, wE0, wE1, wE2, wE3, g0, gS, s10, s11, s1S, s20, s21, s2S, kl0, kl1, kl2, kl3, sp0, sp1, sp2, sp3, cn1, cn2, cn3, cn4, cn5, cn6, jJa, lk0, lk1, jmS, jmN, s4_0, s4_1, s4_2, s4_3, s4_4, sw0, sw1, cKs, cKn, true_and, and_true, List.map_cons, List.map_nil, Nat.reduceAdd, Nat.zero_add, Int.reduceAdd, Nat.reduceEqDiff, reduceIte, Classical.not_not, b_Rd_truth, shH]
  rcases rs_cases (PR t n lw f 7 v k) with ⟨w, k1, hr⟩ | ⟨k1, c1, hr⟩
  · rw [hr] at hp ok ⊢
    have hb := hp.bad
    have h8 := hb.2.2.2.1
    refine AW.run ck_Rd_truth [] 10 7 ?_
    simp only [wR, wB, wE0, wE1, wE2, wE3, g0, gS, s10, s11, s1S, s20, s21, s2S, kl0, kl1, kl2, kl3, sp0, sp1, sp2, sp3, cn1, cn2, cn3, cn4, cn5, cn6, jJa, lk0, lk1, jmS, jmN, s4_0, s4_1, s4_2, s4_3, s4_4, sw0, sw1, cKs, cKn, true_and, and_true, List.map_cons, List.map_nil, Nat.reduceAdd, Nat.zero_add, Int.reduceAdd, Nat.reduceEqDiff, reduceIte, Classical.not_not, b_Rd_truth, shH, h8, Int.reduceEq, not_true_eq_false, not_false_eq_true, false_imp_iff, true_imp_iff, and_self]
    (repeat' (first | omega | (with_reducible exact True.intro) | exact ⟨by omega, by omega⟩ | (with_reducible exact Or.inr trivial) | (with_reducible exact Or.inl trivial) | (with_reducible assumption) | (with_reducible exact Same.refl) | (with_reducible rfl) | (with_reducible refine And.intro ?_ ?_) | (with_reducible intro _)))
    exact hp
  · rw [hr] at hp ok ⊢
    have hg := hp.good
    have h1 := PR_ln _ _ _ _ (by omega) _ _ hr
    have ff := hg.f9 h9 h10
    refine ihL d v k1 (c + c1.length) 0 M1 none _ hv hd hg.2.1 ff.1 ff.2 hg.2.2.1 (by omega) (by omega) ok.to.bd fun M' hM' => ?_
    exact ⟨rfl, PoC.seq hg hM'⟩
end QB
