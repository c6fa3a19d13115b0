section CK
variable {G : AG} {d : Nat} {M : AM} {t : Nat → Nat} {n : Nat}
theorem rom21 {c : Int} : (∃ j : Int, 0 ≤ j ∧ j < romN (-11 - 10) ∧ romA (-11 - 10) j = c) ↔ c ∈ sgL := by
  constructor
  · rintro ⟨j, h1, h2, h3⟩
    have key : ∀ j : Fin 12, romA (-11 - 10) (j.val : Int) ∈ sgL := by decide +kernel
    have h2' : j < 12 := h2
    have := key ⟨j.toNat, by omega⟩
    rw [show ((j.toNat : Nat) : Int) = j by omega, h3] at this
    exact this
  · intro h
    have key : ∀ c, c ∈ sgL → ∃ j : Fin 12, romA (-11 - 10) (j.val : Int) = c := by decide +kernel
    obtain ⟨j, hj⟩ := key c h
    exact ⟨j.val, by omega, by have := j.isLt; show (j.val : Int) < 12; omega, hj⟩
theorem ck_sg {c : Int} (h : c ∈ sgL) : (ck (30 + sgL.idxOf c) : Int) = 100 + c ∧ 0 ≤ c ∧ c < 256 := by
  have key : ∀ c, c ∈ sgL → (ck (30 + sgL.idxOf c) : Int) = 100 + c ∧ 0 ≤ c ∧ c < 256 := by decide +kernel
  exact key c h
theorem wc_s {c : Int} (h : 0 ≤ c ∧ c ≤ 255) : wc c = c := by
  have key : ∀ x : Fin 256, wc (x.val : Int) = (x.val : Int) := by decide +kernel
  have := key ⟨c.toNat, by omega⟩
  rwa [show ((c.toNat : Nat) : Int) = c by omega] at this
theorem ltr_rng (h255 : ∀ k, t k ≤ 255) {i : Nat} : -1 ≤ ltr t n i ∧ ltr t n i ≤ 255 := by
  have := h255 i
  unfold ltr
  split <;> omega
theorem c_Rd_tokenOf {i : Nat} (hd : 7 ≤ d) (hT : TxC M t n) (hi : i ≤ n) : MS G d mi_Rd_tokenOf [vr 2, vi i, vi (tEnd t n i)] M (fun r M' => r = some (vi (ck (kin t n i))) ∧ M' = M) := by
  have hn := hT.2.2.1
  have h255 := hT.2.2.2.2
  have hgt := tEnd_gt (t := t) (n := n) (i := i)
  refine MS.run ck_Rd_tokenOf [some (vr 2), some (vi i), some (vi (tEnd t n i)), none] [] 10 fun _ _ => ?_
  have hsee := c_Rd_letterAt (G := G) (d := d - 1) (i := i) hT
  simp only [wR, wB, wE0, wE1, wE2, wE3, g0, gS, s10, s11, s1S, s20, s21, s2S, kl0, kl1, kl2, kl3, sp0, sp1, sp2, sp3, cn1, cn2, cn3, cn4, cn5, cn6, jJa, lk0, lk1, jmS, jmN, s4_0, s4_1, s4_2, s4_3, s4_4, sw0, sw1, cKs, cKn, true_and, and_true, List.map_cons, List.map_nil, Nat.reduceAdd, Nat.zero_add, Int.reduceAdd, Nat.reduceEqDiff, reduceIte, Classical.not_not, b_Rd_tokenOf, shH]
  by_cases q : i < n
  · have hE := tEnd_le (t := t) q
    have hr := ltr_rng h255 (n := n) (i := i)
    have hne : ltr t n i ≠ -1 := by rw [ltr_in q]; omega
    have hkin : kin t n i = if sml (ltr t n i) = true then wdM (slc t i (tEnd t n i)) else if dgt (ltr t n i) = true then (if tEnd t n i - i ≤ 3 then 23 else 25) else if ltr t n i ∈ sgL then 30 + sgL.idxOf (ltr t n i) else 25 := by
      unfold kin
      rw [if_neg (by omega)]
    have hword := c_Rd_wordOf (G := G) (d := d - 1) (i := i) (j := tEnd t n i) (by omega) hT (by omega) hE
    generalize tEnd t n i = E at *
    generalize ltr t n i = c at *
    (repeat' (first | omega | (with_reducible exact True.intro) | exact ⟨by omega, by omega⟩ | (with_reducible exact Or.inr trivial) | (with_reducible exact Or.inl trivial) | (with_reducible assumption) | (with_reducible exact Same.refl) | (with_reducible rfl) | (with_reducible refine And.intro ?_ ?_) | (with_reducible intro _)))
    refine MS.to hsee fun _ => ?_
    simp only [wR, wB, wE0, wE1, wE2, wE3, g0, gS, s10, s11, s1S, s20, s21, s2S, kl0, kl1, kl2, kl3, sp0, sp1, sp2, sp3, cn1, cn2, cn3, cn4, cn5, cn6, jJa, lk0, lk1, jmS, jmN, s4_0, s4_1, s4_2, s4_3, s4_4, sw0, sw1, cKs, cKn, true_and, and_true, List.map_cons, List.map_nil, Nat.reduceAdd, Nat.zero_add, Int.reduceAdd, Nat.reduceEqDiff, reduceIte, Classical.not_not, b_Rd_tokenOf, shH]
    (repeat' (first | omega | (with_reducible exact True.intro) | exact ⟨by omega, by omega⟩ | (with_reducible exact Or.inr trivial) | (with_reducible exact Or.inl trivial) | (with_reducible assumption) | (with_reducible exact Same.refl) | (with_reducible rfl) | (with_reducible refine And.intro ?_ ?_) | (with_reducible intro _)))
    refine MS.to c_Rd_isSmall fun _ => ?_
    cases hs : sml c with
    | true =>
      rw [hkin, if_pos rfl, if_pos hs]
      simp only [wR, wB, wE0, wE1, wE2, wE3, g0, gS, s10, s11, s1S, s20, s21, s2S, kl0, kl1, kl2, kl3, sp0, sp1, sp2, sp3, cn1, cn2, cn3, cn4, cn5, cn6, jJa, lk0, lk1, jmS, jmN, s4_0, s4_1, s4_2, s4_3, s4_4, sw0, sw1, cKs, cKn, true_and, and_true, List.map_cons, List.map_nil, Nat.reduceAdd, Nat.zero_add, Int.reduceAdd, Nat.reduceEqDiff, reduceIte, Classical.not_not, b_Rd_tokenOf, Int.reduceEq, not_true_eq_false, not_false_eq_true, false_imp_iff, true_imp_iff, and_self, shH]
      (repeat' (first | omega | (with_reducible exact True.intro) | exact ⟨by omega, by omega⟩ | (with_reducible exact Or.inr trivial) | (with_reducible exact Or.inl trivial) | (with_reducible assumption) | (with_reducible exact Same.refl) | (with_reducible rfl) | (with_reducible refine And.intro ?_ ?_) | (with_reducible intro _)))
      refine MS.to hword fun _ => ?_
      simp only [wR, wB, wE0, wE1, wE2, wE3, g0, gS, s10, s11, s1S, s20, s21, s2S, kl0, kl1, kl2, kl3, sp0, sp1, sp2, sp3, cn1, cn2, cn3, cn4, cn5, cn6, jJa, lk0, lk1, jmS, jmN, s4_0, s4_1, s4_2, s4_3, s4_4, sw0, sw1, cKs, cKn, true_and, and_true, List.map_cons, List.map_nil, Nat.reduceAdd, Nat.zero_add, Int.reduceAdd, Nat.reduceEqDiff, reduceIte, Classical.not_not, b_Rd_tokenOf]
      rw [wd_ck]
    | false =>
      rw [if_neg (by decide)]
      rw [if_neg (by rw [hs]; decide)] at hkin
      simp only [wR, wB, wE0, wE1, wE2, wE3, g0, gS, s10, s11, s1S, s20, s21, s2S, kl0, kl1, kl2, kl3, sp0, sp1, sp2, sp3, cn1, cn2, cn3, cn4, cn5, cn6, jJa, lk0, lk1, jmS, jmN, s4_0, s4_1, s4_2, s4_3, s4_4, sw0, sw1, cKs, cKn, true_and, and_true, List.map_cons, List.map_nil, Nat.reduceAdd, Nat.zero_add, Int.reduceAdd, Nat.reduceEqDiff, reduceIte, Classical.not_not, b_Rd_tokenOf, Int.reduceEq, not_true_eq_false, not_false_eq_true, false_imp_iff, true_imp_iff, and_self]
      (repeat' (first | omega | (with_reducible exact True.intro) | exact ⟨by omega, by omega⟩ | (with_reducible exact Or.inr trivial) | (with_reducible exact Or.inl trivial) | (with_reducible assumption) | (with_reducible exact Same.refl) | (with_reducible rfl) | (with_reducible refine And.intro ?_ ?_) | (with_reducible intro _)))
      refine MS.to c_Rd_isDigit fun _ => ?_
      cases hg : dgt c with
      | true =>
        rw [if_pos rfl, hkin, if_pos hg]
        simp only [wR, wB, wE0, wE1, wE2, wE3, g0, gS, s10, s11, s1S, s20, s21, s2S, kl0, kl1, kl2, kl3, sp0, sp1, sp2, sp3, cn1, cn2, cn3, cn4, cn5, cn6, jJa, lk0, lk1, jmS, jmN, s4_0, s4_1, s4_2, s4_3, s4_4, sw0, sw1, cKs, cKn, true_and, and_true, List.map_cons, List.map_nil, Nat.reduceAdd, Nat.zero_add, Int.reduceAdd, Nat.reduceEqDiff, reduceIte, Classical.not_not, b_Rd_tokenOf, Int.reduceEq, not_true_eq_false, not_false_eq_true, false_imp_iff, true_imp_iff, and_self]
        by_cases q3 : E - i ≤ 3
        · rw [if_pos q3]
          have : ((ck 23 : Nat) : Int) = 21 := by decide +kernel
          rw [this]
          (repeat' (first | omega | (with_reducible exact True.intro) | exact ⟨by omega, by omega⟩ | (with_reducible exact Or.inr trivial) | (with_reducible exact Or.inl trivial) | (with_reducible assumption) | (with_reducible exact Same.refl) | (with_reducible rfl) | (with_reducible refine And.intro ?_ ?_) | (with_reducible intro _)))
        · rw [if_neg q3]
          have : ((ck 25 : Nat) : Int) = 23 := by decide +kernel
          rw [this]
          (repeat' (first | omega | (with_reducible exact True.intro) | exact ⟨by omega, by omega⟩ | (with_reducible exact Or.inr trivial) | (with_reducible exact Or.inl trivial) | (with_reducible assumption) | (with_reducible exact Same.refl) | (with_reducible rfl) | (with_reducible refine And.intro ?_ ?_) | (with_reducible intro _)))
      | false =>
        rw [if_neg (by decide)]
        rw [if_neg (by rw [hg]; decide)] at hkin
        have hw : wc c = c := wc_s (by omega)
        simp only [wR, wB, wE0, wE1, wE2, wE3, g0, gS, s10, s11, s1S, s20, s21, s2S, kl0, kl1, kl2, kl3, sp0, sp1, sp2, sp3, cn1, cn2, cn3, cn4, cn5, cn6, jJa, lk0, lk1, jmS, jmN, s4_0, s4_1, s4_2, s4_3, s4_4, sw0, sw1, cKs, cKn, true_and, and_true, List.map_cons, List.map_nil, Nat.reduceAdd, Nat.zero_add, Int.reduceAdd, Nat.reduceEqDiff, reduceIte, Classical.not_not, b_Rd_tokenOf, Int.reduceEq, not_true_eq_false, not_false_eq_true, false_imp_iff, true_imp_iff, and_self, hw]
        (repeat' (first | omega | (with_reducible exact True.intro) | exact ⟨by omega, by omega⟩ | (with_reducible exact Or.inr trivial) | (with_reducible exact Or.inl trivial) | (with_reducible assumption) | (with_reducible exact Same.refl) | (with_reducible rfl) | (with_reducible refine And.intro ?_ ?_) | (with_reducible intro _)))
        refine (c_JS_indexOf (by omega) (by omega) (by omega)).mono fun r M' _ h => ?_
        obtain ⟨⟨x, rfl, hx⟩, rfl⟩ := h
        rw [rom21] at hx
        simp only [wR, wB, wE0, wE1, wE2, wE3, g0, gS, s10, s11, s1S, s20, s21, s2S, kl0, kl1, kl2, kl3, sp0, sp1, sp2, sp3, cn1, cn2, cn3, cn4, cn5, cn6, jJa, lk0, lk1, jmS, jmN, s4_0, s4_1, s4_2, s4_3, s4_4, sw0, sw1, cKs, cKn, true_and, and_true, List.map_cons, List.map_nil, Nat.reduceAdd, Nat.zero_add, Int.reduceAdd, Nat.reduceEqDiff, reduceIte, Classical.not_not, b_Rd_tokenOf]
        by_cases qs : c ∈ sgL
        · rw [hkin, if_pos qs, (ck_sg qs).1]
          have := hx.mpr qs
          (repeat' (first | omega | (with_reducible exact True.intro) | exact ⟨by omega, by omega⟩ | (with_reducible exact Or.inr trivial) | (with_reducible exact Or.inl trivial) | (with_reducible assumption) | (with_reducible exact Same.refl) | (with_reducible rfl) | (with_reducible refine And.intro ?_ ?_) | (with_reducible intro _)))
        · rw [hkin, if_neg qs]
          have hx2 : ¬ 0 ≤ x := fun e => qs (hx.mp e)
          have : ((ck 25 : Nat) : Int) = 23 := by decide +kernel
          rw [this]
          (repeat' (first | omega | (with_reducible exact True.intro) | exact ⟨by omega, by omega⟩ | (with_reducible exact Or.inr trivial) | (with_reducible exact Or.inl trivial) | (with_reducible assumption) | (with_reducible exact Same.refl) | (with_reducible rfl) | (with_reducible refine And.intro ?_ ?_) | (with_reducible intro _)))
  · have hkin : kin t n i = 24 := by unfold kin; rw [if_pos (by omega)]
    have e22 : ((ck 24 : Nat) : Int) = 22 := by decide +kernel
    rw [hkin, e22]
    rw [ltr_out (by omega)] at hsee
    (repeat' (first | omega | (with_reducible exact True.intro) | exact ⟨by omega, by omega⟩ | (with_reducible exact Or.inr trivial) | (with_reducible exact Or.inl trivial) | (with_reducible assumption) | (with_reducible exact Same.refl) | (with_reducible rfl) | (with_reducible refine And.intro ?_ ?_) | (with_reducible intro _)))
    refine MS.to hsee fun _ => ?_
    simp only [wR, wB, wE0, wE1, wE2, wE3, g0, gS, s10, s11, s1S, s20, s21, s2S, kl0, kl1, kl2, kl3, sp0, sp1, sp2, sp3, cn1, cn2, cn3, cn4, cn5, cn6, jJa, lk0, lk1, jmS, jmN, s4_0, s4_1, s4_2, s4_3, s4_4, sw0, sw1, cKs, cKn, true_and, and_true, List.map_cons, List.map_nil, Nat.reduceAdd, Nat.zero_add, Int.reduceAdd, Nat.reduceEqDiff, reduceIte, Classical.not_not, b_Rd_tokenOf, shH, Int.reduceEq, not_true_eq_false, not_false_eq_true, false_imp_iff, true_imp_iff, and_self]
    (repeat' (first | omega | (with_reducible exact True.intro) | exact ⟨by omega, by omega⟩ | (with_reducible exact Or.inr trivial) | (with_reducible exact Or.inl trivial) | (with_reducible assumption) | (with_reducible exact Same.refl) | (with_reducible rfl) | (with_reducible refine And.intro ?_ ?_) | (with_reducible intro _)))
end CK
