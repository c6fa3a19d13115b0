section CL
variable {G : AG} {d : Nat} {M : AM} {t : Nat → Nat} {n : Nat}
/-- the text, as the class's reader keeps it -/
def TxC (M : AM) (t : Nat → Nat) (n : Nat) : Prop := M 2 2 = 1 ∧ M 2 3 = n ∧ n ≤ 900 ∧ (∀ k : Nat, k < n → M 1 k = sgn (t k)) ∧ ∀ k, t k ≤ 255
theorem sgn_and {b : Nat} (h : b ≤ 255) : bAnd (sgn b) 255 = (b : Int) := by
  have key : ∀ x : Fin 256, bAnd (sgn x.val) 255 = (x.val : Int) := by decide +kernel
  exact key ⟨b, by omega⟩
theorem c_Rd_isSmall {c : Int} : MS G d mi_Rd_isSmall [vi c] M (fun r M' => r = some (vi (if sml c = true then 1 else 0)) ∧ M' = M) := by
  refine MS.run ck_Rd_isSmall [some (vi c)] [] 10 fun _ _ => ?_
  have h : sml c = true ↔ 97 ≤ c ∧ c ≤ 122 := by unfold sml; exact decide_eq_true_iff
  simp only [wR, wB, wE0, wE1, wE2, wE3, g0, gS, s10, s11, s1S, s20, s21, s2S, kl0, kl1, kl2, kl3, sp0, sp1, sp2, sp3, cn1, cn2, cn3, cn4, cn5, cn6, jJa, lk0, lk1, jmS, jmN, s4_0, s4_1, s4_2, s4_3, s4_4, sw0, sw1, cKs, cKn, true_and, and_true, List.map_cons, List.map_nil, Nat.reduceAdd, Nat.zero_add, Int.reduceAdd, Nat.reduceEqDiff, reduceIte, Classical.not_not, b_Rd_isSmall]
  by_cases q : 97 ≤ c ∧ c ≤ 122
  · rw [if_pos (h.mpr q)]; (repeat' (first | omega | (with_reducible exact True.intro) | exact ⟨by omega, by omega⟩ | (with_reducible exact Or.inr trivial) | (with_reducible exact Or.inl trivial) | (with_reducible assumption) | (with_reducible exact Same.refl) | (with_reducible rfl) | (with_reducible refine And.intro ?_ ?_) | (with_reducible intro _)))
  · rw [if_neg (fun e => q (h.mp e))]; (repeat' (first | omega | (with_reducible exact True.intro) | exact ⟨by omega, by omega⟩ | (with_reducible exact Or.inr trivial) | (with_reducible exact Or.inl trivial) | (with_reducible assumption) | (with_reducible exact Same.refl) | (with_reducible rfl) | (with_reducible refine And.intro ?_ ?_) | (with_reducible intro _)))
theorem c_Rd_isDigit {c : Int} : MS G d mi_Rd_isDigit [vi c] M (fun r M' => r = some (vi (if dgt c = true then 1 else 0)) ∧ M' = M) := by
  refine MS.run ck_Rd_isDigit [some (vi c)] [] 10 fun _ _ => ?_
  have h : dgt c = true ↔ 48 ≤ c ∧ c ≤ 57 := by unfold dgt; exact decide_eq_true_iff
  simp only [wR, wB, wE0, wE1, wE2, wE3, g0, gS, s10, s11, s1S, s20, s21, s2S, kl0, kl1, kl2, kl3, sp0, sp1, sp2, sp3, cn1, cn2, cn3, cn4, cn5, cn6, jJa, lk0, lk1, jmS, jmN, s4_0, s4_1, s4_2, s4_3, s4_4, sw0, sw1, cKs, cKn, true_and, and_true, List.map_cons, List.map_nil, Nat.reduceAdd, Nat.zero_add, Int.reduceAdd, Nat.reduceEqDiff, reduceIte, Classical.not_not, b_Rd_isDigit]
  by_cases q : 48 ≤ c ∧ c ≤ 57
  · rw [if_pos (h.mpr q)]; (repeat' (first | omega | (with_reducible exact True.intro) | exact ⟨by omega, by omega⟩ | (with_reducible exact Or.inr trivial) | (with_reducible exact Or.inl trivial) | (with_reducible assumption) | (with_reducible exact Same.refl) | (with_reducible rfl) | (with_reducible refine And.intro ?_ ?_) | (with_reducible intro _)))
  · rw [if_neg (fun e => q (h.mp e))]; (repeat' (first | omega | (with_reducible exact True.intro) | exact ⟨by omega, by omega⟩ | (with_reducible exact Or.inr trivial) | (with_reducible exact Or.inl trivial) | (with_reducible assumption) | (with_reducible exact Same.refl) | (with_reducible rfl) | (with_reducible refine And.intro ?_ ?_) | (with_reducible intro _)))
theorem c_Rd_letterAt {i : Nat} (hT : TxC M t n) : MS G d mi_Rd_letterAt [vr 2, vi i] M (fun r M' => r = some (vi (ltr t n i)) ∧ M' = M) := by
  obtain ⟨h0, h1, h2, h3, h4⟩ := hT
  refine MS.run ck_Rd_letterAt [some (vr 2), some (vi i)] [] 10 fun _ _ => ?_
  by_cases q : i < n
  · have e := h3 i q
    have e2 := sgn_and (h4 i)
    rw [ltr_in q]
    have i1 : isArr 1 := ⟨_, (arT_of (k := 1) rfl rfl).1⟩
    generalize sgn (t i) = g at *
    simp only [wR, wB, wE0, wE1, wE2, wE3, g0, gS, s10, s11, s1S, s20, s21, s2S, kl0, kl1, kl2, kl3, sp0, sp1, sp2, sp3, cn1, cn2, cn3, cn4, cn5, cn6, jJa, lk0, lk1, jmS, jmN, s4_0, s4_1, s4_2, s4_3, s4_4, sw0, sw1, cKs, cKn, true_and, and_true, List.map_cons, List.map_nil, Nat.reduceAdd, Nat.zero_add, Int.reduceAdd, Nat.reduceEqDiff, reduceIte, Classical.not_not, b_Rd_letterAt, shH, h0, h1, e, e2, i1]
    (repeat' (first | omega | (with_reducible exact True.intro) | exact ⟨by omega, by omega⟩ | (with_reducible exact Or.inr trivial) | (with_reducible exact Or.inl trivial) | (with_reducible assumption) | (with_reducible exact Same.refl) | (with_reducible rfl) | (with_reducible refine And.intro ?_ ?_) | (with_reducible intro _)))
  · rw [ltr_out (by omega)]
    have i1 : isArr 1 := ⟨_, (arT_of (k := 1) rfl rfl).1⟩
    simp only [wR, wB, wE0, wE1, wE2, wE3, g0, gS, s10, s11, s1S, s20, s21, s2S, kl0, kl1, kl2, kl3, sp0, sp1, sp2, sp3, cn1, cn2, cn3, cn4, cn5, cn6, jJa, lk0, lk1, jmS, jmN, s4_0, s4_1, s4_2, s4_3, s4_4, sw0, sw1, cKs, cKn, true_and, and_true, List.map_cons, List.map_nil, Nat.reduceAdd, Nat.zero_add, Int.reduceAdd, Nat.reduceEqDiff, reduceIte, Classical.not_not, b_Rd_letterAt, shH, h0, h1, i1]
    (repeat' (first | omega | (with_reducible exact True.intro) | exact ⟨by omega, by omega⟩ | (with_reducible exact Or.inr trivial) | (with_reducible exact Or.inl trivial) | (with_reducible assumption) | (with_reducible exact Same.refl) | (with_reducible rfl) | (with_reducible refine And.intro ?_ ?_) | (with_reducible intro _)))
theorem c_Rd_pastBlanks {i : Nat} (hd : 2 ≤ d) (hT : TxC M t n) (hi : i ≤ n + 1) : MS G d mi_Rd_pastBlanks [vr 2, vi i] M (fun r M' => r = some (vi (rn bnk t n i)) ∧ M' = M) := by
  have h1 := hT.2.1
  have hn := hT.2.2.1
  refine MS.by ck_Rd_pastBlanks [some (vr 2), some (vi i), none] fun _ _ => ?_
  generalize hQ : (fun (r : Option AV) (M' : AM) => r = some (vi (rn bnk t n i)) ∧ M' = M) = Q
  have l2 : ∀ (r j : Nat), j + r = n + 1 → rn bnk t n j = rn bnk t n i → AW G d mi_Rd_pastBlanks Q 2 [some (vr 2), some (vi i), some (vi j)] [] M := by
    intro r
    induction r with
    | zero =>
      intro j hj hrn
      have hf : bnk (ltr t n j) = false := by rw [ltr_out (by omega)]; rfl
      rw [rn_no hf] at hrn
      refine AW.run ck_Rd_pastBlanks [30] 10 2 ?_
      simp only [wR, wB, wE0, wE1, wE2, wE3, g0, gS, s10, s11, s1S, s20, s21, s2S, kl0, kl1, kl2, kl3, sp0, sp1, sp2, sp3, cn1, cn2, cn3, cn4, cn5, cn6, jJa, lk0, lk1, jmS, jmN, s4_0, s4_1, s4_2, s4_3, s4_4, sw0, sw1, cKs, cKn, true_and, and_true, List.map_cons, List.map_nil, Nat.reduceAdd, Nat.zero_add, Int.reduceAdd, Nat.reduceEqDiff, reduceIte, Classical.not_not, b_Rd_pastBlanks, shH, h1]
      subst hQ
      rw [← hrn]
      (repeat' (first | omega | (with_reducible exact True.intro) | exact ⟨by omega, by omega⟩ | (with_reducible exact Or.inr trivial) | (with_reducible exact Or.inl trivial) | (with_reducible assumption) | (with_reducible exact Same.refl) | (with_reducible rfl) | (with_reducible refine And.intro ?_ ?_) | (with_reducible intro _)))
    | succ r ih =>
      intro j hj hrn
      cases hf : bnk (ltr t n j) with
      | false =>
        rw [rn_no hf] at hrn
        have hb : ltr t n j ≠ 10 ∧ ltr t n j ≠ 32 := by
          unfold bnk at hf
          have := decide_eq_false_iff_not.mp hf
          omega
        have hsee := c_Rd_letterAt (G := G) (d := d - 1) (i := j) hT
        generalize ltr t n j = g at *
        subst hQ
        rw [← hrn]
        refine AW.run ck_Rd_pastBlanks [30] 10 2 ?_
        simp only [wR, wB, wE0, wE1, wE2, wE3, g0, gS, s10, s11, s1S, s20, s21, s2S, kl0, kl1, kl2, kl3, sp0, sp1, sp2, sp3, cn1, cn2, cn3, cn4, cn5, cn6, jJa, lk0, lk1, jmS, jmN, s4_0, s4_1, s4_2, s4_3, s4_4, sw0, sw1, cKs, cKn, true_and, and_true, List.map_cons, List.map_nil, Nat.reduceAdd, Nat.zero_add, Int.reduceAdd, Nat.reduceEqDiff, reduceIte, Classical.not_not, b_Rd_pastBlanks, shH, h1]
        (repeat' (first | omega | (with_reducible exact True.intro) | exact ⟨by omega, by omega⟩ | (with_reducible exact Or.inr trivial) | (with_reducible exact Or.inl trivial) | (with_reducible assumption) | (with_reducible exact Same.refl) | (with_reducible rfl) | (with_reducible refine And.intro ?_ ?_) | (with_reducible intro _)))
        refine MS.to hsee fun _ => ?_
        simp only [wR, wB, wE0, wE1, wE2, wE3, g0, gS, s10, s11, s1S, s20, s21, s2S, kl0, kl1, kl2, kl3, sp0, sp1, sp2, sp3, cn1, cn2, cn3, cn4, cn5, cn6, jJa, lk0, lk1, jmS, jmN, s4_0, s4_1, s4_2, s4_3, s4_4, sw0, sw1, cKs, cKn, true_and, and_true, List.map_cons, List.map_nil, Nat.reduceAdd, Nat.zero_add, Int.reduceAdd, Nat.reduceEqDiff, reduceIte, Classical.not_not, b_Rd_pastBlanks, shH]
        (repeat' (first | omega | (with_reducible exact True.intro) | exact ⟨by omega, by omega⟩ | (with_reducible exact Or.inr trivial) | (with_reducible exact Or.inl trivial) | (with_reducible assumption) | (with_reducible exact Same.refl) | (with_reducible rfl) | (with_reducible refine And.intro ?_ ?_) | (with_reducible intro _)))
        refine MS.to hsee fun _ => ?_
        simp only [wR, wB, wE0, wE1, wE2, wE3, g0, gS, s10, s11, s1S, s20, s21, s2S, kl0, kl1, kl2, kl3, sp0, sp1, sp2, sp3, cn1, cn2, cn3, cn4, cn5, cn6, jJa, lk0, lk1, jmS, jmN, s4_0, s4_1, s4_2, s4_3, s4_4, sw0, sw1, cKs, cKn, true_and, and_true, List.map_cons, List.map_nil, Nat.reduceAdd, Nat.zero_add, Int.reduceAdd, Nat.reduceEqDiff, reduceIte, Classical.not_not, b_Rd_pastBlanks, shH]
        (repeat' (first | omega | (with_reducible exact True.intro) | exact ⟨by omega, by omega⟩ | (with_reducible exact Or.inr trivial) | (with_reducible exact Or.inl trivial) | (with_reducible assumption) | (with_reducible exact Same.refl) | (with_reducible rfl) | (with_reducible refine And.intro ?_ ?_) | (with_reducible intro _)))
      | true =>
        obtain ⟨hjn, hrj⟩ := rn_yes (p := bnk) (by decide) hf
        rw [hrj] at hrn
        have hb := bnk_iff.mp hf
        have := ih (j + 1) (by omega) hrn
        have a30 : AW G d mi_Rd_pastBlanks Q 30 [some (vr 2), some (vi i), some (vi j)] [] M := by
          refine AW.run ck_Rd_pastBlanks [2] 10 30 ?_
          simp only [wR, wB, wE0, wE1, wE2, wE3, g0, gS, s10, s11, s1S, s20, s21, s2S, kl0, kl1, kl2, kl3, sp0, sp1, sp2, sp3, cn1, cn2, cn3, cn4, cn5, cn6, jJa, lk0, lk1, jmS, jmN, s4_0, s4_1, s4_2, s4_3, s4_4, sw0, sw1, cKs, cKn, true_and, and_true, List.map_cons, List.map_nil, Nat.reduceAdd, Nat.zero_add, Int.reduceAdd, Nat.reduceEqDiff, reduceIte, Classical.not_not, b_Rd_pastBlanks, ce]
          (repeat' (first | omega | (with_reducible exact True.intro) | exact ⟨by omega, by omega⟩ | (with_reducible exact Or.inr trivial) | (with_reducible exact Or.inl trivial) | (with_reducible assumption) | (with_reducible exact Same.refl) | (with_reducible rfl) | (with_reducible refine And.intro ?_ ?_) | (with_reducible intro _)))
        have hsee := c_Rd_letterAt (G := G) (d := d - 1) (i := j) hT
        generalize ltr t n j = g at *
        refine AW.run ck_Rd_pastBlanks [30] 10 2 ?_
        simp only [wR, wB, wE0, wE1, wE2, wE3, g0, gS, s10, s11, s1S, s20, s21, s2S, kl0, kl1, kl2, kl3, sp0, sp1, sp2, sp3, cn1, cn2, cn3, cn4, cn5, cn6, jJa, lk0, lk1, jmS, jmN, s4_0, s4_1, s4_2, s4_3, s4_4, sw0, sw1, cKs, cKn, true_and, and_true, List.map_cons, List.map_nil, Nat.reduceAdd, Nat.zero_add, Int.reduceAdd, Nat.reduceEqDiff, reduceIte, Classical.not_not, b_Rd_pastBlanks, shH, h1]
        (repeat' (first | omega | (with_reducible exact True.intro) | exact ⟨by omega, by omega⟩ | (with_reducible exact Or.inr trivial) | (with_reducible exact Or.inl trivial) | (with_reducible assumption) | (with_reducible exact Same.refl) | (with_reducible rfl) | (with_reducible refine And.intro ?_ ?_) | (with_reducible intro _)))
        refine MS.to hsee fun _ => ?_
        by_cases q10 : g = 10
        · simp only [wR, wB, wE0, wE1, wE2, wE3, g0, gS, s10, s11, s1S, s20, s21, s2S, kl0, kl1, kl2, kl3, sp0, sp1, sp2, sp3, cn1, cn2, cn3, cn4, cn5, cn6, jJa, lk0, lk1, jmS, jmN, s4_0, s4_1, s4_2, s4_3, s4_4, sw0, sw1, cKs, cKn, true_and, and_true, List.map_cons, List.map_nil, Nat.reduceAdd, Nat.zero_add, Int.reduceAdd, Nat.reduceEqDiff, reduceIte, Classical.not_not, b_Rd_pastBlanks, shH]
          (repeat' (first | omega | (with_reducible exact True.intro) | exact ⟨by omega, by omega⟩ | (with_reducible exact Or.inr trivial) | (with_reducible exact Or.inl trivial) | (with_reducible assumption) | (with_reducible exact Same.refl) | (with_reducible rfl) | (with_reducible refine And.intro ?_ ?_) | (with_reducible intro _)))
        · simp only [wR, wB, wE0, wE1, wE2, wE3, g0, gS, s10, s11, s1S, s20, s21, s2S, kl0, kl1, kl2, kl3, sp0, sp1, sp2, sp3, cn1, cn2, cn3, cn4, cn5, cn6, jJa, lk0, lk1, jmS, jmN, s4_0, s4_1, s4_2, s4_3, s4_4, sw0, sw1, cKs, cKn, true_and, and_true, List.map_cons, List.map_nil, Nat.reduceAdd, Nat.zero_add, Int.reduceAdd, Nat.reduceEqDiff, reduceIte, Classical.not_not, b_Rd_pastBlanks, shH]
          (repeat' (first | omega | (with_reducible exact True.intro) | exact ⟨by omega, by omega⟩ | (with_reducible exact Or.inr trivial) | (with_reducible exact Or.inl trivial) | (with_reducible assumption) | (with_reducible exact Same.refl) | (with_reducible rfl) | (with_reducible refine And.intro ?_ ?_) | (with_reducible intro _)))
          refine MS.to hsee fun _ => ?_
          simp only [wR, wB, wE0, wE1, wE2, wE3, g0, gS, s10, s11, s1S, s20, s21, s2S, kl0, kl1, kl2, kl3, sp0, sp1, sp2, sp3, cn1, cn2, cn3, cn4, cn5, cn6, jJa, lk0, lk1, jmS, jmN, s4_0, s4_1, s4_2, s4_3, s4_4, sw0, sw1, cKs, cKn, true_and, and_true, List.map_cons, List.map_nil, Nat.reduceAdd, Nat.zero_add, Int.reduceAdd, Nat.reduceEqDiff, reduceIte, Classical.not_not, b_Rd_pastBlanks, shH]
          (repeat' (first | omega | (with_reducible exact True.intro) | exact ⟨by omega, by omega⟩ | (with_reducible exact Or.inr trivial) | (with_reducible exact Or.inl trivial) | (with_reducible assumption) | (with_reducible exact Same.refl) | (with_reducible rfl) | (with_reducible refine And.intro ?_ ?_) | (with_reducible intro _)))
  have := l2 (n + 1 - i) i (by omega) rfl
  refine AW.run ck_Rd_pastBlanks [2] 10 0 ?_
  simp only [wR, wB, wE0, wE1, wE2, wE3, g0, gS, s10, s11, s1S, s20, s21, s2S, kl0, kl1, kl2, kl3, sp0, sp1, sp2, sp3, cn1, cn2, cn3, cn4, cn5, cn6, jJa, lk0, lk1, jmS, jmN, s4_0, s4_1, s4_2, s4_3, s4_4, sw0, sw1, cKs, cKn, true_and, and_true, List.map_cons, List.map_nil, Nat.reduceAdd, Nat.zero_add, Int.reduceAdd, Nat.reduceEqDiff, reduceIte, Classical.not_not, b_Rd_pastBlanks]
  exact this
theorem c_Rd_endFrom {i : Nat} (hd : 2 ≤ d) (hT : TxC M t n) (hi : i ≤ n) : MS G d mi_Rd_endFrom [vr 2, vi i] M (fun r M' => r = some (vi (tEnd t n i)) ∧ M' = M) := by
  have h1 := hT.2.1
  have hn := hT.2.2.1
  have hsd : ∀ c, sml c = true → dgt c = true → False := by
    intro c u v
    unfold sml at u
    unfold dgt at v
    have := decide_eq_true_iff.mp u
    have := decide_eq_true_iff.mp v
    omega
  refine MS.by ck_Rd_endFrom [some (vr 2), some (vi i), none, none, none] fun _ _ => ?_
  generalize hQ : (fun (r : Option AV) (M' : AM) => r = some (vi (tEnd t n i)) ∧ M' = M) = Q
  have a73 : ∀ (a b : Int), AW G d mi_Rd_endFrom Q 73 [some (vr 2), some (vi i), some (vi a), some (vi b), some (vi (tEnd t n i))] [] M := by
    intro a b
    refine AW.run ck_Rd_endFrom [] 10 73 ?_
    simp only [wR, wB, wE0, wE1, wE2, wE3, g0, gS, s10, s11, s1S, s20, s21, s2S, kl0, kl1, kl2, kl3, sp0, sp1, sp2, sp3, cn1, cn2, cn3, cn4, cn5, cn6, jJa, lk0, lk1, jmS, jmN, s4_0, s4_1, s4_2, s4_3, s4_4, sw0, sw1, cKs, cKn, true_and, and_true, List.map_cons, List.map_nil, Nat.reduceAdd, Nat.zero_add, Int.reduceAdd, Nat.reduceEqDiff, reduceIte, Classical.not_not, b_Rd_endFrom]
    subst hQ
    exact ⟨rfl, rfl⟩
  have l23 : ∀ (a b : Nat), (a = if sml (ltr t n i) = true then 1 else 0) → (b = if dgt (ltr t n i) = true then 1 else 0) → ∀ (r j : Nat), j + r = n + 1 → i < j → (a = 1 → rn sml t n j = tEnd t n i) → (b = 1 → rn dgt t n j = tEnd t n i) → (a = 0 → b = 0 → j = tEnd t n i) → AW G d mi_Rd_endFrom Q 23 [some (vr 2), some (vi i), some (vi a), some (vi b), some (vi j)] [] M := by
    as_aux_lemma =>
      intro a b ha hb r
      have hab : ¬ (a = 1 ∧ b = 1) := by
        rintro ⟨e1, e2⟩
        refine hsd (ltr t n i) ?_ ?_
        · apply Classical.byContradiction
          intro q
          rw [if_neg q] at ha
          omega
        · apply Classical.byContradiction
          intro q
          rw [if_neg q] at hb
          omega
      have ha1 : a ≤ 1 := by rw [ha]; split <;> omega
      have hb1 : b ≤ 1 := by rw [hb]; split <;> omega
      induction r with
      | zero =>
        intro j hj hij j1 j2 j3
        have hf1 : sml (ltr t n j) = false := by rw [ltr_out (by omega)]; rfl
        have hf2 : dgt (ltr t n j) = false := by rw [ltr_out (by omega)]; rfl
        have ej : j = tEnd t n i := by
          rcases (show a = 1 ∨ b = 1 ∨ (a = 0 ∧ b = 0) by omega) with e | e | ⟨e1, e2⟩
          · rw [← j1 e, rn_no hf1]
          · rw [← j2 e, rn_no hf2]
          · exact j3 e1 e2
        have := a73 a b
        rw [← ej] at this
        refine AW.run ck_Rd_endFrom [48, 64, 73] 10 23 ?_
        simp only [wR, wB, wE0, wE1, wE2, wE3, g0, gS, s10, s11, s1S, s20, s21, s2S, kl0, kl1, kl2, kl3, sp0, sp1, sp2, sp3, cn1, cn2, cn3, cn4, cn5, cn6, jJa, lk0, lk1, jmS, jmN, s4_0, s4_1, s4_2, s4_3, s4_4, sw0, sw1, cKs, cKn, true_and, and_true, List.map_cons, List.map_nil, Nat.reduceAdd, Nat.zero_add, Int.reduceAdd, Nat.reduceEqDiff, reduceIte, Classical.not_not, b_Rd_endFrom, shH, h1]
        (repeat' (first | omega | (with_reducible exact True.intro) | exact ⟨by omega, by omega⟩ | (with_reducible exact Or.inr trivial) | (with_reducible exact Or.inl trivial) | (with_reducible assumption) | (with_reducible exact Same.refl) | (with_reducible rfl) | (with_reducible refine And.intro ?_ ?_) | (with_reducible intro _)))
      | succ r ih =>
        intro j hj hij j1 j2 j3
        have hsee := c_Rd_letterAt (G := G) (d := d - 1) (i := j) hT
        have a64 : (a = 1 → rn sml t n (j + 1) = tEnd t n i) → (b = 1 → rn dgt t n (j + 1) = tEnd t n i) → (a = 0 → b = 0 → j + 1 = tEnd t n i) → AW G d mi_Rd_endFrom Q 64 [some (vr 2), some (vi i), some (vi a), some (vi b), some (vi j)] [] M := by
          intro c1 c2 c3
          have := ih (j + 1) (by omega) (by omega) c1 c2 c3
          refine AW.run ck_Rd_endFrom [23] 10 64 ?_
          simp only [wR, wB, wE0, wE1, wE2, wE3, g0, gS, s10, s11, s1S, s20, s21, s2S, kl0, kl1, kl2, kl3, sp0, sp1, sp2, sp3, cn1, cn2, cn3, cn4, cn5, cn6, jJa, lk0, lk1, jmS, jmN, s4_0, s4_1, s4_2, s4_3, s4_4, sw0, sw1, cKs, cKn, true_and, and_true, List.map_cons, List.map_nil, Nat.reduceAdd, Nat.zero_add, Int.reduceAdd, Nat.reduceEqDiff, reduceIte, Classical.not_not, b_Rd_endFrom, ce]
          (repeat' (first | omega | (with_reducible exact True.intro) | exact ⟨by omega, by omega⟩ | (with_reducible exact Or.inr trivial) | (with_reducible exact Or.inl trivial) | (with_reducible assumption) | (with_reducible exact Same.refl) | (with_reducible rfl) | (with_reducible refine And.intro ?_ ?_) | (with_reducible intro _)))
        have k73 : j = tEnd t n i → AW G d mi_Rd_endFrom Q 73 [some (vr 2), some (vi i), some (vi a), some (vi b), some (vi j)] [] M := by
          intro ej
          have := a73 a b
          rwa [← ej] at this
        have a48 : (a = 1 → sml (ltr t n j) = false) → AW G d mi_Rd_endFrom Q 48 [some (vr 2), some (vi i), some (vi a), some (vi b), some (vi j)] [] M := by
          intro c1
          refine AW.run ck_Rd_endFrom [64, 73] 10 48 ?_
          simp only [wR, wB, wE0, wE1, wE2, wE3, g0, gS, s10, s11, s1S, s20, s21, s2S, kl0, kl1, kl2, kl3, sp0, sp1, sp2, sp3, cn1, cn2, cn3, cn4, cn5, cn6, jJa, lk0, lk1, jmS, jmN, s4_0, s4_1, s4_2, s4_3, s4_4, sw0, sw1, cKs, cKn, true_and, and_true, List.map_cons, List.map_nil, Nat.reduceAdd, Nat.zero_add, Int.reduceAdd, Nat.reduceEqDiff, reduceIte, Classical.not_not, b_Rd_endFrom, shH]
          by_cases q : b = 1
          · subst q
            (repeat' (first | omega | (with_reducible exact True.intro) | exact ⟨by omega, by omega⟩ | (with_reducible exact Or.inr trivial) | (with_reducible exact Or.inl trivial) | (with_reducible assumption) | (with_reducible exact Same.refl) | (with_reducible rfl) | (with_reducible refine And.intro ?_ ?_) | (with_reducible intro _)))
            refine MS.to hsee fun _ => ?_
            simp only [wR, wB, wE0, wE1, wE2, wE3, g0, gS, s10, s11, s1S, s20, s21, s2S, kl0, kl1, kl2, kl3, sp0, sp1, sp2, sp3, cn1, cn2, cn3, cn4, cn5, cn6, jJa, lk0, lk1, jmS, jmN, s4_0, s4_1, s4_2, s4_3, s4_4, sw0, sw1, cKs, cKn, true_and, and_true, List.map_cons, List.map_nil, Nat.reduceAdd, Nat.zero_add, Int.reduceAdd, Nat.reduceEqDiff, reduceIte, Classical.not_not, b_Rd_endFrom, shH]
            (repeat' (first | omega | (with_reducible exact True.intro) | exact ⟨by omega, by omega⟩ | (with_reducible exact Or.inr trivial) | (with_reducible exact Or.inl trivial) | (with_reducible assumption) | (with_reducible exact Same.refl) | (with_reducible rfl) | (with_reducible refine And.intro ?_ ?_) | (with_reducible intro _)))
            refine MS.to c_Rd_isDigit fun _ => ?_
            cases hf : dgt (ltr t n j) with
            | true =>
              have := a64 (fun e => absurd e (by omega)) (fun e => by rw [← (rn_yes (p := dgt) (by decide) hf).2]; exact j2 e) (fun _ e => absurd e (by omega))
              rw [if_pos rfl]
              simp only [wR, wB, wE0, wE1, wE2, wE3, g0, gS, s10, s11, s1S, s20, s21, s2S, kl0, kl1, kl2, kl3, sp0, sp1, sp2, sp3, cn1, cn2, cn3, cn4, cn5, cn6, jJa, lk0, lk1, jmS, jmN, s4_0, s4_1, s4_2, s4_3, s4_4, sw0, sw1, cKs, cKn, true_and, and_true, List.map_cons, List.map_nil, Nat.reduceAdd, Nat.zero_add, Int.reduceAdd, Nat.reduceEqDiff, reduceIte, Classical.not_not, b_Rd_endFrom, Int.reduceEq, not_true_eq_false, not_false_eq_true, false_imp_iff, true_imp_iff, and_self]
              (repeat' (first | omega | (with_reducible exact True.intro) | exact ⟨by omega, by omega⟩ | (with_reducible exact Or.inr trivial) | (with_reducible exact Or.inl trivial) | (with_reducible assumption) | (with_reducible exact Same.refl) | (with_reducible rfl) | (with_reducible refine And.intro ?_ ?_) | (with_reducible intro _)))
            | false =>
              have := k73 (by rw [← j2 rfl, rn_no hf])
              rw [if_neg (by decide)]
              simp only [wR, wB, wE0, wE1, wE2, wE3, g0, gS, s10, s11, s1S, s20, s21, s2S, kl0, kl1, kl2, kl3, sp0, sp1, sp2, sp3, cn1, cn2, cn3, cn4, cn5, cn6, jJa, lk0, lk1, jmS, jmN, s4_0, s4_1, s4_2, s4_3, s4_4, sw0, sw1, cKs, cKn, true_and, and_true, List.map_cons, List.map_nil, Nat.reduceAdd, Nat.zero_add, Int.reduceAdd, Nat.reduceEqDiff, reduceIte, Classical.not_not, b_Rd_endFrom, Int.reduceEq, not_true_eq_false, not_false_eq_true, false_imp_iff, true_imp_iff, and_self]
              (repeat' (first | omega | (with_reducible exact True.intro) | exact ⟨by omega, by omega⟩ | (with_reducible exact Or.inr trivial) | (with_reducible exact Or.inl trivial) | (with_reducible assumption) | (with_reducible exact Same.refl) | (with_reducible rfl) | (with_reducible refine And.intro ?_ ?_) | (with_reducible intro _)))
          · have := k73 (by
              by_cases qa : a = 1
              · rw [← j1 qa, rn_no (c1 qa)]
              · exact j3 (by omega) (by omega))
            (repeat' (first | omega | (with_reducible exact True.intro) | exact ⟨by omega, by omega⟩ | (with_reducible exact Or.inr trivial) | (with_reducible exact Or.inl trivial) | (with_reducible assumption) | (with_reducible exact Same.refl) | (with_reducible rfl) | (with_reducible refine And.intro ?_ ?_) | (with_reducible intro _)))
        by_cases qj : j < n
        · refine AW.run ck_Rd_endFrom [48, 64, 73] 10 23 ?_
          simp only [wR, wB, wE0, wE1, wE2, wE3, g0, gS, s10, s11, s1S, s20, s21, s2S, kl0, kl1, kl2, kl3, sp0, sp1, sp2, sp3, cn1, cn2, cn3, cn4, cn5, cn6, jJa, lk0, lk1, jmS, jmN, s4_0, s4_1, s4_2, s4_3, s4_4, sw0, sw1, cKs, cKn, true_and, and_true, List.map_cons, List.map_nil, Nat.reduceAdd, Nat.zero_add, Int.reduceAdd, Nat.reduceEqDiff, reduceIte, Classical.not_not, b_Rd_endFrom, shH, h1]
          by_cases qa : a = 1
          · subst qa
            (repeat' (first | omega | (with_reducible exact True.intro) | exact ⟨by omega, by omega⟩ | (with_reducible exact Or.inr trivial) | (with_reducible exact Or.inl trivial) | (with_reducible assumption) | (with_reducible exact Same.refl) | (with_reducible rfl) | (with_reducible refine And.intro ?_ ?_) | (with_reducible intro _)))
            refine MS.to hsee fun _ => ?_
            simp only [wR, wB, wE0, wE1, wE2, wE3, g0, gS, s10, s11, s1S, s20, s21, s2S, kl0, kl1, kl2, kl3, sp0, sp1, sp2, sp3, cn1, cn2, cn3, cn4, cn5, cn6, jJa, lk0, lk1, jmS, jmN, s4_0, s4_1, s4_2, s4_3, s4_4, sw0, sw1, cKs, cKn, true_and, and_true, List.map_cons, List.map_nil, Nat.reduceAdd, Nat.zero_add, Int.reduceAdd, Nat.reduceEqDiff, reduceIte, Classical.not_not, b_Rd_endFrom, shH]
            (repeat' (first | omega | (with_reducible exact True.intro) | exact ⟨by omega, by omega⟩ | (with_reducible exact Or.inr trivial) | (with_reducible exact Or.inl trivial) | (with_reducible assumption) | (with_reducible exact Same.refl) | (with_reducible rfl) | (with_reducible refine And.intro ?_ ?_) | (with_reducible intro _)))
            refine MS.to c_Rd_isSmall fun _ => ?_
            cases hf : sml (ltr t n j) with
            | true =>
              have := a64 (fun e => by rw [← (rn_yes (p := sml) (by decide) hf).2]; exact j1 e) (fun e => absurd e (by omega)) (fun e => absurd e (by omega))
              rw [if_pos rfl]
              simp only [wR, wB, wE0, wE1, wE2, wE3, g0, gS, s10, s11, s1S, s20, s21, s2S, kl0, kl1, kl2, kl3, sp0, sp1, sp2, sp3, cn1, cn2, cn3, cn4, cn5, cn6, jJa, lk0, lk1, jmS, jmN, s4_0, s4_1, s4_2, s4_3, s4_4, sw0, sw1, cKs, cKn, true_and, and_true, List.map_cons, List.map_nil, Nat.reduceAdd, Nat.zero_add, Int.reduceAdd, Nat.reduceEqDiff, reduceIte, Classical.not_not, b_Rd_endFrom, Int.reduceEq, not_true_eq_false, not_false_eq_true, false_imp_iff, true_imp_iff, and_self]
              (repeat' (first | omega | (with_reducible exact True.intro) | exact ⟨by omega, by omega⟩ | (with_reducible exact Or.inr trivial) | (with_reducible exact Or.inl trivial) | (with_reducible assumption) | (with_reducible exact Same.refl) | (with_reducible rfl) | (with_reducible refine And.intro ?_ ?_) | (with_reducible intro _)))
            | false =>
              have := a48 (fun _ => hf)
              rw [if_neg (by decide)]
              simp only [wR, wB, wE0, wE1, wE2, wE3, g0, gS, s10, s11, s1S, s20, s21, s2S, kl0, kl1, kl2, kl3, sp0, sp1, sp2, sp3, cn1, cn2, cn3, cn4, cn5, cn6, jJa, lk0, lk1, jmS, jmN, s4_0, s4_1, s4_2, s4_3, s4_4, sw0, sw1, cKs, cKn, true_and, and_true, List.map_cons, List.map_nil, Nat.reduceAdd, Nat.zero_add, Int.reduceAdd, Nat.reduceEqDiff, reduceIte, Classical.not_not, b_Rd_endFrom, Int.reduceEq, not_true_eq_false, not_false_eq_true, false_imp_iff, true_imp_iff, and_self]
              (repeat' (first | omega | (with_reducible exact True.intro) | exact ⟨by omega, by omega⟩ | (with_reducible exact Or.inr trivial) | (with_reducible exact Or.inl trivial) | (with_reducible assumption) | (with_reducible exact Same.refl) | (with_reducible rfl) | (with_reducible refine And.intro ?_ ?_) | (with_reducible intro _)))
          · have := a48 (fun e => absurd e qa)
            (repeat' (first | omega | (with_reducible exact True.intro) | exact ⟨by omega, by omega⟩ | (with_reducible exact Or.inr trivial) | (with_reducible exact Or.inl trivial) | (with_reducible assumption) | (with_reducible exact Same.refl) | (with_reducible rfl) | (with_reducible refine And.intro ?_ ?_) | (with_reducible intro _)))
        · have hf1 : sml (ltr t n j) = false := by rw [ltr_out (by omega)]; rfl
          have hf2 : dgt (ltr t n j) = false := by rw [ltr_out (by omega)]; rfl
          have := k73 (by
            rcases (show a = 1 ∨ b = 1 ∨ (a = 0 ∧ b = 0) by omega) with e | e | ⟨e1, e2⟩
            · rw [← j1 e, rn_no hf1]
            · rw [← j2 e, rn_no hf2]
            · exact j3 e1 e2)
          refine AW.run ck_Rd_endFrom [48, 64, 73] 10 23 ?_
          simp only [wR, wB, wE0, wE1, wE2, wE3, g0, gS, s10, s11, s1S, s20, s21, s2S, kl0, kl1, kl2, kl3, sp0, sp1, sp2, sp3, cn1, cn2, cn3, cn4, cn5, cn6, jJa, lk0, lk1, jmS, jmN, s4_0, s4_1, s4_2, s4_3, s4_4, sw0, sw1, cKs, cKn, true_and, and_true, List.map_cons, List.map_nil, Nat.reduceAdd, Nat.zero_add, Int.reduceAdd, Nat.reduceEqDiff, reduceIte, Classical.not_not, b_Rd_endFrom, shH, h1]
          (repeat' (first | omega | (with_reducible exact True.intro) | exact ⟨by omega, by omega⟩ | (with_reducible exact Or.inr trivial) | (with_reducible exact Or.inl trivial) | (with_reducible assumption) | (with_reducible exact Same.refl) | (with_reducible rfl) | (with_reducible refine And.intro ?_ ?_) | (with_reducible intro _)))
  have hsee := c_Rd_letterAt (G := G) (d := d - 1) (i := i) hT
  have := l23 (if sml (ltr t n i) = true then 1 else 0) (if dgt (ltr t n i) = true then 1 else 0) rfl rfl (n - i) (i + 1) (by omega) (by omega) (fun e => by
      have q : sml (ltr t n i) = true := by
        apply Classical.byContradiction
        intro q
        rw [if_neg q] at e
        omega
      rw [← (rn_yes (p := sml) (by decide) q).2]
      unfold tEnd
      rw [if_pos q]) (fun e => by
      have q : dgt (ltr t n i) = true := by
        apply Classical.byContradiction
        intro q
        rw [if_neg q] at e
        omega
      rw [← (rn_yes (p := dgt) (by decide) q).2]
      unfold tEnd
      rw [if_neg (fun q2 => hsd _ q2 q), if_pos q]) (fun e1 e2 => by
      unfold tEnd
      rw [if_neg (fun q => by rw [if_pos q] at e1; omega), if_neg (fun q => by rw [if_pos q] at e2; omega)])
  have cst : ∀ b : Bool, ((if b = true then 1 else 0 : Nat) : Int) = if b = true then 1 else 0 := by intro b; cases b <;> rfl
  rw [cst, cst] at this
  refine AW.run ck_Rd_endFrom [23] 10 0 ?_
  simp only [wR, wB, wE0, wE1, wE2, wE3, g0, gS, s10, s11, s1S, s20, s21, s2S, kl0, kl1, kl2, kl3, sp0, sp1, sp2, sp3, cn1, cn2, cn3, cn4, cn5, cn6, jJa, lk0, lk1, jmS, jmN, s4_0, s4_1, s4_2, s4_3, s4_4, sw0, sw1, cKs, cKn, true_and, and_true, List.map_cons, List.map_nil, Nat.reduceAdd, Nat.zero_add, Int.reduceAdd, Nat.reduceEqDiff, reduceIte, Classical.not_not, b_Rd_endFrom, shH]
  (repeat' (first | omega | (with_reducible exact True.intro) | exact ⟨by omega, by omega⟩ | (with_reducible exact Or.inr trivial) | (with_reducible exact Or.inl trivial) | (with_reducible assumption) | (with_reducible exact Same.refl) | (with_reducible rfl) | (with_reducible refine And.intro ?_ ?_) | (with_reducible intro _)))
  refine MS.to hsee fun _ => ?_
  simp only [wR, wB, wE0, wE1, wE2, wE3, g0, gS, s10, s11, s1S, s20, s21, s2S, kl0, kl1, kl2, kl3, sp0, sp1, sp2, sp3, cn1, cn2, cn3, cn4, cn5, cn6, jJa, lk0, lk1, jmS, jmN, s4_0, s4_1, s4_2, s4_3, s4_4, sw0, sw1, cKs, cKn, true_and, and_true, List.map_cons, List.map_nil, Nat.reduceAdd, Nat.zero_add, Int.reduceAdd, Nat.reduceEqDiff, reduceIte, Classical.not_not, b_Rd_endFrom, shH]
  (repeat' (first | omega | (with_reducible exact True.intro) | exact ⟨by omega, by omega⟩ | (with_reducible exact Or.inr trivial) | (with_reducible exact Or.inl trivial) | (with_reducible assumption) | (with_reducible exact Same.refl) | (with_reducible rfl) | (with_reducible refine And.intro ?_ ?_) | (with_reducible intro _)))
  refine MS.to c_Rd_isSmall fun _ => ?_
  simp only [wR, wB, wE0, wE1, wE2, wE3, g0, gS, s10, s11, s1S, s20, s21, s2S, kl0, kl1, kl2, kl3, sp0, sp1, sp2, sp3, cn1, cn2, cn3, cn4, cn5, cn6, jJa, lk0, lk1, jmS, jmN, s4_0, s4_1, s4_2, s4_3, s4_4, sw0, sw1, cKs, cKn, true_and, and_true, List.map_cons, List.map_nil, Nat.reduceAdd, Nat.zero_add, Int.reduceAdd, Nat.reduceEqDiff, reduceIte, Classical.not_not, b_Rd_endFrom, shH]
  (repeat' (first | omega | (with_reducible exact True.intro) | exact ⟨by omega, by omega⟩ | (with_reducible exact Or.inr trivial) | (with_reducible exact Or.inl trivial) | (with_reducible assumption) | (with_reducible exact Same.refl) | (with_reducible rfl) | (with_reducible refine And.intro ?_ ?_) | (with_reducible intro _)))
  refine MS.to hsee fun _ => ?_
  simp only [wR, wB, wE0, wE1, wE2, wE3, g0, gS, s10, s11, s1S, s20, s21, s2S, kl0, kl1, kl2, kl3, sp0, sp1, sp2, sp3, cn1, cn2, cn3, cn4, cn5, cn6, jJa, lk0, lk1, jmS, jmN, s4_0, s4_1, s4_2, s4_3, s4_4, sw0, sw1, cKs, cKn, true_and, and_true, List.map_cons, List.map_nil, Nat.reduceAdd, Nat.zero_add, Int.reduceAdd, Nat.reduceEqDiff, reduceIte, Classical.not_not, b_Rd_endFrom, shH]
  (repeat' (first | omega | (with_reducible exact True.intro) | exact ⟨by omega, by omega⟩ | (with_reducible exact Or.inr trivial) | (with_reducible exact Or.inl trivial) | (with_reducible assumption) | (with_reducible exact Same.refl) | (with_reducible rfl) | (with_reducible refine And.intro ?_ ?_) | (with_reducible intro _)))
  refine MS.to c_Rd_isDigit fun _ => ?_
  simp only [wR, wB, wE0, wE1, wE2, wE3, g0, gS, s10, s11, s1S, s20, s21, s2S, kl0, kl1, kl2, kl3, sp0, sp1, sp2, sp3, cn1, cn2, cn3, cn4, cn5, cn6, jJa, lk0, lk1, jmS, jmN, s4_0, s4_1, s4_2, s4_3, s4_4, sw0, sw1, cKs, cKn, true_and, and_true, List.map_cons, List.map_nil, Nat.reduceAdd, Nat.zero_add, Int.reduceAdd, Nat.reduceEqDiff, reduceIte, Classical.not_not, b_Rd_endFrom, shH, ce]
  (repeat' (first | omega | (with_reducible exact True.intro) | exact ⟨by omega, by omega⟩ | (with_reducible exact Or.inr trivial) | (with_reducible exact Or.inl trivial) | (with_reducible assumption) | (with_reducible exact Same.refl) | (with_reducible rfl) | (with_reducible refine And.intro ?_ ?_) | (with_reducible intro _)))
end CL
