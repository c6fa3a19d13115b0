section SD
variable {G : AG} {d : Nat} {M N K : AM} {t : Nat → Nat} {n k w pp : Nat} {h : Hl} {m : Mo}
theorem c_Md_takes_yes {most : Nat} (hd : 8 ≤ d) (hm : most ≤ 100) (hA : AtM M t n k) (q : kin t n (pls t n (k)) = 23) (hb : vlu t (pls t n (k)) (tEnd t n (pls t n (k)) - pls t n (k)) ≤ (most : Int)) : MS G d mi_Md_takes [vr 117, vi 0, vi most] M (fun r M' => r = some (vi (vlu t (pls t n (k)) (tEnd t n (pls t n (k)) - pls t n (k)))) ∧ AtM M' t n (k + 1) ∧ Fn M M') := by
  have h10 := hA.2.1.2.2.2 q
  have h11 := hA.2.2
  have hv := vn_b q
  generalize vlu t (pls t n (k)) (tEnd t n (pls t n (k)) - pls t n (k)) = x at *
  refine MS.run ck_Md_takes [some (vr 117), some (vi 0), some (vi most), none] [17, 37] 12 fun _ _ => ?_
  simp only [wR, wB, wE0, wE1, wE2, wE3, g0, gS, s10, s11, s1S, s20, s21, s2S, kl0, kl1, kl2, kl3, sp0, sp1, sp2, sp3, cn1, cn2, cn3, cn4, cn5, cn6, jJa, lk0, lk1, jmS, jmN, s4_0, s4_1, s4_2, s4_3, s4_4, sw0, sw1, cKs, cKn, true_and, and_true, List.map_cons, List.map_nil, Nat.reduceAdd, Nat.zero_add, Int.reduceAdd, Nat.reduceEqDiff, reduceIte, Classical.not_not, b_Md_takes, shMd]
  refine ⟨by omega, MS.to (c_Md_is_yes (x := 23) hA q) fun _ => ?_⟩
  simp only [wR, wB, wE0, wE1, wE2, wE3, g0, gS, s10, s11, s1S, s20, s21, s2S, kl0, kl1, kl2, kl3, sp0, sp1, sp2, sp3, cn1, cn2, cn3, cn4, cn5, cn6, jJa, lk0, lk1, jmS, jmN, s4_0, s4_1, s4_2, s4_3, s4_4, sw0, sw1, cKs, cKn, true_and, and_true, List.map_cons, List.map_nil, Nat.reduceAdd, Nat.zero_add, Int.reduceAdd, Nat.reduceEqDiff, reduceIte, Classical.not_not, b_Md_takes, shMd, Int.reduceEq, not_true_eq_false, not_false_eq_true, false_imp_iff, true_imp_iff, and_self]
  refine AW.run ck_Md_takes [37] 12 17 ?_
  simp only [wR, wB, wE0, wE1, wE2, wE3, g0, gS, s10, s11, s1S, s20, s21, s2S, kl0, kl1, kl2, kl3, sp0, sp1, sp2, sp3, cn1, cn2, cn3, cn4, cn5, cn6, jJa, lk0, lk1, jmS, jmN, s4_0, s4_1, s4_2, s4_3, s4_4, sw0, sw1, cKs, cKn, true_and, and_true, List.map_cons, List.map_nil, Nat.reduceAdd, Nat.zero_add, Int.reduceAdd, Nat.reduceEqDiff, reduceIte, Classical.not_not, b_Md_takes, shMd, h10]
  refine ⟨by omega, MS.to c_Md_within fun _ => ?_⟩
  rw [if_pos (by omega)]
  simp only [wR, wB, wE0, wE1, wE2, wE3, g0, gS, s10, s11, s1S, s20, s21, s2S, kl0, kl1, kl2, kl3, sp0, sp1, sp2, sp3, cn1, cn2, cn3, cn4, cn5, cn6, jJa, lk0, lk1, jmS, jmN, s4_0, s4_1, s4_2, s4_3, s4_4, sw0, sw1, cKs, cKn, true_and, and_true, List.map_cons, List.map_nil, Nat.reduceAdd, Nat.zero_add, Int.reduceAdd, Nat.reduceEqDiff, reduceIte, Classical.not_not, b_Md_takes, shMd, Int.reduceEq, not_true_eq_false, not_false_eq_true, false_imp_iff, true_imp_iff, and_self]
  refine AW.run ck_Md_takes [] 12 37 ?_
  simp only [wR, wB, wE0, wE1, wE2, wE3, g0, gS, s10, s11, s1S, s20, s21, s2S, kl0, kl1, kl2, kl3, sp0, sp1, sp2, sp3, cn1, cn2, cn3, cn4, cn5, cn6, jJa, lk0, lk1, jmS, jmN, s4_0, s4_1, s4_2, s4_3, s4_4, sw0, sw1, cKs, cKn, true_and, and_true, List.map_cons, List.map_nil, Nat.reduceAdd, Nat.zero_add, Int.reduceAdd, Nat.reduceEqDiff, reduceIte, Classical.not_not, b_Md_takes, shMd, h10, h11, Int.reduceEq, not_true_eq_false, not_false_eq_true, false_imp_iff, true_imp_iff, and_self]
  refine ⟨by omega, (c_Md_next_at (by omega) hA (by omega)).mono ?_⟩
  rintro r M' _ ⟨rfl, a, b⟩
  simp only [wR, wB, wE0, wE1, wE2, wE3, g0, gS, s10, s11, s1S, s20, s21, s2S, kl0, kl1, kl2, kl3, sp0, sp1, sp2, sp3, cn1, cn2, cn3, cn4, cn5, cn6, jJa, lk0, lk1, jmS, jmN, s4_0, s4_1, s4_2, s4_3, s4_4, sw0, sw1, cKs, cKn, true_and, and_true, List.map_cons, List.map_nil, Nat.reduceAdd, Nat.zero_add, Int.reduceAdd, Nat.reduceEqDiff, reduceIte, Classical.not_not, b_Md_takes, shMd]
  exact ⟨a, b⟩
theorem c_Md_takes_no {most : Nat} (hd : 2 ≤ d) (hA : AtM M t n k) (q : kin t n (pls t n (k)) ≠ 23) : MS G d mi_Md_takes [vr 117, vi 0, vi most] M (fun r M' => r = some (vi (M 117 10)) ∧ M' = up (up M 117 11 ((fkd (kin t n (pls t n (k))) 2 : Nat) : Int)) 117 12 ((pls t n k : Nat) : Int)) := by
  have hf := c_Md_fails (G := G) (d := d - 1) (w := 2) hA
  have hne : fkd (kin t n (pls t n (k))) 2 ≠ 0 := by unfold fkd; split <;> omega
  have e10 : up (up M 117 11 ((fkd (kin t n (pls t n (k))) 2 : Nat) : Int)) 117 12 ((pls t n k : Nat) : Int) 117 10 = M 117 10 := by rw [up_ne2 (by omega), up_ne2 (by omega)]
  have e11 : up (up M 117 11 ((fkd (kin t n (pls t n (k))) 2 : Nat) : Int)) 117 12 ((pls t n k : Nat) : Int) 117 11 = ((fkd (kin t n (pls t n (k))) 2 : Nat) : Int) := by rw [up_ne2 (by omega), up_eq]
  refine MS.run ck_Md_takes [some (vr 117), some (vi 0), some (vi most), none] [17, 37] 12 fun _ _ => ?_
  simp only [wR, wB, wE0, wE1, wE2, wE3, g0, gS, s10, s11, s1S, s20, s21, s2S, kl0, kl1, kl2, kl3, sp0, sp1, sp2, sp3, cn1, cn2, cn3, cn4, cn5, cn6, jJa, lk0, lk1, jmS, jmN, s4_0, s4_1, s4_2, s4_3, s4_4, sw0, sw1, cKs, cKn, true_and, and_true, List.map_cons, List.map_nil, Nat.reduceAdd, Nat.zero_add, Int.reduceAdd, Nat.reduceEqDiff, reduceIte, Classical.not_not, b_Md_takes, shMd]
  refine ⟨by omega, MS.to (c_Md_is_no (x := 23) hA q) fun _ => ?_⟩
  simp only [wR, wB, wE0, wE1, wE2, wE3, g0, gS, s10, s11, s1S, s20, s21, s2S, kl0, kl1, kl2, kl3, sp0, sp1, sp2, sp3, cn1, cn2, cn3, cn4, cn5, cn6, jJa, lk0, lk1, jmS, jmN, s4_0, s4_1, s4_2, s4_3, s4_4, sw0, sw1, cKs, cKn, true_and, and_true, List.map_cons, List.map_nil, Nat.reduceAdd, Nat.zero_add, Int.reduceAdd, Nat.reduceEqDiff, reduceIte, Classical.not_not, b_Md_takes, shMd, Int.reduceEq, not_true_eq_false, not_false_eq_true, false_imp_iff, true_imp_iff, and_self]
  refine ⟨by omega, MS.to hf fun _ => ?_⟩
  generalize fkd (kin t n (pls t n (k))) 2 = w at *
  generalize up (up M 117 11 (w : Int)) 117 12 ((pls t n k : Nat) : Int) = N at *
  simp only [wR, wB, wE0, wE1, wE2, wE3, g0, gS, s10, s11, s1S, s20, s21, s2S, kl0, kl1, kl2, kl3, sp0, sp1, sp2, sp3, cn1, cn2, cn3, cn4, cn5, cn6, jJa, lk0, lk1, jmS, jmN, s4_0, s4_1, s4_2, s4_3, s4_4, sw0, sw1, cKs, cKn, true_and, and_true, List.map_cons, List.map_nil, Nat.reduceAdd, Nat.zero_add, Int.reduceAdd, Nat.reduceEqDiff, reduceIte, Classical.not_not, b_Md_takes, shMd, Int.reduceEq, not_true_eq_false, not_false_eq_true, false_imp_iff, true_imp_iff, and_self]
  refine AW.run ck_Md_takes [] 12 37 ?_
  simp only [wR, wB, wE0, wE1, wE2, wE3, g0, gS, s10, s11, s1S, s20, s21, s2S, kl0, kl1, kl2, kl3, sp0, sp1, sp2, sp3, cn1, cn2, cn3, cn4, cn5, cn6, jJa, lk0, lk1, jmS, jmN, s4_0, s4_1, s4_2, s4_3, s4_4, sw0, sw1, cKs, cKn, true_and, and_true, List.map_cons, List.map_nil, Nat.reduceAdd, Nat.zero_add, Int.reduceAdd, Nat.reduceEqDiff, reduceIte, Classical.not_not, b_Md_takes, shMd, e10, e11]
  (repeat' (first | omega | (with_reducible exact True.intro) | exact ⟨by omega, by omega⟩ | (with_reducible exact Or.inr trivial) | (with_reducible exact Or.inl trivial) | (with_reducible assumption) | (with_reducible exact Same.refl) | (with_reducible rfl) | (with_reducible refine And.intro ?_ ?_) | (with_reducible intro _)))
theorem c_Md_takes_big {most : Nat} (hd : 2 ≤ d) (hm : most ≤ 100) (hA : AtM M t n k) (q : kin t n (pls t n (k)) = 23) (hb : ¬ vlu t (pls t n (k)) (tEnd t n (pls t n (k)) - pls t n (k)) ≤ (most : Int)) : MS G d mi_Md_takes [vr 117, vi 0, vi most] M (fun r M' => r = some (vi (M 117 10)) ∧ M' = up (up M 117 11 ((fkd (kin t n (pls t n (k))) 3 : Nat) : Int)) 117 12 ((pls t n k : Nat) : Int)) := by
  have hf := c_Md_fails (G := G) (d := d - 1) (w := 3) hA
  have h10 := hA.2.1.2.2.2 q
  have hv := vn_b q
  have hne : fkd (kin t n (pls t n (k))) 3 ≠ 0 := by unfold fkd; split <;> omega
  have e10 : up (up M 117 11 ((fkd (kin t n (pls t n (k))) 3 : Nat) : Int)) 117 12 ((pls t n k : Nat) : Int) 117 10 = M 117 10 := by rw [up_ne2 (by omega), up_ne2 (by omega)]
  have e11 : up (up M 117 11 ((fkd (kin t n (pls t n (k))) 3 : Nat) : Int)) 117 12 ((pls t n k : Nat) : Int) 117 11 = ((fkd (kin t n (pls t n (k))) 3 : Nat) : Int) := by rw [up_ne2 (by omega), up_eq]
  refine MS.run ck_Md_takes [some (vr 117), some (vi 0), some (vi most), none] [17, 37] 12 fun _ _ => ?_
  simp only [wR, wB, wE0, wE1, wE2, wE3, g0, gS, s10, s11, s1S, s20, s21, s2S, kl0, kl1, kl2, kl3, sp0, sp1, sp2, sp3, cn1, cn2, cn3, cn4, cn5, cn6, jJa, lk0, lk1, jmS, jmN, s4_0, s4_1, s4_2, s4_3, s4_4, sw0, sw1, cKs, cKn, true_and, and_true, List.map_cons, List.map_nil, Nat.reduceAdd, Nat.zero_add, Int.reduceAdd, Nat.reduceEqDiff, reduceIte, Classical.not_not, b_Md_takes, shMd]
  refine ⟨by omega, MS.to (c_Md_is_yes (x := 23) hA q) fun _ => ?_⟩
  simp only [wR, wB, wE0, wE1, wE2, wE3, g0, gS, s10, s11, s1S, s20, s21, s2S, kl0, kl1, kl2, kl3, sp0, sp1, sp2, sp3, cn1, cn2, cn3, cn4, cn5, cn6, jJa, lk0, lk1, jmS, jmN, s4_0, s4_1, s4_2, s4_3, s4_4, sw0, sw1, cKs, cKn, true_and, and_true, List.map_cons, List.map_nil, Nat.reduceAdd, Nat.zero_add, Int.reduceAdd, Nat.reduceEqDiff, reduceIte, Classical.not_not, b_Md_takes, shMd, Int.reduceEq, not_true_eq_false, not_false_eq_true, false_imp_iff, true_imp_iff, and_self]
  refine AW.run ck_Md_takes [37] 12 17 ?_
  simp only [wR, wB, wE0, wE1, wE2, wE3, g0, gS, s10, s11, s1S, s20, s21, s2S, kl0, kl1, kl2, kl3, sp0, sp1, sp2, sp3, cn1, cn2, cn3, cn4, cn5, cn6, jJa, lk0, lk1, jmS, jmN, s4_0, s4_1, s4_2, s4_3, s4_4, sw0, sw1, cKs, cKn, true_and, and_true, List.map_cons, List.map_nil, Nat.reduceAdd, Nat.zero_add, Int.reduceAdd, Nat.reduceEqDiff, reduceIte, Classical.not_not, b_Md_takes, shMd]
  refine ⟨by omega, MS.to c_Md_within fun _ => ?_⟩
  rw [if_neg (by rw [h10]; omega)]
  simp only [wR, wB, wE0, wE1, wE2, wE3, g0, gS, s10, s11, s1S, s20, s21, s2S, kl0, kl1, kl2, kl3, sp0, sp1, sp2, sp3, cn1, cn2, cn3, cn4, cn5, cn6, jJa, lk0, lk1, jmS, jmN, s4_0, s4_1, s4_2, s4_3, s4_4, sw0, sw1, cKs, cKn, true_and, and_true, List.map_cons, List.map_nil, Nat.reduceAdd, Nat.zero_add, Int.reduceAdd, Nat.reduceEqDiff, reduceIte, Classical.not_not, b_Md_takes, shMd, Int.reduceEq, not_true_eq_false, not_false_eq_true, false_imp_iff, true_imp_iff, and_self]
  refine ⟨by omega, MS.to hf fun _ => ?_⟩
  generalize fkd (kin t n (pls t n (k))) 3 = w at *
  generalize up (up M 117 11 (w : Int)) 117 12 ((pls t n k : Nat) : Int) = N at *
  simp only [wR, wB, wE0, wE1, wE2, wE3, g0, gS, s10, s11, s1S, s20, s21, s2S, kl0, kl1, kl2, kl3, sp0, sp1, sp2, sp3, cn1, cn2, cn3, cn4, cn5, cn6, jJa, lk0, lk1, jmS, jmN, s4_0, s4_1, s4_2, s4_3, s4_4, sw0, sw1, cKs, cKn, true_and, and_true, List.map_cons, List.map_nil, Nat.reduceAdd, Nat.zero_add, Int.reduceAdd, Nat.reduceEqDiff, reduceIte, Classical.not_not, b_Md_takes, shMd, Int.reduceEq, not_true_eq_false, not_false_eq_true, false_imp_iff, true_imp_iff, and_self]
  refine AW.run ck_Md_takes [] 12 37 ?_
  simp only [wR, wB, wE0, wE1, wE2, wE3, g0, gS, s10, s11, s1S, s20, s21, s2S, kl0, kl1, kl2, kl3, sp0, sp1, sp2, sp3, cn1, cn2, cn3, cn4, cn5, cn6, jJa, lk0, lk1, jmS, jmN, s4_0, s4_1, s4_2, s4_3, s4_4, sw0, sw1, cKs, cKn, true_and, and_true, List.map_cons, List.map_nil, Nat.reduceAdd, Nat.zero_add, Int.reduceAdd, Nat.reduceEqDiff, reduceIte, Classical.not_not, b_Md_takes, shMd, e10, e11]
  (repeat' (first | omega | (with_reducible exact True.intro) | exact ⟨by omega, by omega⟩ | (with_reducible exact Or.inr trivial) | (with_reducible exact Or.inl trivial) | (with_reducible assumption) | (with_reducible exact Same.refl) | (with_reducible rfl) | (with_reducible refine And.intro ?_ ?_) | (with_reducible intro _)))
theorem c_Md_takes_f {a b : Int} (hd : 2 ≤ d) (hN : M 117 11 ≠ 0) : MS G d mi_Md_takes [vr 117, vi a, vi b] M (fun r M' => r = some (vi (M 117 10)) ∧ M' = M) := by
  refine MS.run ck_Md_takes [some (vr 117), some (vi a), some (vi b), none] [17, 37] 12 fun _ _ => ?_
  simp only [wR, wB, wE0, wE1, wE2, wE3, g0, gS, s10, s11, s1S, s20, s21, s2S, kl0, kl1, kl2, kl3, sp0, sp1, sp2, sp3, cn1, cn2, cn3, cn4, cn5, cn6, jJa, lk0, lk1, jmS, jmN, s4_0, s4_1, s4_2, s4_3, s4_4, sw0, sw1, cKs, cKn, true_and, and_true, List.map_cons, List.map_nil, Nat.reduceAdd, Nat.zero_add, Int.reduceAdd, Nat.reduceEqDiff, reduceIte, Classical.not_not, b_Md_takes, shMd]
  refine ⟨by omega, MS.to (c_Md_is_f hN) fun _ => ?_⟩
  simp only [wR, wB, wE0, wE1, wE2, wE3, g0, gS, s10, s11, s1S, s20, s21, s2S, kl0, kl1, kl2, kl3, sp0, sp1, sp2, sp3, cn1, cn2, cn3, cn4, cn5, cn6, jJa, lk0, lk1, jmS, jmN, s4_0, s4_1, s4_2, s4_3, s4_4, sw0, sw1, cKs, cKn, true_and, and_true, List.map_cons, List.map_nil, Nat.reduceAdd, Nat.zero_add, Int.reduceAdd, Nat.reduceEqDiff, reduceIte, Classical.not_not, b_Md_takes, shMd, Int.reduceEq, not_true_eq_false, not_false_eq_true, false_imp_iff, true_imp_iff, and_self]
  refine ⟨by omega, MS.to (c_Md_fails_f hN) fun _ => ?_⟩
  simp only [wR, wB, wE0, wE1, wE2, wE3, g0, gS, s10, s11, s1S, s20, s21, s2S, kl0, kl1, kl2, kl3, sp0, sp1, sp2, sp3, cn1, cn2, cn3, cn4, cn5, cn6, jJa, lk0, lk1, jmS, jmN, s4_0, s4_1, s4_2, s4_3, s4_4, sw0, sw1, cKs, cKn, true_and, and_true, List.map_cons, List.map_nil, Nat.reduceAdd, Nat.zero_add, Int.reduceAdd, Nat.reduceEqDiff, reduceIte, Classical.not_not, b_Md_takes, shMd, Int.reduceEq, not_true_eq_false, not_false_eq_true, false_imp_iff, true_imp_iff, and_self]
  generalize hw : M 117 11 = w at hN
  refine AW.run ck_Md_takes [] 12 37 ?_
  simp only [wR, wB, wE0, wE1, wE2, wE3, g0, gS, s10, s11, s1S, s20, s21, s2S, kl0, kl1, kl2, kl3, sp0, sp1, sp2, sp3, cn1, cn2, cn3, cn4, cn5, cn6, jJa, lk0, lk1, jmS, jmN, s4_0, s4_1, s4_2, s4_3, s4_4, sw0, sw1, cKs, cKn, true_and, and_true, List.map_cons, List.map_nil, Nat.reduceAdd, Nat.zero_add, Int.reduceAdd, Nat.reduceEqDiff, reduceIte, Classical.not_not, b_Md_takes, shMd, hw]
  (repeat' (first | omega | (with_reducible exact True.intro) | exact ⟨by omega, by omega⟩ | (with_reducible exact Or.inr trivial) | (with_reducible exact Or.inl trivial) | (with_reducible assumption) | (with_reducible exact Same.refl) | (with_reducible rfl) | (with_reducible refine And.intro ?_ ?_) | (with_reducible intro _)))
/-! the model's lines -/
def FrN (M N : AM) : Prop := Same [117, 121] M N ∧ (∀ y : Int, y ≠ 6 → y ≠ 7 → y ≠ 9 → y ≠ 10 → y ≠ 11 → y ≠ 12 → y ≠ 15 → N 117 y = M 117 y) ∧ N 121 0 = M 121 0
theorem FrN.refl : FrN M M := ⟨Same.refl, fun _ _ _ _ _ _ _ _ => rfl, rfl⟩
theorem FrN.trans (h : FrN M N) (g : FrN N K) : FrN M K := ⟨fun x hx => (g.1 x hx).trans (h.1 x hx), fun y a b e f i j l => (g.2.1 y a b e f i j l).trans (h.2.1 y a b e f i j l), g.2.2.trans h.2.2⟩
theorem FrM.ln (h : FrM M N) : FrN M N := ⟨h.1, fun y a b e f i j _ => h.2.1 y a b e f i j, h.2.2 0 (by omega)⟩
theorem Fn.ln (h : Fn M N) : FrN M N := h.fr.ln
theorem FrN.code {y v : Int} (hy : y ≠ 0) (h : FrN M N) : FrN M (up N 121 y v) := by
  refine ⟨fun x hx => ?_, fun y a b e f i j l => by rw [up_ne1 (by omega)]; exact h.2.1 y a b e f i j l, by rw [up_ne2 (by omega)]; exact h.2.2⟩
  have : x ≠ 121 := fun e => hx (by simp [e])
  rw [← h.1 x hx]
  funext y
  exact up_ne1 this
def GdN (t : Nat → Nat) (n : Nat) (M N : AM) (k : Nat) (h : Hl) (m : Mo) (pp : Nat) : Prop := FrN M N ∧ AtM N t n k ∧ ∃ c : Nat, c ≤ k ∧ MF (N 121) h m c pp
def BdN (t : Nat → Nat) (n : Nat) (M N : AM) (w k : Nat) : Prop := FrN M N ∧ N 117 11 = ((fkd (kin t n (pls t n (k))) w : Nat) : Int) ∧ N 117 12 = ((pls t n k : Nat) : Int) ∧ w ≠ 0
theorem BdN.ne (h : BdN t n M N w k) : N 117 11 ≠ 0 := by
  obtain ⟨_, h1, _, h2⟩ := h
  rw [h1]
  unfold fkd
  split <;> omega
def PoN (t : Nat → Nat) (n pp : Nat) (M N : AM) (r : Rz) : Prop :=
  match r with
  | Sum.inl x => BdN t n M N x.1 x.2
  | Sum.inr x => GdN t n M N x.1 x.2.1 x.2.2 pp
theorem PoN.bad (h : PoN t n pp M N (Rz.bad w k)) : BdN t n M N w k := h
theorem PoN.good (H : PoN t n pp M N (Rz.good k h m)) : GdN t n M N k h m pp := H
theorem BdN.po (h : BdN t n M N w k) : PoN t n pp M N (Rz.bad w k) := h
theorem GdN.po (H : GdN t n M N k h m pp) : PoN t n pp M N (Rz.good k h m) := H
theorem BdM.ln (hb : BdM t n M N w k) : BdN t n M N w k := ⟨hb.1.ln, hb.2⟩
theorem BdN.of (g : FrN M N) (h : BdN t n N K w k) : BdN t n M K w k := ⟨g.trans h.1, h.2⟩
theorem GdN.of (g : FrN M N) (H : GdN t n N K k h m pp) : GdN t n M K k h m pp := ⟨g.trans H.1, H.2⟩
theorem PoN.of {r : Rz} (g : FrN M N) (H : PoN t n pp N K r) : PoN t n pp M K r := by
  rcases rz_cases r with ⟨w, k, rfl⟩ | ⟨k, h, m, rfl⟩
  · exact BdN.of g H.bad
  · exact GdN.of g H.good
theorem BdN.code {y v : Int} (hy : y ≠ 0) (h : BdN t n M N w k) : BdN t n M (up N 121 y v) w k := ⟨h.1.code hy, by rw [up_ne1 (by omega)]; exact h.2.1, by rw [up_ne1 (by omega)]; exact h.2.2.1, h.2.2.2⟩
theorem nuZ_y {most k : Nat} {g : Nat → Rz} (q : kin t n (pls t n (k)) = 23) (hb : vlu t (pls t n (k)) (tEnd t n (pls t n (k)) - pls t n (k)) ≤ (most : Int)) : nuZ t n most k g = g (vlu t (pls t n (k)) (tEnd t n (pls t n (k)) - pls t n (k))).toNat := by unfold nuZ; rw [if_pos q, if_pos hb]
theorem nuZ_n {most k : Nat} {g : Nat → Rz} (q : kin t n (pls t n (k)) ≠ 23) : nuZ t n most k g = Rz.bad 2 k := by unfold nuZ; rw [if_neg q]
theorem nuZ_b {most k : Nat} {g : Nat → Rz} (q : kin t n (pls t n (k)) = 23) (hb : ¬ vlu t (pls t n (k)) (tEnd t n (pls t n (k)) - pls t n (k)) ≤ (most : Int)) : nuZ t n most k g = Rz.bad 3 k := by unfold nuZ; rw [if_pos q, if_neg hb]
/-- a number taken into the fresh row -/
theorem c_Md_takes_z {most : Nat} {g : Nat → Rz} (hd : 8 ≤ d) (hm : most ≤ 100) (hA : AtM M t n k) : MS G d mi_Md_takes [vr 117, vi 0, vi most] M (fun r M' => ∃ x : Int, r = some (vi x) ∧ FrM M M' ∧ M' 121 = M 121 ∧ ((∃ y : Nat, x = (y : Int) ∧ y ≤ most ∧ nuZ t n most k g = g y ∧ AtM M' t n (k + 1) ∧ kin t n (pls t n (k)) = 23) ∨ ∃ w, nuZ t n most k g = Rz.bad w k ∧ BdM t n M M' w k)) := by
  by_cases q : kin t n (pls t n (k)) = 23
  · by_cases hb : vlu t (pls t n (k)) (tEnd t n (pls t n (k)) - pls t n (k)) ≤ (most : Int)
    · have hv := vn_b q
      refine (c_Md_takes_yes hd hm hA q hb).mono ?_
      rintro r M' _ ⟨rfl, a, b⟩
      exact ⟨_, rfl, b.fr, b.1 121 (by simp), Or.inl ⟨(vlu t (pls t n (k)) (tEnd t n (pls t n (k)) - pls t n (k))).toNat, by omega, by omega, nuZ_y q hb, a, q⟩⟩
    · refine (c_Md_takes_big (by omega) hm hA q hb).mono ?_
      rintro r M' _ ⟨rfl, rfl⟩
      have hbd := BdM.mk' (M := M) (t := t) (n := n) (k := k) FrM.refl (show 3 ≠ 0 by omega)
      exact ⟨_, rfl, hbd.1, by rw [up_z (by omega), up_z (by omega)], Or.inr ⟨3, nuZ_b q hb, hbd⟩⟩
  · refine (c_Md_takes_no (by omega) hA q).mono ?_
    rintro r M' _ ⟨rfl, rfl⟩
    have hbd := BdM.mk' (M := M) (t := t) (n := n) (k := k) FrM.refl (show 2 ≠ 0 by omega)
    exact ⟨_, rfl, hbd.1, by rw [up_z (by omega), up_z (by omega)], Or.inr ⟨2, nuZ_n q, hbd⟩⟩
/-- a flag -/
noncomputable def FL1 (t : Nat → Nat) (n p k : Nat) (h : Hl) (m : Mo) : Rz := if kin t n (pls t n (k)) = 4 then nuZ t n 4 (k + 1) (fun x => Rz.good (k + 2) h (m.sSt p x)) else if kin t n (pls t n (k)) = 5 then nuZ t n 9 (k + 1) (fun x => Rz.good (k + 2) (h.sWt p x) m) else Rz.good (k + 1) (h.sRd p) m
theorem nu_bz {most k : Nat} {g : Nat → Rz} {f : Nat → Hl → Mo → Rz} : (nuZ t n most k g).bz f = nuZ t n most k (fun x => (g x).bz f) := by
  unfold nuZ
  split
  · split <;> rfl
  · rfl
theorem FL_1 {f p : Nat} (q : kin t n (pls t n (k)) = 4 ∨ kin t n (pls t n (k)) = 5 ∨ kin t n (pls t n (k)) = 6) : FL t n (f + 1) p k h m = (FL1 t n p k h m).bz (fun k1 h1 m1 => FL t n f p k1 h1 m1) := by
  rw [FL_s]
  unfold FL1
  split
  · rw [nu_bz]; rfl
  · split
    · rw [nu_bz]; rfl
    · rw [if_pos (by omega)]; rfl
theorem FL_0 {f p : Nat} (q : ¬ (kin t n (pls t n (k)) = 4 ∨ kin t n (pls t n (k)) = 5 ∨ kin t n (pls t n (k)) = 6)) : FL t n (f + 1) p k h m = Rz.good k h m := by
  rw [FL_s, if_neg (by omega), if_neg (by omega), if_neg (by omega)]
theorem c_Md_readFlag_no {p : Nat} (hd : 3 ≤ d) (hA : AtM M t n k) (q : ¬ (kin t n (pls t n (k)) = 4 ∨ kin t n (pls t n (k)) = 5 ∨ kin t n (pls t n (k)) = 6)) : MS G d mi_Md_readFlag [vr 117, vi p] M (fun r M' => r = some (vi 0) ∧ M' = M) := by
  refine MS.run ck_Md_readFlag [some (vr 117), some (vi p)] [] 12 fun _ _ => ?_
  simp only [wR, wB, wE0, wE1, wE2, wE3, g0, gS, s10, s11, s1S, s20, s21, s2S, kl0, kl1, kl2, kl3, sp0, sp1, sp2, sp3, cn1, cn2, cn3, cn4, cn5, cn6, jJa, lk0, lk1, jmS, jmN, s4_0, s4_1, s4_2, s4_3, s4_4, sw0, sw1, cKs, cKn, true_and, and_true, List.map_cons, List.map_nil, Nat.reduceAdd, Nat.zero_add, Int.reduceAdd, Nat.reduceEqDiff, reduceIte, Classical.not_not, b_Md_readFlag, shMd]
  refine ⟨by omega, MS.to (c_Md_eats_no (x := 4) (by omega) hA (by omega)) fun _ => ?_⟩
  simp only [wR, wB, wE0, wE1, wE2, wE3, g0, gS, s10, s11, s1S, s20, s21, s2S, kl0, kl1, kl2, kl3, sp0, sp1, sp2, sp3, cn1, cn2, cn3, cn4, cn5, cn6, jJa, lk0, lk1, jmS, jmN, s4_0, s4_1, s4_2, s4_3, s4_4, sw0, sw1, cKs, cKn, true_and, and_true, List.map_cons, List.map_nil, Nat.reduceAdd, Nat.zero_add, Int.reduceAdd, Nat.reduceEqDiff, reduceIte, Classical.not_not, b_Md_readFlag, shMd, Int.reduceEq, not_true_eq_false, not_false_eq_true, false_imp_iff, true_imp_iff, and_self]
  refine ⟨by omega, MS.to (c_Md_eats_no (x := 5) (by omega) hA (by omega)) fun _ => ?_⟩
  simp only [wR, wB, wE0, wE1, wE2, wE3, g0, gS, s10, s11, s1S, s20, s21, s2S, kl0, kl1, kl2, kl3, sp0, sp1, sp2, sp3, cn1, cn2, cn3, cn4, cn5, cn6, jJa, lk0, lk1, jmS, jmN, s4_0, s4_1, s4_2, s4_3, s4_4, sw0, sw1, cKs, cKn, true_and, and_true, List.map_cons, List.map_nil, Nat.reduceAdd, Nat.zero_add, Int.reduceAdd, Nat.reduceEqDiff, reduceIte, Classical.not_not, b_Md_readFlag, shMd, Int.reduceEq, not_true_eq_false, not_false_eq_true, false_imp_iff, true_imp_iff, and_self]
  refine ⟨by omega, MS.to (c_Md_eats_no (x := 6) (by omega) hA (by omega)) fun _ => ?_⟩
  simp only [wR, wB, wE0, wE1, wE2, wE3, g0, gS, s10, s11, s1S, s20, s21, s2S, kl0, kl1, kl2, kl3, sp0, sp1, sp2, sp3, cn1, cn2, cn3, cn4, cn5, cn6, jJa, lk0, lk1, jmS, jmN, s4_0, s4_1, s4_2, s4_3, s4_4, sw0, sw1, cKs, cKn, true_and, and_true, List.map_cons, List.map_nil, Nat.reduceAdd, Nat.zero_add, Int.reduceAdd, Nat.reduceEqDiff, reduceIte, Classical.not_not, b_Md_readFlag, shMd, Int.reduceEq, not_true_eq_false, not_false_eq_true, false_imp_iff, true_imp_iff, and_self]
  (repeat' (first | omega | (with_reducible exact True.intro) | exact ⟨by omega, by omega⟩ | (with_reducible exact Or.inr trivial) | (with_reducible exact Or.inl trivial) | (with_reducible assumption) | (with_reducible exact Same.refl) | (with_reducible rfl) | (with_reducible refine And.intro ?_ ?_) | (with_reducible intro _)))
theorem c_Md_readFlag_yes {p : Nat} (hd : 9 ≤ d) (hA : AtM M t n k) (q : kin t n (pls t n (k)) = 4 ∨ kin t n (pls t n (k)) = 5 ∨ kin t n (pls t n (k)) = 6) {c : Nat} (hc : c ≤ k) (hF : MF (M 121) h m c pp) (hP : h.P ≤ 5) (hp : p < h.P) : MS G d mi_Md_readFlag [vr 117, vi p] M (fun r M' => PoN t n pp M M' (FL1 t n p k h m) ∧ ((M' 117 11 = 0 ∧ r = some (vi 1)) ∨ (M' 117 11 ≠ 0 ∧ r = some (vi 0)))) := by
  refine MS.by ck_Md_readFlag [some (vr 117), some (vi p)] fun _ _ => ?_
  generalize hQ : (fun (r : Option AV) (M' : AM) => PoN t n pp M M' (FL1 t n p k h m) ∧ ((M' 117 11 = 0 ∧ r = some (vi 1)) ∨ (M' 117 11 ≠ 0 ∧ r = some (vi 0)))) = Q
  have a77 : ∀ N : AM, PoN t n pp M N (FL1 t n p k h m) → AW G d mi_Md_readFlag Q 77 [some (vr 117), some (vi p)] [] N := by
    intro N hN
    by_cases q0 : N 117 11 = 0
    · refine AW.run ck_Md_readFlag [] 12 77 ?_
      simp only [wR, wB, wE0, wE1, wE2, wE3, g0, gS, s10, s11, s1S, s20, s21, s2S, kl0, kl1, kl2, kl3, sp0, sp1, sp2, sp3, cn1, cn2, cn3, cn4, cn5, cn6, jJa, lk0, lk1, jmS, jmN, s4_0, s4_1, s4_2, s4_3, s4_4, sw0, sw1, cKs, cKn, true_and, and_true, List.map_cons, List.map_nil, Nat.reduceAdd, Nat.zero_add, Int.reduceAdd, Nat.reduceEqDiff, reduceIte, Classical.not_not, b_Md_readFlag, shMd, q0, Int.reduceEq, not_true_eq_false, not_false_eq_true, false_imp_iff, true_imp_iff, and_self]
      refine ⟨Or.inr trivial, ?_⟩
      rw [← hQ]
      exact ⟨hN, Or.inl ⟨q0, rfl⟩⟩
    · generalize hw : N 117 11 = w at q0
      refine AW.run ck_Md_readFlag [] 12 77 ?_
      simp only [wR, wB, wE0, wE1, wE2, wE3, g0, gS, s10, s11, s1S, s20, s21, s2S, kl0, kl1, kl2, kl3, sp0, sp1, sp2, sp3, cn1, cn2, cn3, cn4, cn5, cn6, jJa, lk0, lk1, jmS, jmN, s4_0, s4_1, s4_2, s4_3, s4_4, sw0, sw1, cKs, cKn, true_and, and_true, List.map_cons, List.map_nil, Nat.reduceAdd, Nat.zero_add, Int.reduceAdd, Nat.reduceEqDiff, reduceIte, Classical.not_not, b_Md_readFlag, shMd, hw]
      (repeat' (first | omega | (with_reducible exact True.intro) | exact ⟨by omega, by omega⟩ | (with_reducible exact Or.inr trivial) | (with_reducible exact Or.inl trivial) | (with_reducible assumption) | (with_reducible exact Same.refl) | (with_reducible rfl) | (with_reducible refine And.intro ?_ ?_) | (with_reducible intro _)))
      rw [← hQ]
      exact ⟨hN, Or.inr ⟨by rw [hw]; exact q0, rfl⟩⟩
  clear hQ
  unfold FL1 at a77
  by_cases q4 : kin t n (pls t n (k)) = 4
  · rw [if_pos q4] at a77
    refine AW.run ck_Md_readFlag [26, 77] 12 0 ?_
    simp only [wR, wB, wE0, wE1, wE2, wE3, g0, gS, s10, s11, s1S, s20, s21, s2S, kl0, kl1, kl2, kl3, sp0, sp1, sp2, sp3, cn1, cn2, cn3, cn4, cn5, cn6, jJa, lk0, lk1, jmS, jmN, s4_0, s4_1, s4_2, s4_3, s4_4, sw0, sw1, cKs, cKn, true_and, and_true, List.map_cons, List.map_nil, Nat.reduceAdd, Nat.zero_add, Int.reduceAdd, Nat.reduceEqDiff, reduceIte, Classical.not_not, b_Md_readFlag, shMd]
    refine ⟨by omega, (c_Md_eats_yes (x := 4) (by omega) hA q4 (by omega)).mono ?_⟩
    rintro r M1 _ ⟨rfl, hA1, hf1⟩
    have e1 := hf1.1 121 (by simp)
    simp only [wR, wB, wE0, wE1, wE2, wE3, g0, gS, s10, s11, s1S, s20, s21, s2S, kl0, kl1, kl2, kl3, sp0, sp1, sp2, sp3, cn1, cn2, cn3, cn4, cn5, cn6, jJa, lk0, lk1, jmS, jmN, s4_0, s4_1, s4_2, s4_3, s4_4, sw0, sw1, cKs, cKn, true_and, and_true, List.map_cons, List.map_nil, Nat.reduceAdd, Nat.zero_add, Int.reduceAdd, Nat.reduceEqDiff, reduceIte, Classical.not_not, b_Md_readFlag, shMd, Int.reduceEq, not_true_eq_false, not_false_eq_true, false_imp_iff, true_imp_iff, and_self]
    (repeat' (first | omega | (with_reducible exact True.intro) | exact ⟨by omega, by omega⟩ | (with_reducible exact Or.inr trivial) | (with_reducible exact Or.inl trivial) | (with_reducible assumption) | (with_reducible exact Same.refl) | (with_reducible rfl) | (with_reducible refine And.intro ?_ ?_) | (with_reducible intro _)))
    refine (c_Md_takes_z (most := 4) (g := fun x => Rz.good (k + 2) h (m.sSt p x)) (by omega) (by omega) hA1).mono ?_
    rintro r M2 _ ⟨x, rfl, hf2, e2, hx⟩
    simp only [wR, wB, wE0, wE1, wE2, wE3, g0, gS, s10, s11, s1S, s20, s21, s2S, kl0, kl1, kl2, kl3, sp0, sp1, sp2, sp3, cn1, cn2, cn3, cn4, cn5, cn6, jJa, lk0, lk1, jmS, jmN, s4_0, s4_1, s4_2, s4_3, s4_4, sw0, sw1, cKs, cKn, true_and, and_true, List.map_cons, List.map_nil, Nat.reduceAdd, Nat.zero_add, Int.reduceAdd, Nat.reduceEqDiff, reduceIte, Classical.not_not, b_Md_readFlag, shMd, Int.reduceEq, not_true_eq_false, not_false_eq_true, false_imp_iff, true_imp_iff, and_self]
    (repeat' (first | omega | (with_reducible exact True.intro) | exact ⟨by omega, by omega⟩ | (with_reducible exact Or.inr trivial) | (with_reducible exact Or.inl trivial) | (with_reducible assumption) | (with_reducible exact Same.refl) | (with_reducible rfl) | (with_reducible refine And.intro ?_ ?_) | (with_reducible intro _)))
    refine a77 _ ?_
    rcases hx with ⟨y, rfl, hy, hz, hA2, _⟩ | ⟨w, hz, hb⟩
    · rw [hz]
      refine ⟨(hf1.ln.trans hf2.ln).code (by omega), hA2.code rfl, c, by omega, ?_⟩
      rw [up_stA, e2, e1]
      exact hF.strn hP hp
    · rw [hz]
      exact (BdN.code (by omega) (BdN.of hf1.ln hb.ln)).po
  by_cases q5 : kin t n (pls t n (k)) = 5
  · rw [if_neg q4, if_pos q5] at a77
    refine AW.run ck_Md_readFlag [26, 77] 12 0 ?_
    simp only [wR, wB, wE0, wE1, wE2, wE3, g0, gS, s10, s11, s1S, s20, s21, s2S, kl0, kl1, kl2, kl3, sp0, sp1, sp2, sp3, cn1, cn2, cn3, cn4, cn5, cn6, jJa, lk0, lk1, jmS, jmN, s4_0, s4_1, s4_2, s4_3, s4_4, sw0, sw1, cKs, cKn, true_and, and_true, List.map_cons, List.map_nil, Nat.reduceAdd, Nat.zero_add, Int.reduceAdd, Nat.reduceEqDiff, reduceIte, Classical.not_not, b_Md_readFlag, shMd]
    refine ⟨by omega, MS.to (c_Md_eats_no (x := 4) (by omega) hA q4) fun _ => ?_⟩
    simp only [wR, wB, wE0, wE1, wE2, wE3, g0, gS, s10, s11, s1S, s20, s21, s2S, kl0, kl1, kl2, kl3, sp0, sp1, sp2, sp3, cn1, cn2, cn3, cn4, cn5, cn6, jJa, lk0, lk1, jmS, jmN, s4_0, s4_1, s4_2, s4_3, s4_4, sw0, sw1, cKs, cKn, true_and, and_true, List.map_cons, List.map_nil, Nat.reduceAdd, Nat.zero_add, Int.reduceAdd, Nat.reduceEqDiff, reduceIte, Classical.not_not, b_Md_readFlag, shMd, Int.reduceEq, not_true_eq_false, not_false_eq_true, false_imp_iff, true_imp_iff, and_self]
    refine AW.run ck_Md_readFlag [53, 77] 12 26 ?_
    simp only [wR, wB, wE0, wE1, wE2, wE3, g0, gS, s10, s11, s1S, s20, s21, s2S, kl0, kl1, kl2, kl3, sp0, sp1, sp2, sp3, cn1, cn2, cn3, cn4, cn5, cn6, jJa, lk0, lk1, jmS, jmN, s4_0, s4_1, s4_2, s4_3, s4_4, sw0, sw1, cKs, cKn, true_and, and_true, List.map_cons, List.map_nil, Nat.reduceAdd, Nat.zero_add, Int.reduceAdd, Nat.reduceEqDiff, reduceIte, Classical.not_not, b_Md_readFlag, shMd]
    refine ⟨by omega, (c_Md_eats_yes (x := 5) (by omega) hA q5 (by omega)).mono ?_⟩
    rintro r M1 _ ⟨rfl, hA1, hf1⟩
    have e1 := hf1.1 121 (by simp)
    simp only [wR, wB, wE0, wE1, wE2, wE3, g0, gS, s10, s11, s1S, s20, s21, s2S, kl0, kl1, kl2, kl3, sp0, sp1, sp2, sp3, cn1, cn2, cn3, cn4, cn5, cn6, jJa, lk0, lk1, jmS, jmN, s4_0, s4_1, s4_2, s4_3, s4_4, sw0, sw1, cKs, cKn, true_and, and_true, List.map_cons, List.map_nil, Nat.reduceAdd, Nat.zero_add, Int.reduceAdd, Nat.reduceEqDiff, reduceIte, Classical.not_not, b_Md_readFlag, shMd, Int.reduceEq, not_true_eq_false, not_false_eq_true, false_imp_iff, true_imp_iff, and_self]
    (repeat' (first | omega | (with_reducible exact True.intro) | exact ⟨by omega, by omega⟩ | (with_reducible exact Or.inr trivial) | (with_reducible exact Or.inl trivial) | (with_reducible assumption) | (with_reducible exact Same.refl) | (with_reducible rfl) | (with_reducible refine And.intro ?_ ?_) | (with_reducible intro _)))
    refine (c_Md_takes_z (most := 9) (g := fun x => Rz.good (k + 2) (h.sWt p x) m) (by omega) (by omega) hA1).mono ?_
    rintro r M2 _ ⟨x, rfl, hf2, e2, hx⟩
    simp only [wR, wB, wE0, wE1, wE2, wE3, g0, gS, s10, s11, s1S, s20, s21, s2S, kl0, kl1, kl2, kl3, sp0, sp1, sp2, sp3, cn1, cn2, cn3, cn4, cn5, cn6, jJa, lk0, lk1, jmS, jmN, s4_0, s4_1, s4_2, s4_3, s4_4, sw0, sw1, cKs, cKn, true_and, and_true, List.map_cons, List.map_nil, Nat.reduceAdd, Nat.zero_add, Int.reduceAdd, Nat.reduceEqDiff, reduceIte, Classical.not_not, b_Md_readFlag, shMd, Int.reduceEq, not_true_eq_false, not_false_eq_true, false_imp_iff, true_imp_iff, and_self]
    (repeat' (first | omega | (with_reducible exact True.intro) | exact ⟨by omega, by omega⟩ | (with_reducible exact Or.inr trivial) | (with_reducible exact Or.inl trivial) | (with_reducible assumption) | (with_reducible exact Same.refl) | (with_reducible rfl) | (with_reducible refine And.intro ?_ ?_) | (with_reducible intro _)))
    refine a77 _ ?_
    rcases hx with ⟨y, rfl, hy, hz, hA2, _⟩ | ⟨w, hz, hb⟩
    · rw [hz]
      refine ⟨(hf1.ln.trans hf2.ln).code (by omega), hA2.code rfl, c, by omega, ?_⟩
      rw [up_stA, e2, e1]
      exact hF.wt hP hp
    · rw [hz]
      exact (BdN.code (by omega) (BdN.of hf1.ln hb.ln)).po
  · rw [if_neg q4, if_neg q5] at a77
    have q6 : kin t n (pls t n (k)) = 6 := by omega
    refine AW.run ck_Md_readFlag [26, 77] 12 0 ?_
    simp only [wR, wB, wE0, wE1, wE2, wE3, g0, gS, s10, s11, s1S, s20, s21, s2S, kl0, kl1, kl2, kl3, sp0, sp1, sp2, sp3, cn1, cn2, cn3, cn4, cn5, cn6, jJa, lk0, lk1, jmS, jmN, s4_0, s4_1, s4_2, s4_3, s4_4, sw0, sw1, cKs, cKn, true_and, and_true, List.map_cons, List.map_nil, Nat.reduceAdd, Nat.zero_add, Int.reduceAdd, Nat.reduceEqDiff, reduceIte, Classical.not_not, b_Md_readFlag, shMd]
    refine ⟨by omega, MS.to (c_Md_eats_no (x := 4) (by omega) hA q4) fun _ => ?_⟩
    simp only [wR, wB, wE0, wE1, wE2, wE3, g0, gS, s10, s11, s1S, s20, s21, s2S, kl0, kl1, kl2, kl3, sp0, sp1, sp2, sp3, cn1, cn2, cn3, cn4, cn5, cn6, jJa, lk0, lk1, jmS, jmN, s4_0, s4_1, s4_2, s4_3, s4_4, sw0, sw1, cKs, cKn, true_and, and_true, List.map_cons, List.map_nil, Nat.reduceAdd, Nat.zero_add, Int.reduceAdd, Nat.reduceEqDiff, reduceIte, Classical.not_not, b_Md_readFlag, shMd, Int.reduceEq, not_true_eq_false, not_false_eq_true, false_imp_iff, true_imp_iff, and_self]
    refine AW.run ck_Md_readFlag [53, 77] 12 26 ?_
    simp only [wR, wB, wE0, wE1, wE2, wE3, g0, gS, s10, s11, s1S, s20, s21, s2S, kl0, kl1, kl2, kl3, sp0, sp1, sp2, sp3, cn1, cn2, cn3, cn4, cn5, cn6, jJa, lk0, lk1, jmS, jmN, s4_0, s4_1, s4_2, s4_3, s4_4, sw0, sw1, cKs, cKn, true_and, and_true, List.map_cons, List.map_nil, Nat.reduceAdd, Nat.zero_add, Int.reduceAdd, Nat.reduceEqDiff, reduceIte, Classical.not_not, b_Md_readFlag, shMd]
    refine ⟨by omega, MS.to (c_Md_eats_no (x := 5) (by omega) hA q5) fun _ => ?_⟩
    simp only [wR, wB, wE0, wE1, wE2, wE3, g0, gS, s10, s11, s1S, s20, s21, s2S, kl0, kl1, kl2, kl3, sp0, sp1, sp2, sp3, cn1, cn2, cn3, cn4, cn5, cn6, jJa, lk0, lk1, jmS, jmN, s4_0, s4_1, s4_2, s4_3, s4_4, sw0, sw1, cKs, cKn, true_and, and_true, List.map_cons, List.map_nil, Nat.reduceAdd, Nat.zero_add, Int.reduceAdd, Nat.reduceEqDiff, reduceIte, Classical.not_not, b_Md_readFlag, shMd, Int.reduceEq, not_true_eq_false, not_false_eq_true, false_imp_iff, true_imp_iff, and_self]
    refine AW.run ck_Md_readFlag [77] 12 53 ?_
    simp only [wR, wB, wE0, wE1, wE2, wE3, g0, gS, s10, s11, s1S, s20, s21, s2S, kl0, kl1, kl2, kl3, sp0, sp1, sp2, sp3, cn1, cn2, cn3, cn4, cn5, cn6, jJa, lk0, lk1, jmS, jmN, s4_0, s4_1, s4_2, s4_3, s4_4, sw0, sw1, cKs, cKn, true_and, and_true, List.map_cons, List.map_nil, Nat.reduceAdd, Nat.zero_add, Int.reduceAdd, Nat.reduceEqDiff, reduceIte, Classical.not_not, b_Md_readFlag, shMd]
    refine ⟨by omega, (c_Md_eats_yes (x := 6) (by omega) hA q6 (by omega)).mono ?_⟩
    rintro r M1 _ ⟨rfl, hA1, hf1⟩
    have e1 := hf1.1 121 (by simp)
    simp only [wR, wB, wE0, wE1, wE2, wE3, g0, gS, s10, s11, s1S, s20, s21, s2S, kl0, kl1, kl2, kl3, sp0, sp1, sp2, sp3, cn1, cn2, cn3, cn4, cn5, cn6, jJa, lk0, lk1, jmS, jmN, s4_0, s4_1, s4_2, s4_3, s4_4, sw0, sw1, cKs, cKn, true_and, and_true, List.map_cons, List.map_nil, Nat.reduceAdd, Nat.zero_add, Int.reduceAdd, Nat.reduceEqDiff, reduceIte, Classical.not_not, b_Md_readFlag, shMd, Int.reduceEq, not_true_eq_false, not_false_eq_true, false_imp_iff, true_imp_iff, and_self]
    (repeat' (first | omega | (with_reducible exact True.intro) | exact ⟨by omega, by omega⟩ | (with_reducible exact Or.inr trivial) | (with_reducible exact Or.inl trivial) | (with_reducible assumption) | (with_reducible exact Same.refl) | (with_reducible rfl) | (with_reducible refine And.intro ?_ ?_) | (with_reducible intro _)))
    refine a77 _ ?_
    refine ⟨hf1.ln.code (by omega), hA1.code rfl, c, by omega, ?_⟩
    rw [up_stA, e1]
    exact hF.rod hP hp
end SD
