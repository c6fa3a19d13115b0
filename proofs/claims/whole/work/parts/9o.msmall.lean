section PC
variable {G : AG} {d : Nat} {M : AM} {t : Nat → Nat} {n : Nat}
/-- the model at a token, with no fault yet -/
def AtM (M : AM) (t : Nat → Nat) (n k : Nat) : Prop := TxM M t n ∧ NxM M t n (pls t n k) ∧ M 117 11 = 0
theorem kin_le {i : Nat} : kin t n i ≤ 41 := by
  have := kin_v (t := t) (n := n) (i := i)
  unfold vK at this
  omega
theorem c_Md_next_at {k : Nat} (hd : 7 ≤ d) (h : AtM M t n k) (hk : kin t n (pls t n k) ≠ 24) : MS G d mi_Md_next [vr 117] M (fun r M' => r = none ∧ AtM M' t n (k + 1) ∧ Fn M M') := by
  obtain ⟨h1, h2, h3⟩ := h
  have hlt := kin_lt hk
  refine (c_Md_next hd h1 (h2.2.2.1 hlt) (tEnd_le hlt)).mono ?_
  rintro r M' _ ⟨e, u, v⟩
  exact ⟨e, ⟨h1.fn v, u, by rw [v.2 11 (by omega) (by omega) (by omega) (by omega)]; exact h3⟩, v⟩
theorem c_Md_is {k x : Nat} (h : AtM M t n k) : MS G d mi_Md_is [vr 117, vi x] M (fun r M' => r = some (vi (if kin t n (pls t n k) = x then 1 else 0)) ∧ M' = M) := by
  obtain ⟨h1, h2, h3⟩ := h
  have e := h2.2.1
  refine MS.run ck_Md_is [some (vr 117), some (vi x)] [] 10 fun _ _ => ?_
  generalize kin t n (pls t n k) = kk at e ⊢
  simp only [wR, wB, wE0, wE1, wE2, wE3, g0, gS, s10, s11, s1S, s20, s21, s2S, kl0, kl1, kl2, kl3, sp0, sp1, sp2, sp3, cn1, cn2, cn3, cn4, cn5, cn6, jJa, lk0, lk1, jmS, jmN, s4_0, s4_1, s4_2, s4_3, s4_4, sw0, sw1, cKs, cKn, true_and, and_true, List.map_cons, List.map_nil, Nat.reduceAdd, Nat.zero_add, Int.reduceAdd, Nat.reduceEqDiff, reduceIte, Classical.not_not, b_Md_is, shMd, h3, e, Int.reduceEq, not_true_eq_false, not_false_eq_true, false_imp_iff, true_imp_iff, and_self]
  by_cases q : kk = x
  · rw [if_pos q]; (repeat' (first | omega | (with_reducible exact True.intro) | exact ⟨by omega, by omega⟩ | (with_reducible exact Or.inr trivial) | (with_reducible exact Or.inl trivial) | (with_reducible assumption) | (with_reducible exact Same.refl) | (with_reducible rfl) | (with_reducible refine And.intro ?_ ?_) | (with_reducible intro _)))
  · rw [if_neg q]; (repeat' (first | omega | (with_reducible exact True.intro) | exact ⟨by omega, by omega⟩ | (with_reducible exact Or.inr trivial) | (with_reducible exact Or.inl trivial) | (with_reducible assumption) | (with_reducible exact Same.refl) | (with_reducible rfl) | (with_reducible refine And.intro ?_ ?_) | (with_reducible intro _)))
theorem c_Md_is_f {x : Int} (h : M 117 11 ≠ 0) : MS G d mi_Md_is [vr 117, vi x] M (fun r M' => r = some (vi 0) ∧ M' = M) := by
  refine MS.run ck_Md_is [some (vr 117), some (vi x)] [] 10 fun _ _ => ?_
  generalize hw : M 117 11 = w at h
  simp only [wR, wB, wE0, wE1, wE2, wE3, g0, gS, s10, s11, s1S, s20, s21, s2S, kl0, kl1, kl2, kl3, sp0, sp1, sp2, sp3, cn1, cn2, cn3, cn4, cn5, cn6, jJa, lk0, lk1, jmS, jmN, s4_0, s4_1, s4_2, s4_3, s4_4, sw0, sw1, cKs, cKn, true_and, and_true, List.map_cons, List.map_nil, Nat.reduceAdd, Nat.zero_add, Int.reduceAdd, Nat.reduceEqDiff, reduceIte, Classical.not_not, b_Md_is, shMd, hw]
  (repeat' (first | omega | (with_reducible exact True.intro) | exact ⟨by omega, by omega⟩ | (with_reducible exact Or.inr trivial) | (with_reducible exact Or.inl trivial) | (with_reducible assumption) | (with_reducible exact Same.refl) | (with_reducible rfl) | (with_reducible refine And.intro ?_ ?_) | (with_reducible intro _)))
theorem c_Md_eats_no {k x : Nat} (hd : 1 ≤ d) (h : AtM M t n k) (hx : kin t n (pls t n k) ≠ x) : MS G d mi_Md_eats [vr 117, vi x] M (fun r M' => r = some (vi 0) ∧ M' = M) := by
  refine MS.run ck_Md_eats [some (vr 117), some (vi x)] [] 10 fun _ _ => ?_
  simp only [wR, wB, wE0, wE1, wE2, wE3, g0, gS, s10, s11, s1S, s20, s21, s2S, kl0, kl1, kl2, kl3, sp0, sp1, sp2, sp3, cn1, cn2, cn3, cn4, cn5, cn6, jJa, lk0, lk1, jmS, jmN, s4_0, s4_1, s4_2, s4_3, s4_4, sw0, sw1, cKs, cKn, true_and, and_true, List.map_cons, List.map_nil, Nat.reduceAdd, Nat.zero_add, Int.reduceAdd, Nat.reduceEqDiff, reduceIte, Classical.not_not, b_Md_eats, shMd]
  refine ⟨by omega, MS.to (c_Md_is h) fun _ => ?_⟩
  rw [if_neg hx]
  simp only [wR, wB, wE0, wE1, wE2, wE3, g0, gS, s10, s11, s1S, s20, s21, s2S, kl0, kl1, kl2, kl3, sp0, sp1, sp2, sp3, cn1, cn2, cn3, cn4, cn5, cn6, jJa, lk0, lk1, jmS, jmN, s4_0, s4_1, s4_2, s4_3, s4_4, sw0, sw1, cKs, cKn, true_and, and_true, List.map_cons, List.map_nil, Nat.reduceAdd, Nat.zero_add, Int.reduceAdd, Nat.reduceEqDiff, reduceIte, Classical.not_not, b_Md_eats, Int.reduceEq, not_true_eq_false, not_false_eq_true, false_imp_iff, true_imp_iff, and_self]
  exact Or.inl trivial
theorem c_Md_eats_yes {k x : Nat} (hd : 8 ≤ d) (h : AtM M t n k) (hx : kin t n (pls t n k) = x) (h24 : x ≠ 24) : MS G d mi_Md_eats [vr 117, vi x] M (fun r M' => r = some (vi 1) ∧ AtM M' t n (k + 1) ∧ Fn M M') := by
  refine MS.run ck_Md_eats [some (vr 117), some (vi x)] [] 10 fun _ _ => ?_
  simp only [wR, wB, wE0, wE1, wE2, wE3, g0, gS, s10, s11, s1S, s20, s21, s2S, kl0, kl1, kl2, kl3, sp0, sp1, sp2, sp3, cn1, cn2, cn3, cn4, cn5, cn6, jJa, lk0, lk1, jmS, jmN, s4_0, s4_1, s4_2, s4_3, s4_4, sw0, sw1, cKs, cKn, true_and, and_true, List.map_cons, List.map_nil, Nat.reduceAdd, Nat.zero_add, Int.reduceAdd, Nat.reduceEqDiff, reduceIte, Classical.not_not, b_Md_eats, shMd]
  refine ⟨by omega, MS.to (c_Md_is h) fun _ => ?_⟩
  rw [if_pos hx]
  simp only [wR, wB, wE0, wE1, wE2, wE3, g0, gS, s10, s11, s1S, s20, s21, s2S, kl0, kl1, kl2, kl3, sp0, sp1, sp2, sp3, cn1, cn2, cn3, cn4, cn5, cn6, jJa, lk0, lk1, jmS, jmN, s4_0, s4_1, s4_2, s4_3, s4_4, sw0, sw1, cKs, cKn, true_and, and_true, List.map_cons, List.map_nil, Nat.reduceAdd, Nat.zero_add, Int.reduceAdd, Nat.reduceEqDiff, reduceIte, Classical.not_not, b_Md_eats, Int.reduceEq, not_true_eq_false, not_false_eq_true, false_imp_iff, true_imp_iff, and_self, shMd]
  (repeat' (first | omega | (with_reducible exact True.intro) | exact ⟨by omega, by omega⟩ | (with_reducible exact Or.inr trivial) | (with_reducible exact Or.inl trivial) | (with_reducible assumption) | (with_reducible exact Same.refl) | (with_reducible rfl) | (with_reducible refine And.intro ?_ ?_) | (with_reducible intro _)))
  refine (c_Md_next_at (d := d - 1) (by omega) h (by omega)).mono ?_
  rintro r M' _ ⟨rfl, u, v⟩
  simp only [wR, wB, wE0, wE1, wE2, wE3, g0, gS, s10, s11, s1S, s20, s21, s2S, kl0, kl1, kl2, kl3, sp0, sp1, sp2, sp3, cn1, cn2, cn3, cn4, cn5, cn6, jJa, lk0, lk1, jmS, jmN, s4_0, s4_1, s4_2, s4_3, s4_4, sw0, sw1, cKs, cKn, true_and, and_true, List.map_cons, List.map_nil, Nat.reduceAdd, Nat.zero_add, Int.reduceAdd, Nat.reduceEqDiff, reduceIte, Classical.not_not, b_Md_eats]
  exact ⟨Or.inr trivial, u, v⟩
theorem c_Md_eats_f {x : Int} (hd : 1 ≤ d) (h : M 117 11 ≠ 0) : MS G d mi_Md_eats [vr 117, vi x] M (fun r M' => r = some (vi 0) ∧ M' = M) := by
  refine MS.run ck_Md_eats [some (vr 117), some (vi x)] [] 10 fun _ _ => ?_
  simp only [wR, wB, wE0, wE1, wE2, wE3, g0, gS, s10, s11, s1S, s20, s21, s2S, kl0, kl1, kl2, kl3, sp0, sp1, sp2, sp3, cn1, cn2, cn3, cn4, cn5, cn6, jJa, lk0, lk1, jmS, jmN, s4_0, s4_1, s4_2, s4_3, s4_4, sw0, sw1, cKs, cKn, true_and, and_true, List.map_cons, List.map_nil, Nat.reduceAdd, Nat.zero_add, Int.reduceAdd, Nat.reduceEqDiff, reduceIte, Classical.not_not, b_Md_eats, shMd]
  refine ⟨by omega, MS.to (c_Md_is_f h) fun _ => ?_⟩
  simp only [wR, wB, wE0, wE1, wE2, wE3, g0, gS, s10, s11, s1S, s20, s21, s2S, kl0, kl1, kl2, kl3, sp0, sp1, sp2, sp3, cn1, cn2, cn3, cn4, cn5, cn6, jJa, lk0, lk1, jmS, jmN, s4_0, s4_1, s4_2, s4_3, s4_4, sw0, sw1, cKs, cKn, true_and, and_true, List.map_cons, List.map_nil, Nat.reduceAdd, Nat.zero_add, Int.reduceAdd, Nat.reduceEqDiff, reduceIte, Classical.not_not, b_Md_eats, Int.reduceEq, not_true_eq_false, not_false_eq_true, false_imp_iff, true_imp_iff, and_self]
  exact Or.inl trivial
/-- a fault's kind -/
def fkd (k w : Nat) : Nat := if k = 25 then 1 else w
theorem c_Md_fails {k w : Nat} (h : AtM M t n k) : MS G d mi_Md_fails [vr 117, vi w] M (fun r M' => r = none ∧ M' = up (up M 117 11 (fkd (kin t n (pls t n k)) w)) 117 12 (pls t n k)) := by
  obtain ⟨h1, h2, h3⟩ := h
  have e := h2.2.1
  have e6 := h2.1
  refine MS.run ck_Md_fails [some (vr 117), some (vi w)] [] 10 fun _ _ => ?_
  generalize kin t n (pls t n k) = kk at e ⊢
  generalize pls t n k = p at e6 ⊢
  have e6' : ∀ v : Int, up M 117 11 v 117 6 = p := fun v => by rw [up_ne2 (by omega)]; exact e6
  simp only [wR, wB, wE0, wE1, wE2, wE3, g0, gS, s10, s11, s1S, s20, s21, s2S, kl0, kl1, kl2, kl3, sp0, sp1, sp2, sp3, cn1, cn2, cn3, cn4, cn5, cn6, jJa, lk0, lk1, jmS, jmN, s4_0, s4_1, s4_2, s4_3, s4_4, sw0, sw1, cKs, cKn, true_and, and_true, List.map_cons, List.map_nil, Nat.reduceAdd, Nat.zero_add, Int.reduceAdd, Nat.reduceEqDiff, reduceIte, Classical.not_not, b_Md_fails, shMd, h3, e, e6', Int.reduceEq, not_true_eq_false, not_false_eq_true, false_imp_iff, true_imp_iff, and_self]
  by_cases q : kk = 25
  · have : fkd kk w = 1 := if_pos q
    rw [this]; (repeat' (first | omega | (with_reducible exact True.intro) | exact ⟨by omega, by omega⟩ | (with_reducible exact Or.inr trivial) | (with_reducible exact Or.inl trivial) | (with_reducible assumption) | (with_reducible exact Same.refl) | (with_reducible rfl) | (with_reducible refine And.intro ?_ ?_) | (with_reducible intro _)))
    all_goals rfl
  · have : fkd kk w = w := if_neg q
    rw [this]; (repeat' (first | omega | (with_reducible exact True.intro) | exact ⟨by omega, by omega⟩ | (with_reducible exact Or.inr trivial) | (with_reducible exact Or.inl trivial) | (with_reducible assumption) | (with_reducible exact Same.refl) | (with_reducible rfl) | (with_reducible refine And.intro ?_ ?_) | (with_reducible intro _)))
theorem c_Md_fails_f {w : Int} (h : M 117 11 ≠ 0) : MS G d mi_Md_fails [vr 117, vi w] M (fun r M' => r = none ∧ M' = M) := by
  refine MS.run ck_Md_fails [some (vr 117), some (vi w)] [] 10 fun _ _ => ?_
  generalize hw : M 117 11 = x at h
  simp only [wR, wB, wE0, wE1, wE2, wE3, g0, gS, s10, s11, s1S, s20, s21, s2S, kl0, kl1, kl2, kl3, sp0, sp1, sp2, sp3, cn1, cn2, cn3, cn4, cn5, cn6, jJa, lk0, lk1, jmS, jmN, s4_0, s4_1, s4_2, s4_3, s4_4, sw0, sw1, cKs, cKn, true_and, and_true, List.map_cons, List.map_nil, Nat.reduceAdd, Nat.zero_add, Int.reduceAdd, Nat.reduceEqDiff, reduceIte, Classical.not_not, b_Md_fails, shMd, hw]
  (repeat' (first | omega | (with_reducible exact True.intro) | exact ⟨by omega, by omega⟩ | (with_reducible exact Or.inr trivial) | (with_reducible exact Or.inl trivial) | (with_reducible assumption) | (with_reducible exact Same.refl) | (with_reducible rfl) | (with_reducible refine And.intro ?_ ?_) | (with_reducible intro _)))
theorem c_Md_codes_f {w : Int} (h : M 117 11 ≠ 0) : MS G d mi_Md_codes [vr 117, vi w] M (fun r M' => r = none ∧ M' = M) := by
  refine MS.run ck_Md_codes [some (vr 117), some (vi w)] [] 10 fun _ _ => ?_
  generalize hw : M 117 11 = x at h
  simp only [wR, wB, wE0, wE1, wE2, wE3, g0, gS, s10, s11, s1S, s20, s21, s2S, kl0, kl1, kl2, kl3, sp0, sp1, sp2, sp3, cn1, cn2, cn3, cn4, cn5, cn6, jJa, lk0, lk1, jmS, jmN, s4_0, s4_1, s4_2, s4_3, s4_4, sw0, sw1, cKs, cKn, true_and, and_true, List.map_cons, List.map_nil, Nat.reduceAdd, Nat.zero_add, Int.reduceAdd, Nat.reduceEqDiff, reduceIte, Classical.not_not, b_Md_codes, shMd, hw]
  (repeat' (first | omega | (with_reducible exact True.intro) | exact ⟨by omega, by omega⟩ | (with_reducible exact Or.inr trivial) | (with_reducible exact Or.inl trivial) | (with_reducible assumption) | (with_reducible exact Same.refl) | (with_reducible rfl) | (with_reducible refine And.intro ?_ ?_) | (with_reducible intro _)))
theorem c_Md_codes {c : Nat} {w : Int} (h : M 117 11 = 0) (hc : M 121 152 = c) (hc9 : c < 900) : MS G d mi_Md_codes [vr 117, vi w] M (fun r M' => r = none ∧ M' = up (up M 121 (153 + (c : Int)) w) 121 152 ((c + 1 : Nat) : Int)) := by
  refine MS.run ck_Md_codes [some (vr 117), some (vi w)] [] 10 fun _ _ => ?_
  have hc' : up M 121 (153 + (c : Int)) w 121 152 = c := by rw [up_ne2 (by omega)]; exact hc
  simp only [wR, wB, wE0, wE1, wE2, wE3, g0, gS, s10, s11, s1S, s20, s21, s2S, kl0, kl1, kl2, kl3, sp0, sp1, sp2, sp3, cn1, cn2, cn3, cn4, cn5, cn6, jJa, lk0, lk1, jmS, jmN, s4_0, s4_1, s4_2, s4_3, s4_4, sw0, sw1, cKs, cKn, true_and, and_true, List.map_cons, List.map_nil, Nat.reduceAdd, Nat.zero_add, Int.reduceAdd, Nat.reduceEqDiff, reduceIte, Classical.not_not, b_Md_codes, shMd, h, hc, hc', Int.reduceEq, not_true_eq_false, not_false_eq_true, false_imp_iff, true_imp_iff, and_self, ce]
  (repeat' (first | omega | (with_reducible exact True.intro) | exact ⟨by omega, by omega⟩ | (with_reducible exact Or.inr trivial) | (with_reducible exact Or.inl trivial) | (with_reducible assumption) | (with_reducible exact Same.refl) | (with_reducible rfl) | (with_reducible refine And.intro ?_ ?_) | (with_reducible intro _)))
theorem c_Md_goesIn_in {k v : Nat} (hd : 8 ≤ d) (h : AtM M t n k) (hk : kin t n (pls t n k) ≠ 24) (hv : v < 6) : MS G d mi_Md_goesIn [vr 117, vi v] M (fun r M' => r = some (vi 1) ∧ AtM M' t n (k + 1) ∧ Fn M M') := by
  have h3 := h.2.2
  refine MS.run ck_Md_goesIn [some (vr 117), some (vi v)] [] 10 fun _ _ => ?_
  simp only [wR, wB, wE0, wE1, wE2, wE3, g0, gS, s10, s11, s1S, s20, s21, s2S, kl0, kl1, kl2, kl3, sp0, sp1, sp2, sp3, cn1, cn2, cn3, cn4, cn5, cn6, jJa, lk0, lk1, jmS, jmN, s4_0, s4_1, s4_2, s4_3, s4_4, sw0, sw1, cKs, cKn, true_and, and_true, List.map_cons, List.map_nil, Nat.reduceAdd, Nat.zero_add, Int.reduceAdd, Nat.reduceEqDiff, reduceIte, Classical.not_not, b_Md_goesIn, shMd, h3, Int.reduceEq, not_true_eq_false, not_false_eq_true, false_imp_iff, true_imp_iff, and_self]
  (repeat' (first | omega | (with_reducible exact True.intro) | exact ⟨by omega, by omega⟩ | (with_reducible exact Or.inr trivial) | (with_reducible exact Or.inl trivial) | (with_reducible assumption) | (with_reducible exact Same.refl) | (with_reducible rfl) | (with_reducible refine And.intro ?_ ?_) | (with_reducible intro _)))
  refine (c_Md_next_at (d := d - 1) (by omega) h hk).mono ?_
  rintro r M' _ ⟨rfl, u, v⟩
  have h4 := u.2.2
  simp only [wR, wB, wE0, wE1, wE2, wE3, g0, gS, s10, s11, s1S, s20, s21, s2S, kl0, kl1, kl2, kl3, sp0, sp1, sp2, sp3, cn1, cn2, cn3, cn4, cn5, cn6, jJa, lk0, lk1, jmS, jmN, s4_0, s4_1, s4_2, s4_3, s4_4, sw0, sw1, cKs, cKn, true_and, and_true, List.map_cons, List.map_nil, Nat.reduceAdd, Nat.zero_add, Int.reduceAdd, Nat.reduceEqDiff, reduceIte, Classical.not_not, b_Md_goesIn, shMd, h4, Int.reduceEq, not_true_eq_false, not_false_eq_true, false_imp_iff, true_imp_iff, and_self]
  exact ⟨Or.inr trivial, u, v⟩
theorem c_Md_goesIn_no {k : Nat} (hd : 8 ≤ d) (h : AtM M t n k) : MS G d mi_Md_goesIn [vr 117, vi 6] M (fun r M' => r = some (vi 0) ∧ M' = up (up M 117 11 (fkd (kin t n (pls t n k)) 4)) 117 12 (pls t n k)) := by
  have hf := c_Md_fails (G := G) (d := d - 1) (w := 4) h
  have hne : fkd (kin t n (pls t n k)) 4 ≠ 0 := by unfold fkd; split <;> omega
  generalize fkd (kin t n (pls t n k)) 4 = w at *
  generalize pls t n k = p at *
  have h11 : up (up M 117 11 w) 117 12 p 117 11 = w := by rw [up_ne2 (by omega), up_eq]
  generalize up (up M 117 11 w) 117 12 p = N at *
  refine MS.run ck_Md_goesIn [some (vr 117), some (vi 6)] [] 10 fun _ _ => ?_
  simp only [wR, wB, wE0, wE1, wE2, wE3, g0, gS, s10, s11, s1S, s20, s21, s2S, kl0, kl1, kl2, kl3, sp0, sp1, sp2, sp3, cn1, cn2, cn3, cn4, cn5, cn6, jJa, lk0, lk1, jmS, jmN, s4_0, s4_1, s4_2, s4_3, s4_4, sw0, sw1, cKs, cKn, true_and, and_true, List.map_cons, List.map_nil, Nat.reduceAdd, Nat.zero_add, Int.reduceAdd, Nat.reduceEqDiff, reduceIte, Classical.not_not, b_Md_goesIn, shMd, Int.reduceEq, not_true_eq_false, not_false_eq_true, false_imp_iff, true_imp_iff, and_self]
  (repeat' (first | omega | (with_reducible exact True.intro) | exact ⟨by omega, by omega⟩ | (with_reducible exact Or.inr trivial) | (with_reducible exact Or.inl trivial) | (with_reducible assumption) | (with_reducible exact Same.refl) | (with_reducible rfl) | (with_reducible refine And.intro ?_ ?_) | (with_reducible intro _)))
  refine MS.to hf fun _ => ?_
  simp only [wR, wB, wE0, wE1, wE2, wE3, g0, gS, s10, s11, s1S, s20, s21, s2S, kl0, kl1, kl2, kl3, sp0, sp1, sp2, sp3, cn1, cn2, cn3, cn4, cn5, cn6, jJa, lk0, lk1, jmS, jmN, s4_0, s4_1, s4_2, s4_3, s4_4, sw0, sw1, cKs, cKn, true_and, and_true, List.map_cons, List.map_nil, Nat.reduceAdd, Nat.zero_add, Int.reduceAdd, Nat.reduceEqDiff, reduceIte, Classical.not_not, b_Md_goesIn, shMd, h11]
  (repeat' (first | omega | (with_reducible exact True.intro) | exact ⟨by omega, by omega⟩ | (with_reducible exact Or.inr trivial) | (with_reducible exact Or.inl trivial) | (with_reducible assumption) | (with_reducible exact Same.refl) | (with_reducible rfl) | (with_reducible refine And.intro ?_ ?_) | (with_reducible intro _)))
end PC
