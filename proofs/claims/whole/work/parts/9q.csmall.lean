section PE
variable {G : AG} {d : Nat} {M : AM} {t : Nat → Nat} {n m : Nat}
/-- the class's reader at a token, with no fault yet -/
def AtC (M : AM) (t : Nat → Nat) (n m k : Nat) : Prop := TkC M t n m ∧ k ≤ m ∧ M 2 7 = k ∧ M 2 8 = ck (kin t n (pls t n k)) ∧ M 2 0 = 0 ∧ M 2 1 = -1
theorem TkC.eq {N : AM} (h : TkC M t n m) (h4 : N 4 = M 4) (h5 : N 5 = M 5) (h6 : N 6 = M 6) : TkC N t n m := by
  unfold TkC
  rw [h4, h5, h6]
  exact h
theorem up_z {K : AM} {z z' y v : Int} (h : z' ≠ z) : up K z y v z' = K z' := by
  funext x
  exact up_ne1 h
theorem c_Rd_next {k : Nat} (h : AtC M t n m k) (hk : kin t n (pls t n k) ≠ 24 ∧ kin t n (pls t n k) ≠ 25) : MS G d mi_Rd_next [vr 2] M (fun r M' => r = none ∧ AtC M' t n m (k + 1) ∧ M' = up (up M 2 7 ((k + 1 : Nat) : Int)) 2 8 (ck (kin t n (pls t n (k + 1))))) := by
  obtain ⟨h1, h2, h3, h4, h5, h51⟩ := h
  have i4 : isArr 4 := ⟨_, (arT_of (k := 4) rfl rfl).1⟩
  have hkm : k < m := by
    rcases Nat.lt_or_ge k m with q | q
    · exact q
    · obtain rfl : k = m := by omega
      rcases h1.2.2.1 with e | e
      · exact absurd e hk.1
      · exact absurd e hk.2
  have hm := h1.1
  have e4 := (h1.2.1 (k + 1) (by omega)).1
  have hA : AtC (up (up M 2 7 ((k + 1 : Nat) : Int)) 2 8 (ck (kin t n (pls t n (k + 1))))) t n m (k + 1) := ⟨h1.eq (by rw [up_z (by omega), up_z (by omega)]) (by rw [up_z (by omega), up_z (by omega)]) (by rw [up_z (by omega), up_z (by omega)]), by omega, by rw [up_ne2 (by omega), up_eq], up_eq _ _ _ _, by rw [up_ne2 (by omega), up_ne2 (by omega)]; exact h5, by rw [up_ne2 (by omega), up_ne2 (by omega)]; exact h51⟩
  generalize ck (kin t n (pls t n (k + 1))) = c at *
  have e4' : up M 2 7 ((k + 1 : Nat) : Int) 4 ((k + 1 : Nat) : Int) = c := by rw [up_ne1 (by omega)]; exact e4
  have e7' : up M 2 7 ((k + 1 : Nat) : Int) 2 7 = ((k + 1 : Nat) : Int) := up_eq _ _ _ _
  refine MS.run ck_Rd_next [some (vr 2)] [] 10 fun _ _ => ?_
  simp only [wR, wB, wE0, wE1, wE2, wE3, g0, gS, s10, s11, s1S, s20, s21, s2S, kl0, kl1, kl2, kl3, sp0, sp1, sp2, sp3, cn1, cn2, cn3, cn4, cn5, cn6, jJa, lk0, lk1, jmS, jmN, s4_0, s4_1, s4_2, s4_3, s4_4, sw0, sw1, cKs, cKn, true_and, and_true, List.map_cons, List.map_nil, Nat.reduceAdd, Nat.zero_add, Int.reduceAdd, Nat.reduceEqDiff, reduceIte, Classical.not_not, b_Rd_next, shH, i4, h3, h5, ce, e7', e4', Int.reduceEq, not_true_eq_false, not_false_eq_true, false_imp_iff, true_imp_iff, and_self]
  (repeat' (first | omega | (with_reducible exact True.intro) | exact ⟨by omega, by omega⟩ | (with_reducible exact Or.inr trivial) | (with_reducible exact Or.inl trivial) | (with_reducible assumption) | (with_reducible exact Same.refl) | (with_reducible rfl) | (with_reducible refine And.intro ?_ ?_) | (with_reducible intro _)))
theorem c_Rd_next_f (h : M 2 0 ≠ 0) : MS G d mi_Rd_next [vr 2] M (fun r M' => r = none ∧ M' = M) := by
  refine MS.run ck_Rd_next [some (vr 2)] [] 10 fun _ _ => ?_
  generalize hw : M 2 0 = w at h
  simp only [wR, wB, wE0, wE1, wE2, wE3, g0, gS, s10, s11, s1S, s20, s21, s2S, kl0, kl1, kl2, kl3, sp0, sp1, sp2, sp3, cn1, cn2, cn3, cn4, cn5, cn6, jJa, lk0, lk1, jmS, jmN, s4_0, s4_1, s4_2, s4_3, s4_4, sw0, sw1, cKs, cKn, true_and, and_true, List.map_cons, List.map_nil, Nat.reduceAdd, Nat.zero_add, Int.reduceAdd, Nat.reduceEqDiff, reduceIte, Classical.not_not, b_Rd_next, shH, hw]
  (repeat' (first | omega | (with_reducible exact True.intro) | exact ⟨by omega, by omega⟩ | (with_reducible exact Or.inr trivial) | (with_reducible exact Or.inl trivial) | (with_reducible assumption) | (with_reducible exact Same.refl) | (with_reducible rfl) | (with_reducible refine And.intro ?_ ?_) | (with_reducible intro _)))
theorem c_Rd_refuse {k w : Nat} (h : AtC M t n m k) : MS G d mi_Rd_refuse [vr 2, vi w] M (fun r M' => r = none ∧ M' = up (up (up M 2 0 (fkd (kin t n (pls t n k)) w)) 2 1 (pls t n k)) 2 8 23) := by
  obtain ⟨h1, h2, h3, h4, h5, h51⟩ := h
  have i5 : isArr 5 := ⟨_, (arT_of (k := 5) rfl rfl).1⟩
  have hm := h1.1
  have e5 := (h1.2.1 k h2).2.1
  have e23 : (ck (kin t n (pls t n k)) : Int) = 23 ↔ kin t n (pls t n k) = 25 := ck_inj (k' := 25) kin_v (by unfold vK; omega)
  refine MS.run ck_Rd_refuse [some (vr 2), some (vi w)] [] 10 fun _ _ => ?_
  generalize kin t n (pls t n k) = kk at e23 h4 ⊢
  generalize ck kk = c at e23 h4
  generalize pls t n k = p at e5 ⊢
  have e5' : ∀ v : Int, up M 2 0 v 5 k = p := fun v => by rw [up_ne1 (by omega)]; exact e5
  have h3' : ∀ v : Int, up M 2 0 v 2 7 = k := fun v => by rw [up_ne2 (by omega)]; exact h3
  simp only [wR, wB, wE0, wE1, wE2, wE3, g0, gS, s10, s11, s1S, s20, s21, s2S, kl0, kl1, kl2, kl3, sp0, sp1, sp2, sp3, cn1, cn2, cn3, cn4, cn5, cn6, jJa, lk0, lk1, jmS, jmN, s4_0, s4_1, s4_2, s4_3, s4_4, sw0, sw1, cKs, cKn, true_and, and_true, List.map_cons, List.map_nil, Nat.reduceAdd, Nat.zero_add, Int.reduceAdd, Nat.reduceEqDiff, reduceIte, Classical.not_not, b_Rd_refuse, shH, i5, h3', h4, h5, e5', Int.reduceEq, not_true_eq_false, not_false_eq_true, false_imp_iff, true_imp_iff, and_self]
  by_cases q : kk = 25
  · have e : fkd kk w = 1 := if_pos q
    have := e23.mpr q
    rw [e]; (repeat' (first | omega | (with_reducible exact True.intro) | exact ⟨by omega, by omega⟩ | (with_reducible exact Or.inr trivial) | (with_reducible exact Or.inl trivial) | (with_reducible assumption) | (with_reducible exact Same.refl) | (with_reducible rfl) | (with_reducible refine And.intro ?_ ?_) | (with_reducible intro _)))
    all_goals rfl
  · have e : fkd kk w = w := if_neg q
    have : ¬ (c : Int) = 23 := fun e => q (e23.mp e)
    rw [e]; (repeat' (first | omega | (with_reducible exact True.intro) | exact ⟨by omega, by omega⟩ | (with_reducible exact Or.inr trivial) | (with_reducible exact Or.inl trivial) | (with_reducible assumption) | (with_reducible exact Same.refl) | (with_reducible rfl) | (with_reducible refine And.intro ?_ ?_) | (with_reducible intro _)))
theorem c_Rd_refuse_f {w : Int} (h : M 2 0 ≠ 0) : MS G d mi_Rd_refuse [vr 2, vi w] M (fun r M' => r = none ∧ M' = up M 2 8 23) := by
  refine MS.run ck_Rd_refuse [some (vr 2), some (vi w)] [] 10 fun _ _ => ?_
  generalize hw : M 2 0 = x at h
  simp only [wR, wB, wE0, wE1, wE2, wE3, g0, gS, s10, s11, s1S, s20, s21, s2S, kl0, kl1, kl2, kl3, sp0, sp1, sp2, sp3, cn1, cn2, cn3, cn4, cn5, cn6, jJa, lk0, lk1, jmS, jmN, s4_0, s4_1, s4_2, s4_3, s4_4, sw0, sw1, cKs, cKn, true_and, and_true, List.map_cons, List.map_nil, Nat.reduceAdd, Nat.zero_add, Int.reduceAdd, Nat.reduceEqDiff, reduceIte, Classical.not_not, b_Rd_refuse, shH, hw]
  (repeat' (first | omega | (with_reducible exact True.intro) | exact ⟨by omega, by omega⟩ | (with_reducible exact Or.inr trivial) | (with_reducible exact Or.inl trivial) | (with_reducible assumption) | (with_reducible exact Same.refl) | (with_reducible rfl) | (with_reducible refine And.intro ?_ ?_) | (with_reducible intro _)))
end PE
