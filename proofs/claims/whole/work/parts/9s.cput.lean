section PG
variable {G : AG} {d : Nat} {M : AM} {t : Nat → Nat} {n m : Nat}
theorem c_Rd_sign_yes {k x : Nat} {c : Int} (hd : 2 ≤ d) (h : AtC M t n m k) (hx : kin t n (pls t n k) = x) (h24 : x ≠ 24 ∧ x ≠ 25) (hc : (ck x : Int) = 100 + c) (hcr : 0 ≤ c ∧ c < 256) : MS G d mi_Rd_sign [vr 2, vi c] M (fun r M' => r = none ∧ AtC M' t n m (k + 1) ∧ M' = up (up M 2 7 ((k + 1 : Nat) : Int)) 2 8 (ck (kin t n (pls t n (k + 1))))) := by
  have hw := c_Rd_word_yes (G := G) (d := d - 1) (by omega) h hx h24
  rw [hc] at hw
  refine MS.run ck_Rd_sign [some (vr 2), some (vi c)] [] 10 fun _ _ => ?_
  simp only [wR, wB, wE0, wE1, wE2, wE3, g0, gS, s10, s11, s1S, s20, s21, s2S, kl0, kl1, kl2, kl3, sp0, sp1, sp2, sp3, cn1, cn2, cn3, cn4, cn5, cn6, jJa, lk0, lk1, jmS, jmN, s4_0, s4_1, s4_2, s4_3, s4_4, sw0, sw1, cKs, cKn, true_and, and_true, List.map_cons, List.map_nil, Nat.reduceAdd, Nat.zero_add, Int.reduceAdd, Nat.reduceEqDiff, reduceIte, Classical.not_not, b_Rd_sign, shH]
  (repeat' (first | omega | (with_reducible exact True.intro) | exact ⟨by omega, by omega⟩ | (with_reducible exact Or.inr trivial) | (with_reducible exact Or.inl trivial) | (with_reducible assumption) | (with_reducible exact Same.refl) | (with_reducible rfl) | (with_reducible refine And.intro ?_ ?_) | (with_reducible intro _)))
  refine hw.mono ?_
  rintro r M' _ ⟨rfl, u, v⟩
  simp only [wR, wB, wE0, wE1, wE2, wE3, g0, gS, s10, s11, s1S, s20, s21, s2S, kl0, kl1, kl2, kl3, sp0, sp1, sp2, sp3, cn1, cn2, cn3, cn4, cn5, cn6, jJa, lk0, lk1, jmS, jmN, s4_0, s4_1, s4_2, s4_3, s4_4, sw0, sw1, cKs, cKn, true_and, and_true, List.map_cons, List.map_nil, Nat.reduceAdd, Nat.zero_add, Int.reduceAdd, Nat.reduceEqDiff, reduceIte, Classical.not_not, b_Rd_sign]
  exact ⟨u, v⟩
theorem c_Rd_sign_no {k x : Nat} {c : Int} (hd : 2 ≤ d) (h : AtC M t n m k) (hx : kin t n (pls t n k) ≠ x) (hv : vK x) (hc : (ck x : Int) = 100 + c) (hcr : 0 ≤ c ∧ c < 256) : MS G d mi_Rd_sign [vr 2, vi c] M (fun r M' => r = none ∧ M' = up (up (up M 2 0 (fkd (kin t n (pls t n k)) 2)) 2 1 (pls t n k)) 2 8 23) := by
  have hw := c_Rd_word_no (G := G) (d := d - 1) (by omega) h hx hv
  rw [hc] at hw
  refine MS.run ck_Rd_sign [some (vr 2), some (vi c)] [] 10 fun _ _ => ?_
  simp only [wR, wB, wE0, wE1, wE2, wE3, g0, gS, s10, s11, s1S, s20, s21, s2S, kl0, kl1, kl2, kl3, sp0, sp1, sp2, sp3, cn1, cn2, cn3, cn4, cn5, cn6, jJa, lk0, lk1, jmS, jmN, s4_0, s4_1, s4_2, s4_3, s4_4, sw0, sw1, cKs, cKn, true_and, and_true, List.map_cons, List.map_nil, Nat.reduceAdd, Nat.zero_add, Int.reduceAdd, Nat.reduceEqDiff, reduceIte, Classical.not_not, b_Rd_sign, shH]
  (repeat' (first | omega | (with_reducible exact True.intro) | exact ⟨by omega, by omega⟩ | (with_reducible exact Or.inr trivial) | (with_reducible exact Or.inl trivial) | (with_reducible assumption) | (with_reducible exact Same.refl) | (with_reducible rfl) | (with_reducible refine And.intro ?_ ?_) | (with_reducible intro _)))
  refine MS.to hw fun _ => ?_
  simp only [wR, wB, wE0, wE1, wE2, wE3, g0, gS, s10, s11, s1S, s20, s21, s2S, kl0, kl1, kl2, kl3, sp0, sp1, sp2, sp3, cn1, cn2, cn3, cn4, cn5, cn6, jJa, lk0, lk1, jmS, jmN, s4_0, s4_1, s4_2, s4_3, s4_4, sw0, sw1, cKs, cKn, true_and, and_true, List.map_cons, List.map_nil, Nat.reduceAdd, Nat.zero_add, Int.reduceAdd, Nat.reduceEqDiff, reduceIte, Classical.not_not, b_Rd_sign]
theorem c_Rd_sign_f {c : Int} (hd : 2 ≤ d) (h : M 2 0 ≠ 0) (h8 : M 2 8 = 23) (hcr : 0 ≤ c ∧ c < 256) : MS G d mi_Rd_sign [vr 2, vi c] M (fun r M' => r = none ∧ M' = up M 2 8 23) := by
  have hw := c_Rd_word_f (G := G) (d := d - 1) (x := 100 + c) (by omega) h h8 (by omega)
  refine MS.run ck_Rd_sign [some (vr 2), some (vi c)] [] 10 fun _ _ => ?_
  simp only [wR, wB, wE0, wE1, wE2, wE3, g0, gS, s10, s11, s1S, s20, s21, s2S, kl0, kl1, kl2, kl3, sp0, sp1, sp2, sp3, cn1, cn2, cn3, cn4, cn5, cn6, jJa, lk0, lk1, jmS, jmN, s4_0, s4_1, s4_2, s4_3, s4_4, sw0, sw1, cKs, cKn, true_and, and_true, List.map_cons, List.map_nil, Nat.reduceAdd, Nat.zero_add, Int.reduceAdd, Nat.reduceEqDiff, reduceIte, Classical.not_not, b_Rd_sign, shH]
  (repeat' (first | omega | (with_reducible exact True.intro) | exact ⟨by omega, by omega⟩ | (with_reducible exact Or.inr trivial) | (with_reducible exact Or.inl trivial) | (with_reducible assumption) | (with_reducible exact Same.refl) | (with_reducible rfl) | (with_reducible refine And.intro ?_ ?_) | (with_reducible intro _)))
  refine MS.to hw fun _ => ?_
  simp only [wR, wB, wE0, wE1, wE2, wE3, g0, gS, s10, s11, s1S, s20, s21, s2S, kl0, kl1, kl2, kl3, sp0, sp1, sp2, sp3, cn1, cn2, cn3, cn4, cn5, cn6, jJa, lk0, lk1, jmS, jmN, s4_0, s4_1, s4_2, s4_3, s4_4, sw0, sw1, cKs, cKn, true_and, and_true, List.map_cons, List.map_nil, Nat.reduceAdd, Nat.zero_add, Int.reduceAdd, Nat.reduceEqDiff, reduceIte, Classical.not_not, b_Rd_sign]
end PG
