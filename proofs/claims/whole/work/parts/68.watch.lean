/-! the class's watches -/
def DFM (M : AM) (mk : Nat → Nat) (hr pk : Nat → Int) (pa : Nat → Nat) (tu : Nat → Int) (dp : Nat) : Prop := M 43 5 = dp ∧ (∀ s : Nat, s < 3125 → M 44 s = mk s) ∧ (∀ s : Nat, s < 3125 → mk s ≠ 0 → M 45 s = hr s ∧ M 46 s = pk s) ∧ ∀ j : Nat, j < dp → M 47 j = pa j ∧ M 48 j = tu j
section WT
variable {G : AG} {d : Nat} {M : AM}
theorem c_Wa_inStates {s : Int} : MS G d mi_Wa_inStates [vi s] M (fun r M' => r = some (vi (if 0 ≤ s ∧ s < 3125 then 1 else 0)) ∧ M' = M) := by
  refine MS.run ck_Wa_inStates [some (vi s)] [] 10 fun _ _ => ?_
  by_cases q : 0 ≤ s ∧ s < 3125
  · rw [if_pos q]
    simp only [wR, wB, wE0, wE1, wE2, wE3, g0, gS, s10, s11, s1S, s20, s21, s2S, kl0, kl1, kl2, kl3, sp0, sp1, sp2, sp3, cn1, cn2, cn3, cn4, cn5, cn6, jJa, lk0, lk1, jmS, jmN, s4_0, s4_1, s4_2, s4_3, s4_4, sw0, sw1, cKs, cKn, true_and, and_true, List.map_cons, List.map_nil, Nat.reduceAdd, Nat.zero_add, Int.reduceAdd, Nat.reduceEqDiff, reduceIte, Classical.not_not, b_Wa_inStates]
    (repeat' (first | omega | exact ⟨by omega, by omega⟩ | (with_reducible exact Or.inr trivial) | (with_reducible exact Or.inl trivial) | (with_reducible assumption) | (with_reducible exact Same.refl) | (with_reducible rfl) | (with_reducible refine And.intro ?_ ?_) | (with_reducible intro _)))
  · rw [if_neg q]
    simp only [wR, wB, wE0, wE1, wE2, wE3, g0, gS, s10, s11, s1S, s20, s21, s2S, kl0, kl1, kl2, kl3, sp0, sp1, sp2, sp3, cn1, cn2, cn3, cn4, cn5, cn6, jJa, lk0, lk1, jmS, jmN, s4_0, s4_1, s4_2, s4_3, s4_4, sw0, sw1, cKs, cKn, true_and, and_true, List.map_cons, List.map_nil, Nat.reduceAdd, Nat.zero_add, Int.reduceAdd, Nat.reduceEqDiff, reduceIte, Classical.not_not, b_Wa_inStates]
    (repeat' (first | omega | exact ⟨by omega, by omega⟩ | (with_reducible exact Or.inr trivial) | (with_reducible exact Or.inl trivial) | (with_reducible assumption) | (with_reducible exact Same.refl) | (with_reducible rfl) | (with_reducible refine And.intro ?_ ?_) | (with_reducible intro _)))
def opM (M : AM) (s dp : Nat) : AM := up (up (up (up (up (up M 44 s 1) 45 s 0) 46 s (-1)) 47 dp s) 48 dp 0) 43 5 ((dp : Int) + 1)
theorem c_Wa_open {s dp : Nat} (hd : 1 ≤ d) (hs : s < 3125) (h5 : M 43 5 = dp) (hdp : dp < 3125) : MS G d mi_Wa_open [vr 43, vi s] M (fun r M' => r = none ∧ M' = opM M s dp) := by
  refine MS.by ck_Wa_open [some (vr 43), some (vi s)] fun _ _ => ?_
  refine AW.run ck_Wa_open [] 10 0 ?_
  simp only [wR, wB, wE0, wE1, wE2, wE3, g0, gS, s10, s11, s1S, s20, s21, s2S, kl0, kl1, kl2, kl3, sp0, sp1, sp2, sp3, cn1, cn2, cn3, cn4, cn5, cn6, jJa, lk0, lk1, jmS, jmN, s4_0, s4_1, s4_2, s4_3, s4_4, sw0, sw1, cKs, cKn, true_and, and_true, List.map_cons, List.map_nil, Nat.reduceAdd, Nat.zero_add, Int.reduceAdd, Nat.reduceEqDiff, reduceIte, Classical.not_not, b_Wa_open, shWa]
  refine ⟨by omega, MS.to c_Wa_inStates fun _ => ?_⟩
  rw [if_pos ⟨by omega, by omega⟩]
  simp only [wR, wB, wE0, wE1, wE2, wE3, g0, gS, s10, s11, s1S, s20, s21, s2S, kl0, kl1, kl2, kl3, sp0, sp1, sp2, sp3, cn1, cn2, cn3, cn4, cn5, cn6, jJa, lk0, lk1, jmS, jmN, s4_0, s4_1, s4_2, s4_3, s4_4, sw0, sw1, cKs, cKn, true_and, and_true, List.map_cons, List.map_nil, Nat.reduceAdd, Nat.zero_add, Int.reduceAdd, Nat.reduceEqDiff, reduceIte, Classical.not_not, b_Wa_open, shWa, h5, up_rd, Int.reduceEq, and_false, false_and, and_self, reduceIte, not_true_eq_false, not_false_eq_true, false_imp_iff, true_imp_iff, true_or, or_true]
  (repeat' (first | omega | (with_reducible exact True.intro) | exact ⟨by omega, by omega⟩ | (with_reducible exact Or.inr trivial) | (with_reducible exact Or.inl trivial) | (with_reducible assumption) | (with_reducible exact Same.refl) | (with_reducible rfl) | (with_reducible refine And.intro ?_ ?_) | (with_reducible intro _)))
  all_goals rfl
def wgM (M : AM) (s set f : Nat) (k : Nat) : AM := if M 44 f = 1 ∨ M 45 f = -1 then up (up (up M 45 s (-1)) 46 s set) 48 k (-1) else if M 45 s < M 45 f + 1 then up (up M 45 s (M 45 f + 1)) 46 s set else M
theorem c_Wa_weigh {s set f k : Nat} (hs : s < 3125) (hf : f < 3125) (hk : k < 3125) (h5 : M 43 5 = ((k + 1 : Nat) : Int)) (hb : M 45 f < 1000000) : MS G d mi_Wa_weigh [vr 43, vi s, vi set, vi f] M (fun r M' => r = none ∧ M' = wgM M s set f k) := by
  refine MS.by ck_Wa_weigh [some (vr 43), some (vi s), some (vi set), some (vi f)] fun _ hokM => ?_
  generalize hQ : (fun (r : Option AV) (M' : AM) => r = none ∧ M' = wgM M s set f k) = Q
  have hi : inI (M 45 f) := hokM.1 45 .int 3125 rfl f (by omega)
  obtain ⟨hi1, hi2⟩ := hi
  have ek : ((k + 1 : Nat) : Int) - 1 = k := by omega
  have a20 : M 44 f = 1 ∨ M 45 f = -1 → AW G d mi_Wa_weigh Q 20 [some (vr 43), some (vi s), some (vi set), some (vi f)] [] M := by
    intro e
    refine AW.run ck_Wa_weigh [] 10 20 ?_
    simp only [wR, wB, wE0, wE1, wE2, wE3, g0, gS, s10, s11, s1S, s20, s21, s2S, kl0, kl1, kl2, kl3, sp0, sp1, sp2, sp3, cn1, cn2, cn3, cn4, cn5, cn6, jJa, lk0, lk1, jmS, jmN, s4_0, s4_1, s4_2, s4_3, s4_4, sw0, sw1, cKs, cKn, true_and, and_true, List.map_cons, List.map_nil, Nat.reduceAdd, Nat.zero_add, Int.reduceAdd, Nat.reduceEqDiff, reduceIte, Classical.not_not, b_Wa_weigh, shWa, h5, up_rd, Int.reduceEq, and_false, false_and, and_self, reduceIte, not_true_eq_false, not_false_eq_true, false_imp_iff, true_imp_iff, true_or, or_true, ek]
    subst hQ
    unfold wgM
    rw [if_pos e]
    (repeat' (first | omega | (with_reducible exact True.intro) | exact ⟨by omega, by omega⟩ | (with_reducible exact Or.inr trivial) | (with_reducible exact Or.inl trivial) | (with_reducible assumption) | (with_reducible exact Same.refl) | (with_reducible rfl) | (with_reducible refine And.intro ?_ ?_) | (with_reducible intro _)))
  refine AW.run ck_Wa_weigh [20] 10 0 ?_
  simp only [wR, wB, wE0, wE1, wE2, wE3, g0, gS, s10, s11, s1S, s20, s21, s2S, kl0, kl1, kl2, kl3, sp0, sp1, sp2, sp3, cn1, cn2, cn3, cn4, cn5, cn6, jJa, lk0, lk1, jmS, jmN, s4_0, s4_1, s4_2, s4_3, s4_4, sw0, sw1, cKs, cKn, true_and, and_true, List.map_cons, List.map_nil, Nat.reduceAdd, Nat.zero_add, Int.reduceAdd, Nat.reduceEqDiff, reduceIte, Classical.not_not, b_Wa_weigh, shWa]
  by_cases q1 : M 44 f = 1
  · have := a20 (Or.inl q1)
    (repeat' (first | omega | (with_reducible exact True.intro) | exact ⟨by omega, by omega⟩ | (with_reducible exact Or.inr trivial) | (with_reducible exact Or.inl trivial) | (with_reducible assumption) | (with_reducible exact Same.refl) | (with_reducible rfl) | (with_reducible refine And.intro ?_ ?_) | (with_reducible intro _)))
  · by_cases q2 : M 45 f = -1
    · have := a20 (Or.inr q2)
      (repeat' (first | omega | (with_reducible exact True.intro) | exact ⟨by omega, by omega⟩ | (with_reducible exact Or.inr trivial) | (with_reducible exact Or.inl trivial) | (with_reducible assumption) | (with_reducible exact Same.refl) | (with_reducible rfl) | (with_reducible refine And.intro ?_ ?_) | (with_reducible intro _)))
    · subst hQ
      unfold wgM
      rw [if_neg (by omega)]
      by_cases q3 : M 45 s < M 45 f + 1
      · rw [if_pos q3]
        simp only [wR, wB, wE0, wE1, wE2, wE3, g0, gS, s10, s11, s1S, s20, s21, s2S, kl0, kl1, kl2, kl3, sp0, sp1, sp2, sp3, cn1, cn2, cn3, cn4, cn5, cn6, jJa, lk0, lk1, jmS, jmN, s4_0, s4_1, s4_2, s4_3, s4_4, sw0, sw1, cKs, cKn, true_and, and_true, List.map_cons, List.map_nil, Nat.reduceAdd, Nat.zero_add, Int.reduceAdd, Nat.reduceEqDiff, reduceIte, Classical.not_not, up_rd, Int.reduceEq, and_false, false_and, and_self, reduceIte, not_true_eq_false, not_false_eq_true, false_imp_iff, true_imp_iff, true_or, or_true]
        (repeat' (first | omega | (with_reducible exact True.intro) | exact ⟨by omega, by omega⟩ | (with_reducible exact Or.inr trivial) | (with_reducible exact Or.inl trivial) | (with_reducible assumption) | (with_reducible exact Same.refl) | (with_reducible rfl) | (with_reducible refine And.intro ?_ ?_) | (with_reducible intro _)))
      · rw [if_neg q3]
        (repeat' (first | omega | (with_reducible exact True.intro) | exact ⟨by omega, by omega⟩ | (with_reducible exact Or.inr trivial) | (with_reducible exact Or.inl trivial) | (with_reducible assumption) | (with_reducible exact Same.refl) | (with_reducible rfl) | (with_reducible refine And.intro ?_ ?_) | (with_reducible intro _)))
end WT
