/-! the model's rows of numbers: how many come to each stand -/
def rcK (ok : Nat → Nat → Bool) (nx : Nat → Nat → Nat) (s0 : Nat) : Nat → Nat → Prop
  | 0, s => s = s0
  | k + 1, s => ∃ t set, rcK ok nx s0 k t ∧ set < 32 ∧ ok t set = true ∧ nx t set = s
theorem rcK_cn {ok : Nat → Nat → Bool} {nx : Nat → Nat → Nat} {s0 : Nat} : ∀ k m, (∃ s, rcK ok nx s0 k s ∧ cnH ok nx m s) ↔ cnH ok nx (m + k) s0
  | 0, m => ⟨fun ⟨s, a, b⟩ => by rw [show s = s0 from a] at b; exact b, fun h => ⟨s0, rfl, h⟩⟩
  | k + 1, m => by
    have ih := rcK_cn (ok := ok) (nx := nx) (s0 := s0) k (m + 1)
    rw [show m + (k + 1) = m + 1 + k by omega, ← ih]
    constructor
    · rintro ⟨s, ⟨t, set, a, b, c, e⟩, f⟩
      exact ⟨t, a, set, b, c, by rw [e]; exact f⟩
    · rintro ⟨t, a, set, b, c, f⟩
      exact ⟨nx t set, ⟨t, set, a, b, c, rfl⟩, f⟩
noncomputable def cb (p : Prop) : Bool := @decide p (Classical.propDecidable p)
theorem cb_iff {p : Prop} : cb p = true ↔ p := by unfold cb; exact @decide_eq_true_iff p (Classical.propDecidable p)
theorem cb_f {p : Prop} (h : ¬ p) : cb p = false := by
  cases e : cb p with
  | false => rfl
  | true => exact absurd (cb_iff.mp e) h
theorem sumN_pos {f : Nat → Nat} : ∀ n, 0 < sumN f n ↔ ∃ s, s < n ∧ 0 < f s
  | 0 => ⟨fun h => absurd h (by simp [sumN]), fun ⟨s, h, _⟩ => absurd h (by omega)⟩
  | n + 1 => by
    have ih := sumN_pos (f := f) n
    simp only [sumN]
    constructor
    · intro h
      by_cases q : 0 < f n
      · exact ⟨n, by omega, q⟩
      · obtain ⟨s, a, b⟩ := ih.mp (by omega)
        exact ⟨s, by omega, b⟩
    · rintro ⟨s, a, b⟩
      by_cases q : s = n
      · subst q; omega
      · have := ih.mpr ⟨s, by omega, b⟩
        omega
section MY
variable {G : AG} {d : Nat} {M : AM}
set_option maxRecDepth 20000 in
theorem c_Md_beginsMany {P : Nat} {st : Nat → Nat} (hP : M 118 1 = P) (hP5 : P ≤ 5) (hst : ∀ p : Nat, p < P → M 118 (24 + (p : Int)) = st p ∧ st p ≤ 4) (hd : 1 ≤ d) : MS G d mi_Md_beginsMany [vr 117] M (fun r M' => r = none ∧ (∀ s : Nat, s < 3125 → M' 131 s = (if s = cod st P then 1 else 0) ∧ M' 132 s = 0) ∧ Same [131, 132] M M') := by
  refine MS.by ck_Md_beginsMany [some (vr 117), none] fun _ _ => ?_
  generalize hQ : (fun (r : Option AV) (M' : AM) => r = none ∧ (∀ s : Nat, s < 3125 → M' 131 s = (if s = cod st P then 1 else 0) ∧ M' 132 s = 0) ∧ Same [131, 132] M M') = Q
  have loop : ∀ (r k : Nat) (N : AM), k + r = 3125 → (∀ s : Nat, s < k → N 131 s = (if s = cod st P then 1 else 0) ∧ N 132 s = 0) → Same [131, 132] M N → AW G d mi_Md_beginsMany Q 2 [some (vr 117), some (vi k)] [] N := by
    intro r
    induction r with
    | zero =>
      intro k N hk h1 h2
      refine AW.run ck_Md_beginsMany [] 10 2 ?_
      simp only [wR, wB, wE0, wE1, wE2, wE3, g0, gS, s10, s11, s1S, s20, s21, s2S, kl0, kl1, kl2, kl3, sp0, sp1, sp2, sp3, cn1, cn2, cn3, cn4, cn5, cn6, jJa, lk0, lk1, jmS, jmN, s4_0, s4_1, s4_2, s4_3, s4_4, sw0, sw1, cKs, cKn, true_and, and_true, List.map_cons, List.map_nil, Nat.reduceAdd, Nat.zero_add, Int.reduceAdd, Nat.reduceEqDiff, reduceIte, Classical.not_not, b_Md_beginsMany, shMd]
      subst hQ
      rw [show k = 3125 by omega] at h1
      (repeat' (first | omega | (with_reducible exact True.intro) | exact ⟨by omega, by omega⟩ | (with_reducible exact Or.inr trivial) | (with_reducible exact Or.inl trivial) | (with_reducible assumption) | (with_reducible exact Same.refl) | (with_reducible rfl) | (with_reducible refine And.intro ?_ ?_) | (with_reducible intro _)))
    | succ r ih =>
      intro k N hk h1 h2
      have a27 : ∀ v : Int, v = (if k = cod st P then 1 else 0) → inL v → AW G d mi_Md_beginsMany Q 27 [some (vr 117), some (vi k)] [vl v, vi k, vr 131] N := by
        intro v hv hvi
        refine AW.run ck_Md_beginsMany [2] 10 27 ?_
        simp only [wR, wB, wE0, wE1, wE2, wE3, g0, gS, s10, s11, s1S, s20, s21, s2S, kl0, kl1, kl2, kl3, sp0, sp1, sp2, sp3, cn1, cn2, cn3, cn4, cn5, cn6, jJa, lk0, lk1, jmS, jmN, s4_0, s4_1, s4_2, s4_3, s4_4, sw0, sw1, cKs, cKn, true_and, and_true, List.map_cons, List.map_nil, Nat.reduceAdd, Nat.zero_add, Int.reduceAdd, Nat.reduceEqDiff, reduceIte, Classical.not_not, b_Md_beginsMany, shMd, ce]
        (repeat' (first | omega | (with_reducible exact True.intro) | exact ⟨by omega, by omega⟩ | (with_reducible exact Or.inr trivial) | (with_reducible exact Or.inl trivial) | (with_reducible assumption) | (with_reducible exact Same.refl) | (with_reducible rfl) | (with_reducible refine And.intro ?_ ?_) | (with_reducible intro _)))
        refine ih (k + 1) _ (by omega) (fun s hs => ?_) ((h2.up (by simp)).up (by simp))
        by_cases e : s = k
        · subst e
          rw [up_ne1 (by omega), up_eq, up_eq]; exact ⟨hv, rfl⟩
        · rw [up_ne1 (by omega), up_ne2 (by omega), up_ne2 (by omega), up_ne1 (by omega)]
          exact h1 s (by omega)
      refine AW.run ck_Md_beginsMany [27] 10 2 ?_
      simp only [wR, wB, wE0, wE1, wE2, wE3, g0, gS, s10, s11, s1S, s20, s21, s2S, kl0, kl1, kl2, kl3, sp0, sp1, sp2, sp3, cn1, cn2, cn3, cn4, cn5, cn6, jJa, lk0, lk1, jmS, jmN, s4_0, s4_1, s4_2, s4_3, s4_4, sw0, sw1, cKs, cKn, true_and, and_true, List.map_cons, List.map_nil, Nat.reduceAdd, Nat.zero_add, Int.reduceAdd, Nat.reduceEqDiff, reduceIte, Classical.not_not, b_Md_beginsMany, shMd]
      have h118 : N 118 = M 118 := h2 118 (by (first | decide | (simp only [List.mem_cons, List.not_mem_nil, or_false, not_or, not_false_eq_true, and_true]; omega) | (simp [List.mem_cons]; done)))
      (repeat' (first | omega | (with_reducible exact True.intro) | exact ⟨by omega, by omega⟩ | (with_reducible exact Or.inr trivial) | (with_reducible exact Or.inl trivial) | (with_reducible assumption) | (with_reducible exact Same.refl) | (with_reducible rfl) | (with_reducible refine And.intro ?_ ?_) | (with_reducible intro _)))
      refine MS.to (c_Md_standNow (by rw [h118]; exact hP) hP5 (by rw [h118]; exact hst)) fun _ => ?_
      simp only [wR, wB, wE0, wE1, wE2, wE3, g0, gS, s10, s11, s1S, s20, s21, s2S, kl0, kl1, kl2, kl3, sp0, sp1, sp2, sp3, cn1, cn2, cn3, cn4, cn5, cn6, jJa, lk0, lk1, jmS, jmN, s4_0, s4_1, s4_2, s4_3, s4_4, sw0, sw1, cKs, cKn, true_and, and_true, List.map_cons, List.map_nil, Nat.reduceAdd, Nat.zero_add, Int.reduceAdd, Nat.reduceEqDiff, reduceIte, Classical.not_not, b_Md_beginsMany, shMd]
      by_cases q : k = cod st P
      · have := a27 1 (by rw [if_pos q]) ⟨by omega, by omega⟩
        (repeat' (first | omega | (with_reducible exact True.intro) | exact ⟨by omega, by omega⟩ | (with_reducible exact Or.inr trivial) | (with_reducible exact Or.inl trivial) | (with_reducible assumption) | (with_reducible exact Same.refl) | (with_reducible rfl) | (with_reducible refine And.intro ?_ ?_) | (with_reducible intro _)))
      · have := a27 0 (by rw [if_neg q]) ⟨by omega, by omega⟩
        (repeat' (first | omega | (with_reducible exact True.intro) | exact ⟨by omega, by omega⟩ | (with_reducible exact Or.inr trivial) | (with_reducible exact Or.inl trivial) | (with_reducible assumption) | (with_reducible exact Same.refl) | (with_reducible rfl) | (with_reducible refine And.intro ?_ ?_) | (with_reducible intro _)))
  refine AW.run ck_Md_beginsMany [2] 10 0 ?_
  simp only [wR, wB, wE0, wE1, wE2, wE3, g0, gS, s10, s11, s1S, s20, s21, s2S, kl0, kl1, kl2, kl3, sp0, sp1, sp2, sp3, cn1, cn2, cn3, cn4, cn5, cn6, jJa, lk0, lk1, jmS, jmN, s4_0, s4_1, s4_2, s4_3, s4_4, sw0, sw1, cKs, cKn, true_and, and_true, List.map_cons, List.map_nil, Nat.reduceAdd, Nat.zero_add, Int.reduceAdd, Nat.reduceEqDiff, reduceIte, Classical.not_not, b_Md_beginsMany]
  exact loop 3125 0 M (by omega) (fun s hs => absurd hs (by omega)) Same.refl
set_option maxRecDepth 20000 in
theorem c_Md_isThen : MS G d mi_Md_isThen [vr 117] M (fun r M' => r = none ∧ (∀ s : Nat, s < 3125 → M' 131 s = M 132 s ∧ M' 132 s = 0) ∧ Same [131, 132] M M') := by
  refine MS.by ck_Md_isThen [some (vr 117), none] fun _ _ => ?_
  generalize hQ : (fun (r : Option AV) (M' : AM) => r = none ∧ (∀ s : Nat, s < 3125 → M' 131 s = M 132 s ∧ M' 132 s = 0) ∧ Same [131, 132] M M') = Q
  have loop : ∀ (r k : Nat) (N : AM), k + r = 3125 → (∀ s : Nat, s < k → N 131 s = M 132 s ∧ N 132 s = 0) → (∀ s : Nat, k ≤ s → N 132 s = M 132 s) → Same [131, 132] M N → AW G d mi_Md_isThen Q 2 [some (vr 117), some (vi k)] [] N := by
    intro r
    induction r with
    | zero =>
      intro k N hk h1 h3 h2
      refine AW.run ck_Md_isThen [] 10 2 ?_
      simp only [wR, wB, wE0, wE1, wE2, wE3, g0, gS, s10, s11, s1S, s20, s21, s2S, kl0, kl1, kl2, kl3, sp0, sp1, sp2, sp3, cn1, cn2, cn3, cn4, cn5, cn6, jJa, lk0, lk1, jmS, jmN, s4_0, s4_1, s4_2, s4_3, s4_4, sw0, sw1, cKs, cKn, true_and, and_true, List.map_cons, List.map_nil, Nat.reduceAdd, Nat.zero_add, Int.reduceAdd, Nat.reduceEqDiff, reduceIte, Classical.not_not, b_Md_isThen, shMd]
      subst hQ
      rw [show k = 3125 by omega] at h1
      (repeat' (first | omega | (with_reducible exact True.intro) | exact ⟨by omega, by omega⟩ | (with_reducible exact Or.inr trivial) | (with_reducible exact Or.inl trivial) | (with_reducible assumption) | (with_reducible exact Same.refl) | (with_reducible rfl) | (with_reducible refine And.intro ?_ ?_) | (with_reducible intro _)))
    | succ r ih =>
      intro k N hk h1 h3 h2
      refine AW.run ck_Md_isThen [2] 10 2 ?_
      simp only [wR, wB, wE0, wE1, wE2, wE3, g0, gS, s10, s11, s1S, s20, s21, s2S, kl0, kl1, kl2, kl3, sp0, sp1, sp2, sp3, cn1, cn2, cn3, cn4, cn5, cn6, jJa, lk0, lk1, jmS, jmN, s4_0, s4_1, s4_2, s4_3, s4_4, sw0, sw1, cKs, cKn, true_and, and_true, List.map_cons, List.map_nil, Nat.reduceAdd, Nat.zero_add, Int.reduceAdd, Nat.reduceEqDiff, reduceIte, Classical.not_not, b_Md_isThen, shMd, ce]
      (repeat' (first | omega | (with_reducible exact True.intro) | exact ⟨by omega, by omega⟩ | (with_reducible exact Or.inr trivial) | (with_reducible exact Or.inl trivial) | (with_reducible assumption) | (with_reducible exact Same.refl) | (with_reducible rfl) | (with_reducible refine And.intro ?_ ?_) | (with_reducible intro _)))
      refine ih (k + 1) _ (by omega) (fun s hs => ?_) (fun s hs => ?_) ((h2.up (by simp)).up (by simp))
      · by_cases e : s = k
        · subst e
          rw [up_ne1 (by omega), up_eq, up_eq]; exact ⟨h3 s (Nat.le_refl _), rfl⟩
        · rw [up_ne1 (by omega), up_ne2 (by omega), up_ne2 (by omega), up_ne1 (by omega)]
          exact h1 s (by omega)
      · rw [up_ne2 (by omega), up_ne1 (by omega)]; exact h3 s (by omega)
  refine AW.run ck_Md_isThen [2] 10 0 ?_
  simp only [wR, wB, wE0, wE1, wE2, wE3, g0, gS, s10, s11, s1S, s20, s21, s2S, kl0, kl1, kl2, kl3, sp0, sp1, sp2, sp3, cn1, cn2, cn3, cn4, cn5, cn6, jJa, lk0, lk1, jmS, jmN, s4_0, s4_1, s4_2, s4_3, s4_4, sw0, sw1, cKs, cKn, true_and, and_true, List.map_cons, List.map_nil, Nat.reduceAdd, Nat.zero_add, Int.reduceAdd, Nat.reduceEqDiff, reduceIte, Classical.not_not, b_Md_isThen]
  exact loop 3125 0 M (by omega) (fun s hs => absurd hs (by omega)) (fun _ _ => rfl) Same.refl
theorem sumN_mono {f : Nat → Nat} : ∀ {n m : Nat}, n ≤ m → sumN f n ≤ sumN f m := by
  intro n m h
  induction h with
  | refl => exact Nat.le_refl _
  | step _ ih => exact Nat.le_trans ih (by simp only [sumN]; omega)
set_option maxRecDepth 20000 in
theorem c_Md_manySum {a : Nat → Nat} (ha : ∀ s : Nat, s < 3125 → M 131 s = a s) (hb : sumN a 3125 < 2 ^ 62) : MS G d mi_Md_manySum [vr 117] M (fun r M' => r = some (vl (sumN a 3125)) ∧ M' = M) := by
  refine MS.by ck_Md_manySum [some (vr 117), none, none, none] fun _ _ => ?_
  generalize hQ : (fun (r : Option AV) (M' : AM) => r = some (vl (sumN a 3125)) ∧ M' = M) = Q
  generalize hn : sumN a 3125 = n3 at hQ hb
  have loop : ∀ (r k : Nat), k + r = 3125 → AW G d mi_Md_manySum Q 4 [some (vr 117), some (vl (sumN a k)), none, some (vi k)] [] M := by
    intro r
    induction r with
    | zero =>
      intro k hk
      rw [show sumN a k = n3 by rw [← hn, show k = 3125 by omega]]
      refine AW.run ck_Md_manySum [] 10 4 ?_
      simp only [wR, wB, wE0, wE1, wE2, wE3, g0, gS, s10, s11, s1S, s20, s21, s2S, kl0, kl1, kl2, kl3, sp0, sp1, sp2, sp3, cn1, cn2, cn3, cn4, cn5, cn6, jJa, lk0, lk1, jmS, jmN, s4_0, s4_1, s4_2, s4_3, s4_4, sw0, sw1, cKs, cKn, true_and, and_true, List.map_cons, List.map_nil, Nat.reduceAdd, Nat.zero_add, Int.reduceAdd, Nat.reduceEqDiff, reduceIte, Classical.not_not, b_Md_manySum, shMd]
      subst hQ
      (repeat' (first | omega | (with_reducible exact True.intro) | exact ⟨by omega, by omega⟩ | (with_reducible exact Or.inr trivial) | (with_reducible exact Or.inl trivial) | (with_reducible assumption) | (with_reducible exact Same.refl) | (with_reducible rfl) | (with_reducible refine And.intro ?_ ?_) | (with_reducible intro _)))
    | succ r ih =>
      intro k hk
      have := ih (k + 1) (by omega)
      have e := ha k (by omega)
      have hm : sumN a (k + 1) ≤ n3 := by rw [← hn]; exact sumN_mono (by omega)
      have e2 : (sumN a k : Int) + (a k : Int) = (sumN a (k + 1) : Nat) := by simp only [sumN]; omega
      refine AW.run ck_Md_manySum [4] 10 4 ?_
      simp only [wR, wB, wE0, wE1, wE2, wE3, g0, gS, s10, s11, s1S, s20, s21, s2S, kl0, kl1, kl2, kl3, sp0, sp1, sp2, sp3, cn1, cn2, cn3, cn4, cn5, cn6, jJa, lk0, lk1, jmS, jmN, s4_0, s4_1, s4_2, s4_3, s4_4, sw0, sw1, cKs, cKn, true_and, and_true, List.map_cons, List.map_nil, Nat.reduceAdd, Nat.zero_add, Int.reduceAdd, Nat.reduceEqDiff, reduceIte, Classical.not_not, b_Md_manySum, shMd, e, e2, ce]
      (repeat' (first | omega | (with_reducible exact True.intro) | exact ⟨by omega, by omega⟩ | (with_reducible exact Or.inr trivial) | (with_reducible exact Or.inl trivial) | (with_reducible assumption) | (with_reducible exact Same.refl) | (with_reducible rfl) | (with_reducible refine And.intro ?_ ?_) | (with_reducible intro _)))
  have := loop 3125 0 (by omega)
  refine AW.run ck_Md_manySum [4] 10 0 ?_
  simp only [wR, wB, wE0, wE1, wE2, wE3, g0, gS, s10, s11, s1S, s20, s21, s2S, kl0, kl1, kl2, kl3, sp0, sp1, sp2, sp3, cn1, cn2, cn3, cn4, cn5, cn6, jJa, lk0, lk1, jmS, jmN, s4_0, s4_1, s4_2, s4_3, s4_4, sw0, sw1, cKs, cKn, true_and, and_true, List.map_cons, List.map_nil, Nat.reduceAdd, Nat.zero_add, Int.reduceAdd, Nat.reduceEqDiff, reduceIte, Classical.not_not, b_Md_manySum]
  exact this
end MY
