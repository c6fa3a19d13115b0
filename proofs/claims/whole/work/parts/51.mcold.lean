/-! how cold it is, what to try: the model -/
theorem cntP_mono {f : Nat → Bool} {n : Nat} : ∀ k, cntP f n ≤ cntP f (n + k)
  | 0 => Nat.le_refl _
  | k + 1 => by
    have := cntP_mono (f := f) (n := n) k
    rw [← Nat.add_assoc]
    simp only [cntP]
    omega
theorem cntP_last {f : Nat → Bool} {i : Nat} : ∀ n, i < n → f i = true → ∃ k, k < n ∧ f k = true ∧ cntP f n = cntP f (k + 1)
  | 0, h, _ => absurd h (by omega)
  | n + 1, h, hf => by
    by_cases q : f n = true
    · exact ⟨n, by omega, q, rfl⟩
    · have hin : i < n := by
        rcases Nat.lt_or_ge i n with a | a
        · exact a
        · rw [show n = i by omega] at q; exact absurd hf q
      obtain ⟨k, h1, h2, h3⟩ := cntP_last n hin hf
      refine ⟨k, by omega, h2, ?_⟩
      rw [← h3]
      simp only [cntP]
      rw [if_neg q]; rfl
def alkM (cand : Nat) (code : Nat → Nat) : Nat → Nat
  | 0 => 0
  | i + 1 => max (alkM cand code i) (if wb cand i = true then cntP (fun j => wb cand j && decide (code j = code i)) 10 else 0)
theorem alkC_mono {cand : Nat} {code : Nat → Nat} {n : Nat} : ∀ k, alkC cand code n ≤ alkC cand code (n + k)
  | 0 => Nat.le_refl _
  | k + 1 => by
    have := alkC_mono (cand := cand) (code := code) (n := n) k
    rw [← Nat.add_assoc]
    simp only [alkC]
    split
    · exact Nat.le_trans this (Nat.le_max_left _ _)
    · exact this
theorem alk_eq {cand : Nat} {code : Nat → Nat} : alkC cand code 10 = alkM cand code 10 := by
  have h1 : ∀ i, i ≤ 10 → alkC cand code i ≤ alkM cand code i := by
    intro i
    induction i with
    | zero => intro _; exact Nat.le_refl _
    | succ i ih =>
      intro hi
      have := ih (by omega)
      simp only [alkC, alkM]
      by_cases q : wb cand i = true
      · rw [if_pos q, if_pos q]
        have hm := cntP_mono (f := fun j => wb cand j && decide (code j = code i)) (n := i + 1) (10 - (i + 1))
        rw [show i + 1 + (10 - (i + 1)) = 10 by omega] at hm
        omega
      · rw [if_neg q, if_neg q]
        omega
  have h2 : ∀ i, i ≤ 10 → alkM cand code i ≤ alkC cand code 10 := by
    intro i
    induction i with
    | zero => intro _; exact Nat.zero_le _
    | succ i ih =>
      intro hi
      have h0 := ih (by omega)
      simp only [alkM]
      by_cases q : wb cand i = true
      · rw [if_pos q]
        obtain ⟨k, k1, k2, k3⟩ := cntP_last (f := fun j => wb cand j && decide (code j = code i)) (i := i) 10 (by omega) (by simp [q])
        simp only [Bool.and_eq_true, decide_eq_true_eq] at k2
        have e : cntP (fun j => wb cand j && decide (code j = code i)) (k + 1) = cntP (fun j => wb cand j && decide (code j = code k)) (k + 1) := by rw [k2.2]
        have m := alkC_mono (cand := cand) (code := code) (n := k + 1) (10 - (k + 1))
        rw [show k + 1 + (10 - (k + 1)) = 10 by omega] at m
        have m2 : cntP (fun j => wb cand j && decide (code j = code k)) (k + 1) ≤ alkC cand code (k + 1) := by
          simp only [alkC]
          rw [if_pos k2.1]
          exact Nat.le_max_right _ _
        omega
      · rw [if_neg q]; omega
  exact Nat.le_antisymm (h1 10 (by omega)) (h2 10 (by omega))
theorem alkM_le {cand : Nat} {code : Nat → Nat} (i : Nat) : alkM cand code i ≤ 10 := by
  induction i with
  | zero => simp [alkM]
  | succ i ih =>
    have := cntP_le (fun j => wb cand j && decide (code j = code i)) 10
    simp only [alkM]
    split <;> omega
theorem attL_ext {f : Nat → Nat} {can : Nat → Bool} {n : Nat} : ∀ k, (∀ s, n ≤ s → s < n + k → can s = false) → attL f can (n + k) = attL f can n
  | 0, _ => rfl
  | k + 1, h => by
    rw [← Nat.add_assoc]
    simp only [attL]
    rw [if_neg (fun q => by have := h (n + k) (by omega) (by omega); rw [this] at q; exact absurd q.1 (by decide)), attL_ext k (fun s a b => h s a (by omega))]
theorem set_out {P a s : Nat} (hP : P ≤ 5) (ha : a < 2 ^ P) (h1 : 2 ^ P ≤ s) (h2 : s < 32) : ¬ s &&& (31 ^^^ a) = 0 := by
  have key : ∀ (P : Fin 6) (a s : Fin 32), a.val < 2 ^ P.val → 2 ^ P.val ≤ s.val → ¬ s.val &&& (31 ^^^ a.val) = 0 := by decide +kernel
  have h32 := p2_32 hP
  exact key ⟨P, by omega⟩ ⟨a, by omega⟩ ⟨s, h2⟩ ha h1
section MM
variable {G : AG} {d : Nat} {M : AM}
theorem c_Md_noTired {t p : Int} {B : Nat} {σ : Sg} (hd : 8 ≤ d) (ok : SgOK B σ) (hR : MR M σ) : MS G d mi_Md_noTired [vr 117, vi t, vi p] M (fun r M' => r = some (vi (aRT σ t p)) ∧ M' = M) := by
  have hP := ok.2.2.1.1
  have hH := hR.past.1
  refine MS.by ck_Md_noTired [some (vr 117), some (vi t), some (vi p), none, none] fun _ _ => ?_
  generalize hQ : (fun (r : Option AV) (M' : AM) => r = some (vi (aRT σ t p)) ∧ M' = M) = Q
  have a21 : aRT σ t p = -2 → AW G d mi_Md_noTired Q 21 [some (vr 117), some (vi t), some (vi p), none, none] [] M := by
    intro e
    refine AW.run ck_Md_noTired [] 10 21 ?_
    simp only [wR, wB, wE0, wE1, wE2, wE3, g0, gS, s10, s11, s1S, s20, s21, s2S, kl0, kl1, kl2, kl3, sp0, sp1, sp2, sp3, cn1, cn2, cn3, cn4, cn5, cn6, jJa, lk0, lk1, jmS, jmN, s4_0, s4_1, s4_2, s4_3, s4_4, sw0, sw1, cKs, cKn, true_and, and_true, List.map_cons, List.map_nil, Nat.reduceAdd, Nat.zero_add, Int.reduceAdd, Nat.reduceEqDiff, reduceIte, Classical.not_not, b_Md_noTired]
    subst hQ
    exact ⟨by rw [e], rfl⟩
  refine AW.run ck_Md_noTired [21, 24] 10 0 ?_
  simp only [wR, wB, wE0, wE1, wE2, wE3, g0, gS, s10, s11, s1S, s20, s21, s2S, kl0, kl1, kl2, kl3, sp0, sp1, sp2, sp3, cn1, cn2, cn3, cn4, cn5, cn6, jJa, lk0, lk1, jmS, jmN, s4_0, s4_1, s4_2, s4_3, s4_4, sw0, sw1, cKs, cKn, true_and, and_true, List.map_cons, List.map_nil, Nat.reduceAdd, Nat.zero_add, Int.reduceAdd, Nat.reduceEqDiff, reduceIte, Classical.not_not, b_Md_noTired, shMd]
  refine ⟨by omega, MS.to c_Md_within fun _ => ?_⟩
  by_cases qt : 0 ≤ t ∧ t ≤ 3
  · rw [if_pos qt]
    simp only [wR, wB, wE0, wE1, wE2, wE3, g0, gS, s10, s11, s1S, s20, s21, s2S, kl0, kl1, kl2, kl3, sp0, sp1, sp2, sp3, cn1, cn2, cn3, cn4, cn5, cn6, jJa, lk0, lk1, jmS, jmN, s4_0, s4_1, s4_2, s4_3, s4_4, sw0, sw1, cKs, cKn, true_and, and_true, List.map_cons, List.map_nil, Nat.reduceAdd, Nat.zero_add, Int.reduceAdd, Nat.reduceEqDiff, reduceIte, Classical.not_not, b_Md_noTired, shMd, up_rd, Int.reduceEq, and_false, false_and, and_self, reduceIte, not_true_eq_false, not_false_eq_true, false_imp_iff, true_imp_iff, true_or, or_true]
    refine ⟨by omega, MS.to (c_Md_isPerson (d := d - 1) (by omega) hH.2.1 hP) fun _ => ?_⟩
    by_cases qp : 0 ≤ p ∧ p < (σ.h.P : Int)
    · rw [if_pos qp]
      simp only [wR, wB, wE0, wE1, wE2, wE3, g0, gS, s10, s11, s1S, s20, s21, s2S, kl0, kl1, kl2, kl3, sp0, sp1, sp2, sp3, cn1, cn2, cn3, cn4, cn5, cn6, jJa, lk0, lk1, jmS, jmN, s4_0, s4_1, s4_2, s4_3, s4_4, sw0, sw1, cKs, cKn, true_and, and_true, List.map_cons, List.map_nil, Nat.reduceAdd, Nat.zero_add, Int.reduceAdd, Nat.reduceEqDiff, reduceIte, Classical.not_not, b_Md_noTired, shMd, up_rd, Int.reduceEq, and_false, false_and, and_self, reduceIte, not_true_eq_false, not_false_eq_true, false_imp_iff, true_imp_iff, true_or, or_true]
      refine AW.run ck_Md_noTired [36] 10 24 ?_
      simp only [wR, wB, wE0, wE1, wE2, wE3, g0, gS, s10, s11, s1S, s20, s21, s2S, kl0, kl1, kl2, kl3, sp0, sp1, sp2, sp3, cn1, cn2, cn3, cn4, cn5, cn6, jJa, lk0, lk1, jmS, jmN, s4_0, s4_1, s4_2, s4_3, s4_4, sw0, sw1, cKs, cKn, true_and, and_true, List.map_cons, List.map_nil, Nat.reduceAdd, Nat.zero_add, Int.reduceAdd, Nat.reduceEqDiff, reduceIte, Classical.not_not, b_Md_noTired, shMd]
      refine ⟨by omega, MS.to (c_Md_noTray (d := d - 1) (by omega) hR) fun _ => ?_⟩
      simp only [wR, wB, wE0, wE1, wE2, wE3, g0, gS, s10, s11, s1S, s20, s21, s2S, kl0, kl1, kl2, kl3, sp0, sp1, sp2, sp3, cn1, cn2, cn3, cn4, cn5, cn6, jJa, lk0, lk1, jmS, jmN, s4_0, s4_1, s4_2, s4_3, s4_4, sw0, sw1, cKs, cKn, true_and, and_true, List.map_cons, List.map_nil, Nat.reduceAdd, Nat.zero_add, Int.reduceAdd, Nat.reduceEqDiff, reduceIte, Classical.not_not, b_Md_noTired, shMd]
      unfold aRT aRN at hQ
      rw [if_pos qp] at hQ
      by_cases q : aTr σ t = 0
      · obtain ⟨i, rfl, hi, hne⟩ := aTr_0 q
        obtain ⟨t1, t2⟩ := (hR.2.2.2.2.2.1 i hi).2 hne
        have ht40 := (ok.2.2.2.2.2.2.1 i hi).2.2
        rw [if_pos q, Int.toNat_natCast] at hQ
        (repeat' (first | omega | exact ⟨by omega, by omega⟩ | (with_reducible exact Or.inr trivial) | (with_reducible exact Or.inl trivial) | (with_reducible assumption) | (with_reducible exact Same.refl) | (with_reducible rfl) | (with_reducible refine And.intro ?_ ?_) | (with_reducible intro _)))
        refine AW.run ck_Md_noTired [56] 10 36 ?_
        simp only [wR, wB, wE0, wE1, wE2, wE3, g0, gS, s10, s11, s1S, s20, s21, s2S, kl0, kl1, kl2, kl3, sp0, sp1, sp2, sp3, cn1, cn2, cn3, cn4, cn5, cn6, jJa, lk0, lk1, jmS, jmN, s4_0, s4_1, s4_2, s4_3, s4_4, sw0, sw1, cKs, cKn, true_and, and_true, List.map_cons, List.map_nil, Nat.reduceAdd, Nat.zero_add, Int.reduceAdd, Nat.reduceEqDiff, reduceIte, Classical.not_not, b_Md_noTired, shMd, t1]
        (repeat' (first | omega | exact ⟨by omega, by omega⟩ | (with_reducible exact Or.inr trivial) | (with_reducible exact Or.inl trivial) | (with_reducible assumption) | (with_reducible exact Same.refl) | (with_reducible rfl) | (with_reducible refine And.intro ?_ ?_) | (with_reducible intro _)))
        refine MS.to c_Md_within fun _ => ?_
        by_cases qn : ((σ.tr i).2.1 : Int) < 1 ∨ 10 < ((σ.tr i).2.1 : Int)
        · rw [if_neg (by omega)]
          rw [if_pos qn] at hQ
          simp only [wR, wB, wE0, wE1, wE2, wE3, g0, gS, s10, s11, s1S, s20, s21, s2S, kl0, kl1, kl2, kl3, sp0, sp1, sp2, sp3, cn1, cn2, cn3, cn4, cn5, cn6, jJa, lk0, lk1, jmS, jmN, s4_0, s4_1, s4_2, s4_3, s4_4, sw0, sw1, cKs, cKn, true_and, and_true, List.map_cons, List.map_nil, Nat.reduceAdd, Nat.zero_add, Int.reduceAdd, Nat.reduceEqDiff, reduceIte, Classical.not_not, b_Md_noTired, shMd, up_rd, Int.reduceEq, and_false, false_and, and_self, reduceIte, not_true_eq_false, not_false_eq_true, false_imp_iff, true_imp_iff, true_or, or_true]
          subst hQ
          exact ⟨rfl, rfl⟩
        · rw [if_pos (by omega)]
          rw [if_neg qn] at hQ
          simp only [wR, wB, wE0, wE1, wE2, wE3, g0, gS, s10, s11, s1S, s20, s21, s2S, kl0, kl1, kl2, kl3, sp0, sp1, sp2, sp3, cn1, cn2, cn3, cn4, cn5, cn6, jJa, lk0, lk1, jmS, jmN, s4_0, s4_1, s4_2, s4_3, s4_4, sw0, sw1, cKs, cKn, true_and, and_true, List.map_cons, List.map_nil, Nat.reduceAdd, Nat.zero_add, Int.reduceAdd, Nat.reduceEqDiff, reduceIte, Classical.not_not, b_Md_noTired, shMd, up_rd, Int.reduceEq, and_false, false_and, and_self, reduceIte, not_true_eq_false, not_false_eq_true, false_imp_iff, true_imp_iff, true_or, or_true]
          have loop : ∀ (r k : Nat), k + r = (σ.tr i).2.1 → (∀ j, j < k → 0 ≤ (σ.tr i).2.2 j ∧ (σ.tr i).2.2 j ≤ 4) → AW G d mi_Md_noTired Q 59 [some (vr 117), some (vi i), some (vi p), some (vi (aTr σ i)), some (vi k)] [] M := by
            intro r
            induction r with
            | zero =>
              intro k hk hall
              refine AW.run ck_Md_noTired [95] 10 59 ?_
              simp only [wR, wB, wE0, wE1, wE2, wE3, g0, gS, s10, s11, s1S, s20, s21, s2S, kl0, kl1, kl2, kl3, sp0, sp1, sp2, sp3, cn1, cn2, cn3, cn4, cn5, cn6, jJa, lk0, lk1, jmS, jmN, s4_0, s4_1, s4_2, s4_3, s4_4, sw0, sw1, cKs, cKn, true_and, and_true, List.map_cons, List.map_nil, Nat.reduceAdd, Nat.zero_add, Int.reduceAdd, Nat.reduceEqDiff, reduceIte, Classical.not_not, b_Md_noTired, shMd, t1]
              rw [if_pos (fun j hj => hall j (by omega))] at hQ
              subst hQ
              (repeat' (first | omega | exact ⟨by omega, by omega⟩ | (with_reducible exact Or.inr trivial) | (with_reducible exact Or.inl trivial) | (with_reducible assumption) | (with_reducible exact Same.refl) | (with_reducible rfl) | (with_reducible refine And.intro ?_ ?_) | (with_reducible intro _)))
            | succ r ih =>
              intro k hk hall
              refine AW.run ck_Md_noTired [95] 10 59 ?_
              simp only [wR, wB, wE0, wE1, wE2, wE3, g0, gS, s10, s11, s1S, s20, s21, s2S, kl0, kl1, kl2, kl3, sp0, sp1, sp2, sp3, cn1, cn2, cn3, cn4, cn5, cn6, jJa, lk0, lk1, jmS, jmN, s4_0, s4_1, s4_2, s4_3, s4_4, sw0, sw1, cKs, cKn, true_and, and_true, List.map_cons, List.map_nil, Nat.reduceAdd, Nat.zero_add, Int.reduceAdd, Nat.reduceEqDiff, reduceIte, Classical.not_not, b_Md_noTired, shMd, t1, t2 k (by omega)]
              (repeat' (first | omega | exact ⟨by omega, by omega⟩ | (with_reducible exact Or.inr trivial) | (with_reducible exact Or.inl trivial) | (with_reducible assumption) | (with_reducible exact Same.refl) | (with_reducible rfl) | (with_reducible refine And.intro ?_ ?_) | (with_reducible intro _)))
              refine MS.to c_Md_within fun _ => ?_
              by_cases qk : 0 ≤ (σ.tr i).2.2 k ∧ (σ.tr i).2.2 k ≤ 4
              · rw [if_pos qk]
                simp only [wR, wB, wE0, wE1, wE2, wE3, g0, gS, s10, s11, s1S, s20, s21, s2S, kl0, kl1, kl2, kl3, sp0, sp1, sp2, sp3, cn1, cn2, cn3, cn4, cn5, cn6, jJa, lk0, lk1, jmS, jmN, s4_0, s4_1, s4_2, s4_3, s4_4, sw0, sw1, cKs, cKn, true_and, and_true, List.map_cons, List.map_nil, Nat.reduceAdd, Nat.zero_add, Int.reduceAdd, Nat.reduceEqDiff, reduceIte, Classical.not_not, b_Md_noTired, shMd, up_rd, Int.reduceEq, and_false, false_and, and_self, reduceIte, not_true_eq_false, not_false_eq_true, false_imp_iff, true_imp_iff, true_or, or_true]
                refine AW.run ck_Md_noTired [59] 10 95 ?_
                simp only [wR, wB, wE0, wE1, wE2, wE3, g0, gS, s10, s11, s1S, s20, s21, s2S, kl0, kl1, kl2, kl3, sp0, sp1, sp2, sp3, cn1, cn2, cn3, cn4, cn5, cn6, jJa, lk0, lk1, jmS, jmN, s4_0, s4_1, s4_2, s4_3, s4_4, sw0, sw1, cKs, cKn, true_and, and_true, List.map_cons, List.map_nil, Nat.reduceAdd, Nat.zero_add, Int.reduceAdd, Nat.reduceEqDiff, reduceIte, Classical.not_not, b_Md_noTired, ce]
                (repeat' (first | omega | exact ⟨by omega, by omega⟩ | (with_reducible exact Or.inr trivial) | (with_reducible exact Or.inl trivial) | (with_reducible assumption) | (with_reducible exact Same.refl) | (with_reducible rfl) | (with_reducible refine And.intro ?_ ?_) | (with_reducible intro _)))
                exact ih (k + 1) (by omega) (fun j hj => by
                  by_cases e : j = k
                  · rw [e]; exact qk
                  · exact hall j (by omega))
              · rw [if_neg qk]
                simp only [wR, wB, wE0, wE1, wE2, wE3, g0, gS, s10, s11, s1S, s20, s21, s2S, kl0, kl1, kl2, kl3, sp0, sp1, sp2, sp3, cn1, cn2, cn3, cn4, cn5, cn6, jJa, lk0, lk1, jmS, jmN, s4_0, s4_1, s4_2, s4_3, s4_4, sw0, sw1, cKs, cKn, true_and, and_true, List.map_cons, List.map_nil, Nat.reduceAdd, Nat.zero_add, Int.reduceAdd, Nat.reduceEqDiff, reduceIte, Classical.not_not, b_Md_noTired, shMd, up_rd, Int.reduceEq, and_false, false_and, and_self, reduceIte, not_true_eq_false, not_false_eq_true, false_imp_iff, true_imp_iff, true_or, or_true]
                rw [if_neg (fun h => qk (h k (by omega)))] at hQ
                subst hQ
                exact ⟨rfl, rfl⟩
          refine AW.run ck_Md_noTired [59] 10 56 ?_
          simp only [wR, wB, wE0, wE1, wE2, wE3, g0, gS, s10, s11, s1S, s20, s21, s2S, kl0, kl1, kl2, kl3, sp0, sp1, sp2, sp3, cn1, cn2, cn3, cn4, cn5, cn6, jJa, lk0, lk1, jmS, jmN, s4_0, s4_1, s4_2, s4_3, s4_4, sw0, sw1, cKs, cKn, true_and, and_true, List.map_cons, List.map_nil, Nat.reduceAdd, Nat.zero_add, Int.reduceAdd, Nat.reduceEqDiff, reduceIte, Classical.not_not, b_Md_noTired]
          exact loop (σ.tr i).2.1 0 (by omega) (fun j hj => absurd hj (by omega))
      · rw [if_neg q] at hQ
        (repeat' (first | omega | exact ⟨by omega, by omega⟩ | (with_reducible exact Or.inr trivial) | (with_reducible exact Or.inl trivial) | (with_reducible assumption) | (with_reducible exact Same.refl) | (with_reducible rfl) | (with_reducible refine And.intro ?_ ?_) | (with_reducible intro _)))
        subst hQ
        exact ⟨rfl, rfl⟩
    · rw [if_neg qp]
      simp only [wR, wB, wE0, wE1, wE2, wE3, g0, gS, s10, s11, s1S, s20, s21, s2S, kl0, kl1, kl2, kl3, sp0, sp1, sp2, sp3, cn1, cn2, cn3, cn4, cn5, cn6, jJa, lk0, lk1, jmS, jmN, s4_0, s4_1, s4_2, s4_3, s4_4, sw0, sw1, cKs, cKn, true_and, and_true, List.map_cons, List.map_nil, Nat.reduceAdd, Nat.zero_add, Int.reduceAdd, Nat.reduceEqDiff, reduceIte, Classical.not_not, b_Md_noTired, shMd, up_rd, Int.reduceEq, and_false, false_and, and_self, reduceIte, not_true_eq_false, not_false_eq_true, false_imp_iff, true_imp_iff, true_or, or_true]
      exact a21 (by unfold aRT; rw [if_neg qp])
  · rw [if_neg qt]
    simp only [wR, wB, wE0, wE1, wE2, wE3, g0, gS, s10, s11, s1S, s20, s21, s2S, kl0, kl1, kl2, kl3, sp0, sp1, sp2, sp3, cn1, cn2, cn3, cn4, cn5, cn6, jJa, lk0, lk1, jmS, jmN, s4_0, s4_1, s4_2, s4_3, s4_4, sw0, sw1, cKs, cKn, true_and, and_true, List.map_cons, List.map_nil, Nat.reduceAdd, Nat.zero_add, Int.reduceAdd, Nat.reduceEqDiff, reduceIte, Classical.not_not, b_Md_noTired, shMd, up_rd, Int.reduceEq, and_false, false_and, and_self, reduceIte, not_true_eq_false, not_false_eq_true, false_imp_iff, true_imp_iff, true_or, or_true]
    refine a21 ?_
    unfold aRT aRN aTr
    have : ¬ (0 ≤ t ∧ t < 4) := by omega
    split
    · rw [if_neg (by omega)]
    · rfl
theorem dig_nxt {h : Hl} {sd : Nat → Nat} {c s set p : Nat} (hp : p < h.P) : dig (nxt h sd c s set) p = tired h sd c set p (dig s p) := by
  unfold nxt
  rw [dig_cod0 (fun p _ => tired_le _ _ _ _ _ _), if_pos hp]
def stS (h : Hl) (sd st : Nat → Nat) (c p : Nat) : Nat → Nat
  | 0 => cod st h.P
  | k + 1 => nxt h sd c (stS h sd st c p k) (if 0 < dig (stS h sd st c p k) p then 2 ^ p else 0)
theorem stS_dig {h : Hl} {sd st : Nat → Nat} {c p : Nat} (hp : p < h.P) (hst : ∀ p, st p ≤ 4) : ∀ k, dig (stS h sd st c p k) p = tirS h sd c p (st p) k
  | 0 => by show dig (cod st h.P) p = st p; rw [dig_cod0 (fun p _ => hst p), if_pos hp]
  | k + 1 => by
    show dig (nxt _ _ _ _ _) p = tired _ _ _ _ _ _
    rw [dig_nxt hp, stS_dig hp hst k]
theorem stS_lt {h : Hl} {sd st : Nat → Nat} {c p : Nat} (ok : HlOK h) (hst : ∀ p, st p ≤ 4) : ∀ k, stS h sd st c p k < 3125
  | 0 => cod_lt ok.1 (fun p _ => hst p)
  | _ + 1 => nxt_lt ok
theorem c_Md_coldsOf {i p B : Nat} {σ : Sg} (hd : 10 ≤ d) (ok : SgOK B σ) (hR : MR M σ) (hi : i < 4) (hne : (σ.tr i).1 ≠ -1) (hp : p < σ.h.P) :
    MS G d mi_Md_coldsOf [vr 117, vi i, vi p] M (fun r M' => r = some (vi (coldsN σ i p)) ∧ Same [122, 123] M M') := by
  have hok := ok.2.2.1
  have hP := hok.1
  have mok := ok.2.2.2.1.1
  obtain ⟨hH, hm, -⟩ := hR.past
  have hsd := hm.sd mok
  have hst := hm.st mok
  obtain ⟨t1, t2⟩ := (hR.2.2.2.2.2.1 i hi).2 hne
  have ht40 := (ok.2.2.2.2.2.2.1 i hi).2.2
  have h2p : 2 ^ p < 32 := Nat.pow_lt_pow_right (a := 2) (n := 5) (by omega) (by omega)
  have e2p : bShl 1 (p : Int) = ((2 ^ p : Nat) : Int) := by rw [show (1 : Int) = ((1 : Nat) : Int) from rfl, bShl_n (by omega) (by omega), Nat.one_mul]
  refine MS.by ck_Md_coldsOf [some (vr 117), some (vi i), some (vi p), none, none, none, none, none] fun _ _ => ?_
  generalize hQ : (fun (r : Option AV) (M' : AM) => r = some (vi (coldsN σ i p)) ∧ Same [122, 123] M M') = Q
  generalize hF : (fun c => tirOK σ.h σ.m.sd c p (σ.m.st p) (σ.tr i).2.2 (σ.tr i).2.1) = F
  have loop : ∀ (r c : Nat) (N : AM) (l5 l6 l7 : Option AV), c + r = 10 → Same [122, 123] M N → AW G d mi_Md_coldsOf Q 5 [some (vr 117), some (vi i), some (vi p), some (vi (bitsP F c)), some (vi c), l5, l6, l7] [] N := by
    intro r
    induction r with
    | zero =>
      intro c N l5 l6 l7 hc hN
      obtain rfl : c = 10 := by omega
      refine AW.run ck_Md_coldsOf [24] 10 5 ?_
      simp only [wR, wB, wE0, wE1, wE2, wE3, g0, gS, s10, s11, s1S, s20, s21, s2S, kl0, kl1, kl2, kl3, sp0, sp1, sp2, sp3, cn1, cn2, cn3, cn4, cn5, cn6, jJa, lk0, lk1, jmS, jmN, s4_0, s4_1, s4_2, s4_3, s4_4, sw0, sw1, cKs, cKn, true_and, and_true, List.map_cons, List.map_nil, Nat.reduceAdd, Nat.zero_add, Int.reduceAdd, Nat.reduceEqDiff, reduceIte, Classical.not_not, b_Md_coldsOf, shMd]
      subst hQ
      (repeat' (first | omega | exact ⟨by omega, by omega⟩ | (with_reducible exact Or.inr trivial) | (with_reducible exact Or.inl trivial) | (with_reducible assumption) | (with_reducible exact Same.refl) | (with_reducible rfl) | (with_reducible refine And.intro ?_ ?_) | (with_reducible intro _)))
      rw [← hF]; rfl
    | succ r ih =>
      intro c N l5 l6 l7 hc hN
      have e118 : N 118 = M 118 := hN 118 (by (first | decide | (simp only [List.mem_cons, List.not_mem_nil, or_false, not_or, not_false_eq_true, and_true]; omega) | (simp [List.mem_cons]; done)))
      refine AW.run ck_Md_coldsOf [24] 10 5 ?_
      simp only [wR, wB, wE0, wE1, wE2, wE3, g0, gS, s10, s11, s1S, s20, s21, s2S, kl0, kl1, kl2, kl3, sp0, sp1, sp2, sp3, cn1, cn2, cn3, cn4, cn5, cn6, jJa, lk0, lk1, jmS, jmN, s4_0, s4_1, s4_2, s4_3, s4_4, sw0, sw1, cKs, cKn, true_and, and_true, List.map_cons, List.map_nil, Nat.reduceAdd, Nat.zero_add, Int.reduceAdd, Nat.reduceEqDiff, reduceIte, Classical.not_not, b_Md_coldsOf, shMd]
      (repeat' (first | omega | exact ⟨by omega, by omega⟩ | (with_reducible exact Or.inr trivial) | (with_reducible exact Or.inl trivial) | (with_reducible assumption) | (with_reducible exact Same.refl) | (with_reducible rfl) | (with_reducible refine And.intro ?_ ?_) | (with_reducible intro _)))
      refine MS.to (c_Md_standNow (by rw [e118]; exact hH.2.1) hP (by rw [e118]; exact hst)) fun _ => ?_
      simp only [wR, wB, wE0, wE1, wE2, wE3, g0, gS, s10, s11, s1S, s20, s21, s2S, kl0, kl1, kl2, kl3, sp0, sp1, sp2, sp3, cn1, cn2, cn3, cn4, cn5, cn6, jJa, lk0, lk1, jmS, jmN, s4_0, s4_1, s4_2, s4_3, s4_4, sw0, sw1, cKs, cKn, true_and, and_true, List.map_cons, List.map_nil, Nat.reduceAdd, Nat.zero_add, Int.reduceAdd, Nat.reduceEqDiff, reduceIte, Classical.not_not, b_Md_coldsOf, shMd]
      have a114 : ∀ (K : AM) (x : Nat) (l5 l6 l7 : Option AV), x = (if F c = true then 2 ^ c else 0) → Same [122, 123] M K → AW G d mi_Md_coldsOf Q 114 [some (vr 117), some (vi i), some (vi p), some (vi (bitsP F c)), some (vi c), l5, l6, l7] [vi x, vi (bitsP F c)] K := by
        intro K x l5 l6 l7 hx hK
        have hl := bitsP_lt F c
        have h2c : 2 ^ c ≤ 2 ^ 10 := Nat.pow_le_pow_right (by omega) (by omega)
        have eor : bOr ((bitsP F c : Nat) : Int) (x : Int) = ((bitsP F (c + 1) : Nat) : Int) := by
          simp only [bitsP]
          rw [hx]
          by_cases q : F c = true
          · rw [if_pos q]
            have := or_new hl (by omega)
            rwa [show bShl 1 (c : Int) = ((2 ^ c : Nat) : Int) by rw [show (1 : Int) = ((1 : Nat) : Int) from rfl, bShl_n (by omega) (by omega), Nat.one_mul]] at this
          · rw [if_neg q]
            exact or_0 (by omega)
        refine AW.run ck_Md_coldsOf [5] 10 114 ?_
        simp only [wR, wB, wE0, wE1, wE2, wE3, g0, gS, s10, s11, s1S, s20, s21, s2S, kl0, kl1, kl2, kl3, sp0, sp1, sp2, sp3, cn1, cn2, cn3, cn4, cn5, cn6, jJa, lk0, lk1, jmS, jmN, s4_0, s4_1, s4_2, s4_3, s4_4, sw0, sw1, cKs, cKn, true_and, and_true, List.map_cons, List.map_nil, Nat.reduceAdd, Nat.zero_add, Int.reduceAdd, Nat.reduceEqDiff, reduceIte, Classical.not_not, b_Md_coldsOf, eor, ce]
        (repeat' (first | omega | exact ⟨by omega, by omega⟩ | (with_reducible exact Or.inr trivial) | (with_reducible exact Or.inl trivial) | (with_reducible assumption) | (with_reducible exact Same.refl) | (with_reducible rfl) | (with_reducible refine And.intro ?_ ?_) | (with_reducible intro _)))
        exact ih (c + 1) K _ _ _ (by omega) hK
      have inner : ∀ (r k : Nat) (K : AM), k + r = (σ.tr i).2.1 → Same [122, 123] M K → AW G d mi_Md_coldsOf Q 24 [some (vr 117), some (vi i), some (vi p), some (vi (bitsP F c)), some (vi c), some (vi (stS σ.h σ.m.sd σ.m.st c p k)), some (vi (if (∀ j, j < k → (tirS σ.h σ.m.sd c p (σ.m.st p) (j + 1) : Int) = (σ.tr i).2.2 j) then 1 else 0)), some (vi k)] [] K := by
        intro r
        induction r with
        | zero =>
          intro k K hk hK
          have hFc : F c = true ↔ ∀ j, j < k → (tirS σ.h σ.m.sd c p (σ.m.st p) (j + 1) : Int) = (σ.tr i).2.2 j := by
            rw [← hF]
            unfold tirOK
            rw [decide_eq_true_eq, show (σ.tr i).2.1 = k by omega]
          have e2c : bShl 1 (c : Int) = ((2 ^ c : Nat) : Int) := by rw [show (1 : Int) = ((1 : Nat) : Int) from rfl, bShl_n (by omega) (by have : 2 ^ c ≤ 2 ^ 10 := Nat.pow_le_pow_right (by omega) (by omega); omega), Nat.one_mul]
          refine AW.run ck_Md_coldsOf [54, 91, 114] 10 24 ?_
          simp only [wR, wB, wE0, wE1, wE2, wE3, g0, gS, s10, s11, s1S, s20, s21, s2S, kl0, kl1, kl2, kl3, sp0, sp1, sp2, sp3, cn1, cn2, cn3, cn4, cn5, cn6, jJa, lk0, lk1, jmS, jmN, s4_0, s4_1, s4_2, s4_3, s4_4, sw0, sw1, cKs, cKn, true_and, and_true, List.map_cons, List.map_nil, Nat.reduceAdd, Nat.zero_add, Int.reduceAdd, Nat.reduceEqDiff, reduceIte, Classical.not_not, b_Md_coldsOf, shMd, hK.at 136 _ (by (first | decide | (simp only [List.mem_cons, List.not_mem_nil, or_false, not_or, not_false_eq_true, and_true]; omega) | (simp [List.mem_cons]; done))), t1, e2c]
          by_cases q : ∀ j, j < k → (tirS σ.h σ.m.sd c p (σ.m.st p) (j + 1) : Int) = (σ.tr i).2.2 j
          · have := a114 K (2 ^ c) (some (vi (stS σ.h σ.m.sd σ.m.st c p k))) (some (vi 1)) (some (vi k)) (by rw [if_pos (hFc.mpr q)]) hK
            rw [if_pos q]
            (repeat' (first | omega | exact ⟨by omega, by omega⟩ | (with_reducible exact Or.inr trivial) | (with_reducible exact Or.inl trivial) | (with_reducible assumption) | (with_reducible exact Same.refl) | (with_reducible rfl) | (with_reducible refine And.intro ?_ ?_) | (with_reducible intro _)))
          · have := a114 K 0 (some (vi (stS σ.h σ.m.sd σ.m.st c p k))) (some (vi 0)) (some (vi k)) (by rw [if_neg (fun h => q (hFc.mp h))]) hK
            rw [if_neg q]
            (repeat' (first | omega | exact ⟨by omega, by omega⟩ | (with_reducible exact Or.inr trivial) | (with_reducible exact Or.inl trivial) | (with_reducible assumption) | (with_reducible exact Same.refl) | (with_reducible rfl) | (with_reducible refine And.intro ?_ ?_) | (with_reducible intro _)))
        | succ r ih2 =>
          intro k K hk hK
          have k118 : K 118 = M 118 := hK 118 (by (first | decide | (simp only [List.mem_cons, List.not_mem_nil, or_false, not_or, not_false_eq_true, and_true]; omega) | (simp [List.mem_cons]; done)))
          have hlt := stS_lt (sd := σ.m.sd) (c := c) (p := p) hok (fun p => (mok.1 p).2) k
          have hlt1 := stS_lt (sd := σ.m.sd) (c := c) (p := p) hok (fun p => (mok.1 p).2) (k + 1)
          have hdg := stS_dig (sd := σ.m.sd) (c := c) hp (fun p => (mok.1 p).2) k
          have hdg1 := stS_dig (sd := σ.m.sd) (c := c) hp (fun p => (mok.1 p).2) (k + 1)
          have a54 : ∀ s : Nat, s = (if 0 < dig (stS σ.h σ.m.sd σ.m.st c p k) p then 2 ^ p else 0) → AW G d mi_Md_coldsOf Q 54 [some (vr 117), some (vi i), some (vi p), some (vi (bitsP F c)), some (vi c), some (vi (stS σ.h σ.m.sd σ.m.st c p k)), some (vi (if (∀ j, j < k → (tirS σ.h σ.m.sd c p (σ.m.st p) (j + 1) : Int) = (σ.tr i).2.2 j) then 1 else 0)), some (vi k)] [vi s, vi (stS σ.h σ.m.sd σ.m.st c p k), vr 117] K := by
            intro s hs'
            have hs32 : s < 32 := by rw [hs']; split <;> omega
            refine AW.run ck_Md_coldsOf [91] 10 54 ?_
            simp only [wR, wB, wE0, wE1, wE2, wE3, g0, gS, s10, s11, s1S, s20, s21, s2S, kl0, kl1, kl2, kl3, sp0, sp1, sp2, sp3, cn1, cn2, cn3, cn4, cn5, cn6, jJa, lk0, lk1, jmS, jmN, s4_0, s4_1, s4_2, s4_3, s4_4, sw0, sw1, cKs, cKn, true_and, and_true, List.map_cons, List.map_nil, Nat.reduceAdd, Nat.zero_add, Int.reduceAdd, Nat.reduceEqDiff, reduceIte, Classical.not_not, b_Md_coldsOf, shMd]
            (repeat' (first | omega | exact ⟨by omega, by omega⟩ | (with_reducible exact Or.inr trivial) | (with_reducible exact Or.inl trivial) | (with_reducible assumption) | (with_reducible exact Same.refl) | (with_reducible rfl) | (with_reducible refine And.intro ?_ ?_) | (with_reducible intro _)))
            refine (c_Md_hourTo (d := d - 1) (sd := σ.m.sd) (by omega) hok (by rw [k118]; exact hH) (by rw [k118]; exact hsd) (by omega) hs32 (by omega)).mono ?_
            rintro r' M1 okM1 ⟨rfl, u1⟩
            rw [show nxt σ.h σ.m.sd c (stS σ.h σ.m.sd σ.m.st c p k) s = stS σ.h σ.m.sd σ.m.st c p (k + 1) by rw [hs']; rfl]
            simp only [wR, wB, wE0, wE1, wE2, wE3, g0, gS, s10, s11, s1S, s20, s21, s2S, kl0, kl1, kl2, kl3, sp0, sp1, sp2, sp3, cn1, cn2, cn3, cn4, cn5, cn6, jJa, lk0, lk1, jmS, jmN, s4_0, s4_1, s4_2, s4_3, s4_4, sw0, sw1, cKs, cKn, true_and, and_true, List.map_cons, List.map_nil, Nat.reduceAdd, Nat.zero_add, Int.reduceAdd, Nat.reduceEqDiff, reduceIte, Classical.not_not, b_Md_coldsOf, shMd]
            (repeat' (first | omega | exact ⟨by omega, by omega⟩ | (with_reducible exact Or.inr trivial) | (with_reducible exact Or.inl trivial) | (with_reducible assumption) | (with_reducible exact Same.refl) | (with_reducible rfl) | (with_reducible refine And.intro ?_ ?_) | (with_reducible intro _)))
            refine MS.to (c_Md_strengthIn (d := d - 1) (by omega) (by omega)) fun _ => ?_
            rw [hdg1]
            have hK1 := hK.trans u1
            simp only [wR, wB, wE0, wE1, wE2, wE3, g0, gS, s10, s11, s1S, s20, s21, s2S, kl0, kl1, kl2, kl3, sp0, sp1, sp2, sp3, cn1, cn2, cn3, cn4, cn5, cn6, jJa, lk0, lk1, jmS, jmN, s4_0, s4_1, s4_2, s4_3, s4_4, sw0, sw1, cKs, cKn, true_and, and_true, List.map_cons, List.map_nil, Nat.reduceAdd, Nat.zero_add, Int.reduceAdd, Nat.reduceEqDiff, reduceIte, Classical.not_not, b_Md_coldsOf, shMd, hK1.at 137 _ (by (first | decide | (simp only [List.mem_cons, List.not_mem_nil, or_false, not_or, not_false_eq_true, and_true]; omega) | (simp [List.mem_cons]; done))), t2 k (by omega), cmp3_eq]
            have a91 : ∀ x : Int, (x = if (tirS σ.h σ.m.sd c p (σ.m.st p) (k + 1) : Int) = (σ.tr i).2.2 k then 1 else 0) → AW G d mi_Md_coldsOf Q 91 [some (vr 117), some (vi i), some (vi p), some (vi (bitsP F c)), some (vi c), some (vi (stS σ.h σ.m.sd σ.m.st c p (k + 1))), some (vi (if (∀ j, j < k → (tirS σ.h σ.m.sd c p (σ.m.st p) (j + 1) : Int) = (σ.tr i).2.2 j) then 1 else 0)), some (vi k)] [vi x, vi (if (∀ j, j < k → (tirS σ.h σ.m.sd c p (σ.m.st p) (j + 1) : Int) = (σ.tr i).2.2 j) then 1 else 0)] M1 := by
              intro x hx
              have key := ih2 (k + 1) M1 (by omega) hK1
              have eand : bAnd (if (∀ j, j < k → (tirS σ.h σ.m.sd c p (σ.m.st p) (j + 1) : Int) = (σ.tr i).2.2 j) then 1 else 0) x = (if (∀ j, j < k + 1 → (tirS σ.h σ.m.sd c p (σ.m.st p) (j + 1) : Int) = (σ.tr i).2.2 j) then 1 else 0) := by
                rw [hx]
                by_cases q1 : ∀ j, j < k → (tirS σ.h σ.m.sd c p (σ.m.st p) (j + 1) : Int) = (σ.tr i).2.2 j
                · by_cases q2 : (tirS σ.h σ.m.sd c p (σ.m.st p) (k + 1) : Int) = (σ.tr i).2.2 k
                  · rw [if_pos q1, if_pos q2, if_pos (fun j hj => by
                      by_cases e : j = k
                      · rw [e]; exact q2
                      · exact q1 j (by omega))]
                    decide +kernel
                  · rw [if_pos q1, if_neg q2, if_neg (fun h => q2 (h k (by omega)))]
                    decide +kernel
                · rw [if_neg q1, if_neg (show ¬ ∀ j, j < k + 1 → (tirS σ.h σ.m.sd c p (σ.m.st p) (j + 1) : Int) = (σ.tr i).2.2 j from fun h => q1 (fun j hj => h j (by omega)))]
                  split <;> decide +kernel
              refine AW.run ck_Md_coldsOf [24] 10 91 ?_
              simp only [wR, wB, wE0, wE1, wE2, wE3, g0, gS, s10, s11, s1S, s20, s21, s2S, kl0, kl1, kl2, kl3, sp0, sp1, sp2, sp3, cn1, cn2, cn3, cn4, cn5, cn6, jJa, lk0, lk1, jmS, jmN, s4_0, s4_1, s4_2, s4_3, s4_4, sw0, sw1, cKs, cKn, true_and, and_true, List.map_cons, List.map_nil, Nat.reduceAdd, Nat.zero_add, Int.reduceAdd, Nat.reduceEqDiff, reduceIte, Classical.not_not, b_Md_coldsOf, eand, ce]
              (repeat' (first | omega | exact ⟨by omega, by omega⟩ | (with_reducible exact Or.inr trivial) | (with_reducible exact Or.inl trivial) | (with_reducible assumption) | (with_reducible exact Same.refl) | (with_reducible rfl) | (with_reducible refine And.intro ?_ ?_) | (with_reducible intro _)))
            by_cases q2 : (tirS σ.h σ.m.sd c p (σ.m.st p) (k + 1) : Int) = (σ.tr i).2.2 k
            · have := a91 1 (by rw [if_pos q2])
              (repeat' (first | omega | exact ⟨by omega, by omega⟩ | (with_reducible exact Or.inr trivial) | (with_reducible exact Or.inl trivial) | (with_reducible assumption) | (with_reducible exact Same.refl) | (with_reducible rfl) | (with_reducible refine And.intro ?_ ?_) | (with_reducible intro _)))
            · have := a91 0 (by rw [if_neg q2])
              (repeat' (first | omega | exact ⟨by omega, by omega⟩ | (with_reducible exact Or.inr trivial) | (with_reducible exact Or.inl trivial) | (with_reducible assumption) | (with_reducible exact Same.refl) | (with_reducible rfl) | (with_reducible refine And.intro ?_ ?_) | (with_reducible intro _)))
          refine AW.run ck_Md_coldsOf [54, 100] 10 24 ?_
          simp only [wR, wB, wE0, wE1, wE2, wE3, g0, gS, s10, s11, s1S, s20, s21, s2S, kl0, kl1, kl2, kl3, sp0, sp1, sp2, sp3, cn1, cn2, cn3, cn4, cn5, cn6, jJa, lk0, lk1, jmS, jmN, s4_0, s4_1, s4_2, s4_3, s4_4, sw0, sw1, cKs, cKn, true_and, and_true, List.map_cons, List.map_nil, Nat.reduceAdd, Nat.zero_add, Int.reduceAdd, Nat.reduceEqDiff, reduceIte, Classical.not_not, b_Md_coldsOf, shMd, hK.at 136 _ (by (first | decide | (simp only [List.mem_cons, List.not_mem_nil, or_false, not_or, not_false_eq_true, and_true]; omega) | (simp [List.mem_cons]; done))), t1]
          (repeat' (first | omega | exact ⟨by omega, by omega⟩ | (with_reducible exact Or.inr trivial) | (with_reducible exact Or.inl trivial) | (with_reducible assumption) | (with_reducible exact Same.refl) | (with_reducible rfl) | (with_reducible refine And.intro ?_ ?_) | (with_reducible intro _)))
          refine MS.to (c_Md_strengthIn (d := d - 1) (by omega) (by omega)) fun _ => ?_
          simp only [wR, wB, wE0, wE1, wE2, wE3, g0, gS, s10, s11, s1S, s20, s21, s2S, kl0, kl1, kl2, kl3, sp0, sp1, sp2, sp3, cn1, cn2, cn3, cn4, cn5, cn6, jJa, lk0, lk1, jmS, jmN, s4_0, s4_1, s4_2, s4_3, s4_4, sw0, sw1, cKs, cKn, true_and, and_true, List.map_cons, List.map_nil, Nat.reduceAdd, Nat.zero_add, Int.reduceAdd, Nat.reduceEqDiff, reduceIte, Classical.not_not, b_Md_coldsOf, e2p]
          (repeat' (first | omega | exact ⟨by omega, by omega⟩ | (with_reducible exact Or.inr trivial) | (with_reducible exact Or.inl trivial) | (with_reducible assumption) | (with_reducible exact Same.refl) | (with_reducible rfl) | (with_reducible refine And.intro ?_ ?_) | (with_reducible intro _)))
          · have := a54 0 (by rw [if_neg (by omega)])
            exact this
          · exact a54 (2 ^ p) (by rw [if_pos (by omega)])
      have := inner (σ.tr i).2.1 0 N (by omega) hN
      rw [if_pos (fun j hj => absurd hj (by omega))] at this
      exact this
  refine AW.run ck_Md_coldsOf [5] 10 0 ?_
  simp only [wR, wB, wE0, wE1, wE2, wE3, g0, gS, s10, s11, s1S, s20, s21, s2S, kl0, kl1, kl2, kl3, sp0, sp1, sp2, sp3, cn1, cn2, cn3, cn4, cn5, cn6, jJa, lk0, lk1, jmS, jmN, s4_0, s4_1, s4_2, s4_3, s4_4, sw0, sw1, cKs, cKn, true_and, and_true, List.map_cons, List.map_nil, Nat.reduceAdd, Nat.zero_add, Int.reduceAdd, Nat.reduceEqDiff, reduceIte, Classical.not_not, b_Md_coldsOf]
  exact loop 10 0 M _ _ _ (by omega) Same.refl
theorem c_Md_colds {t p : Int} {B : Nat} {σ : Sg} (hd : 20 ≤ d) (ok : SgOK B σ) (hR : MR M σ) : MS G d mi_Md_colds [vr 117, vi t, vi p] M (fun r M' => r = some (vi (aColds σ t p)) ∧ MR M' σ ∧ Lo M M') := by
  have hR' := hR.thr
  refine MS.run ck_Md_colds [some (vr 117), some (vi t), some (vi p), none] [] 10 fun _ _ => ?_
  simp only [wR, wB, wE0, wE1, wE2, wE3, g0, gS, s10, s11, s1S, s20, s21, s2S, kl0, kl1, kl2, kl3, sp0, sp1, sp2, sp3, cn1, cn2, cn3, cn4, cn5, cn6, jJa, lk0, lk1, jmS, jmN, s4_0, s4_1, s4_2, s4_3, s4_4, sw0, sw1, cKs, cKn, true_and, and_true, List.map_cons, List.map_nil, Nat.reduceAdd, Nat.zero_add, Int.reduceAdd, Nat.reduceEqDiff, reduceIte, Classical.not_not, b_Md_colds, shMd]
  have hlo : Lo M (up M 117 0 0) := thr_lo
  generalize up M 117 0 0 = N at hR' hlo ⊢
  refine ⟨by omega, MS.to (c_Md_noTired (d := d - 1) (by omega) ok hR') fun _ => ?_⟩
  unfold aColds
  by_cases q : aRT σ t p = 0
  · rw [if_pos q]
    have q' := q
    unfold aRT at q
    by_cases hpp : 0 ≤ p ∧ p < (σ.h.P : Int)
    · rw [if_pos hpp] at q
      obtain ⟨i, rfl, hi, hne, -⟩ := aRN_0 q
      obtain ⟨n, rfl⟩ := Int.eq_ofNat_of_zero_le hpp.1
      simp only [wR, wB, wE0, wE1, wE2, wE3, g0, gS, s10, s11, s1S, s20, s21, s2S, kl0, kl1, kl2, kl3, sp0, sp1, sp2, sp3, cn1, cn2, cn3, cn4, cn5, cn6, jJa, lk0, lk1, jmS, jmN, s4_0, s4_1, s4_2, s4_3, s4_4, sw0, sw1, cKs, cKn, true_and, and_true, List.map_cons, List.map_nil, Nat.reduceAdd, Nat.zero_add, Int.reduceAdd, Nat.reduceEqDiff, reduceIte, Classical.not_not, b_Md_colds, shMd, q', up_rd, Int.reduceEq, and_false, false_and, and_self, reduceIte, not_true_eq_false, not_false_eq_true, false_imp_iff, true_imp_iff, true_or, or_true]
      refine ⟨by omega, (c_Md_coldsOf (d := d - 1) (by omega) ok hR' hi hne (by omega)).mono ?_⟩
      rintro r M1 okM1 ⟨rfl, u1⟩
      simp only [wR, wB, wE0, wE1, wE2, wE3, g0, gS, s10, s11, s1S, s20, s21, s2S, kl0, kl1, kl2, kl3, sp0, sp1, sp2, sp3, cn1, cn2, cn3, cn4, cn5, cn6, jJa, lk0, lk1, jmS, jmN, s4_0, s4_1, s4_2, s4_3, s4_4, sw0, sw1, cKs, cKn, true_and, and_true, List.map_cons, List.map_nil, Nat.reduceAdd, Nat.zero_add, Int.reduceAdd, Nat.reduceEqDiff, reduceIte, Classical.not_not, b_Md_colds, Int.toNat_natCast]
      exact ⟨hR'.ww u1, hlo.trans (ww_lo u1)⟩
    · rw [if_neg hpp] at q; omega
  · rw [if_neg q]
    simp only [wR, wB, wE0, wE1, wE2, wE3, g0, gS, s10, s11, s1S, s20, s21, s2S, kl0, kl1, kl2, kl3, sp0, sp1, sp2, sp3, cn1, cn2, cn3, cn4, cn5, cn6, jJa, lk0, lk1, jmS, jmN, s4_0, s4_1, s4_2, s4_3, s4_4, sw0, sw1, cKs, cKn, true_and, and_true, List.map_cons, List.map_nil, Nat.reduceAdd, Nat.zero_add, Int.reduceAdd, Nat.reduceEqDiff, reduceIte, Classical.not_not, b_Md_colds, shMd]
    (repeat' (first | omega | exact ⟨by omega, by omega⟩ | (with_reducible exact Or.inr trivial) | (with_reducible exact Or.inl trivial) | (with_reducible assumption) | (with_reducible exact Same.refl) | (with_reducible rfl) | (with_reducible refine And.intro ?_ ?_) | (with_reducible intro _)))
end MM
