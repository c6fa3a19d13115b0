theorem cndF_hands {h : Hl} {sd : Nat → Nat} {cold k : Nat} {told : Nat → Nat} (hP : h.P ≤ 5) (ht : ∀ i, told i < 32) : ∀ i s, cndF h sd cold (sideS sd h.P k) h.must told i s = decide (h.must ≤ hands h sd cold s (tset h.P told i s) k) := by
  intro i s
  unfold cndF
  have hts : tset h.P told i s < 32 := Nat.lt_of_le_of_lt Nat.and_le_left (ht i)
  rw [← pop_hands hP hts, Nat.and_assoc, Nat.and_assoc, Nat.and_comm (sideS sd h.P k)]
theorem cndF_0 {h : Hl} {sd : Nat → Nat} {cold : Nat} {told : Nat → Nat} : ∀ i s, cndF h sd cold 0 0 told i s = true := by
  intro i s
  unfold cndF
  rw [decide_eq_true_eq]
  exact Nat.zero_le _
theorem Ex_congr {P n : Nat} {c c' : Nat → Nat → Bool} {t t' : Nat → Nat → Nat} {g0 : Nat → Nat} (h : ∀ i s, i < n → c i s = c' i s) (h2 : ∀ i s, i < n → t i s = t' i s) : ∀ r i s, i + r ≤ n → Ex P c t g0 r i s = Ex P c' t' g0 r i s
  | 0, _, _, _ => rfl
  | r + 1, i, s, hr => by
    show fst' P c t i (Ex P c t g0 r (i + 1)) s = fst' P c' t' i (Ex P c' t' g0 r (i + 1)) s
    have e : Ex P c t g0 r (i + 1) = Ex P c' t' g0 r (i + 1) := funext (fun x => Ex_congr h h2 r (i + 1) x (by omega))
    unfold fst'
    rw [h i s (by omega), h2 i s (by omega), e]
theorem sum_P {s P : Nat} (hP : P ≤ 5) (hs : s < 5 ^ P) : sumN (dig s) P = sumS s := by
  have e := sumN_split (dig s) P (5 - P)
  rw [show P + (5 - P) = 5 by omega] at e
  unfold sumS
  rw [e, sumN_0 (5 - P) (fun p _ => by exact dig_0 hs (by omega)), Nat.add_zero]
theorem MR.ly {M N : AM} {σ : Sg} (h : MR M σ) (hs : Same [122, 123, 131, 132] M N) : MR N σ ∧ Lo M N := ⟨h.eq (hs.at 117 _ (by (first | decide | (simp only [List.mem_cons, List.not_mem_nil, or_false, not_or, not_false_eq_true, and_true]; omega) | (simp [List.mem_cons]; done)))) (hs.at 117 _ (by (first | decide | (simp only [List.mem_cons, List.not_mem_nil, or_false, not_or, not_false_eq_true, and_true]; omega) | (simp [List.mem_cons]; done)))) (hs.at 117 _ (by (first | decide | (simp only [List.mem_cons, List.not_mem_nil, or_false, not_or, not_false_eq_true, and_true]; omega) | (simp [List.mem_cons]; done)))) (fun x hx => hs x (by (first | decide | (simp only [List.mem_cons, List.not_mem_nil, or_false, not_or, not_false_eq_true, and_true]; omega) | (simp [List.mem_cons]; done)))), hs.lo (by intro x hx; simp only [List.mem_cons, List.not_mem_nil, or_false] at hx; omega)⟩
section MCH
variable {G : AG} {d : Nat} {M : AM}
theorem c_Md_noChance {t : Int} {isN B : Nat} {σ : Sg} (hd : 8 ≤ d) (ok : SgOK B σ) (hR : MR M σ) (hi2 : isN ≤ 1) : MS G d mi_Md_noChance [vr 117, vi t, vi isN] M (fun r M' => r = some (vi (if isN = 1 then aRC σ t else -2)) ∧ M' = M) := by
  have hP := ok.2.2.1.1
  have h2p : 0 < 2 ^ σ.h.P := Nat.pow_pos (by omega)
  refine MS.by ck_Md_noChance [some (vr 117), some (vi t), some (vi isN), none, none] fun _ _ => ?_
  generalize hQ : (fun (r : Option AV) (M' : AM) => r = some (vi (if isN = 1 then aRC σ t else -2)) ∧ M' = M) = Q
  have a16 : (if isN = 1 then aRC σ t else -2) = -2 → AW G d mi_Md_noChance Q 16 [some (vr 117), some (vi t), some (vi isN), none, none] [] M := by
    intro e
    refine AW.run ck_Md_noChance [] 10 16 ?_
    simp only [wR, wB, wE0, wE1, wE2, wE3, g0, gS, s10, s11, s1S, s20, s21, s2S, kl0, kl1, kl2, kl3, sp0, sp1, sp2, sp3, cn1, cn2, cn3, cn4, cn5, cn6, jJa, lk0, lk1, jmS, jmN, s4_0, s4_1, s4_2, s4_3, s4_4, sw0, sw1, cKs, cKn, true_and, and_true, List.map_cons, List.map_nil, Nat.reduceAdd, Nat.zero_add, Int.reduceAdd, Nat.reduceEqDiff, reduceIte, Classical.not_not, b_Md_noChance]
    rw [e] at hQ
    subst hQ
    exact ⟨rfl, rfl⟩
  refine AW.run ck_Md_noChance [16, 19] 10 0 ?_
  simp only [wR, wB, wE0, wE1, wE2, wE3, g0, gS, s10, s11, s1S, s20, s21, s2S, kl0, kl1, kl2, kl3, sp0, sp1, sp2, sp3, cn1, cn2, cn3, cn4, cn5, cn6, jJa, lk0, lk1, jmS, jmN, s4_0, s4_1, s4_2, s4_3, s4_4, sw0, sw1, cKs, cKn, true_and, and_true, List.map_cons, List.map_nil, Nat.reduceAdd, Nat.zero_add, Int.reduceAdd, Nat.reduceEqDiff, reduceIte, Classical.not_not, b_Md_noChance, shMd]
  refine ⟨by omega, MS.to c_Md_within fun _ => ?_⟩
  by_cases qt : 0 ≤ t ∧ t ≤ 3
  · rw [if_pos qt]
    simp only [wR, wB, wE0, wE1, wE2, wE3, g0, gS, s10, s11, s1S, s20, s21, s2S, kl0, kl1, kl2, kl3, sp0, sp1, sp2, sp3, cn1, cn2, cn3, cn4, cn5, cn6, jJa, lk0, lk1, jmS, jmN, s4_0, s4_1, s4_2, s4_3, s4_4, sw0, sw1, cKs, cKn, true_and, and_true, List.map_cons, List.map_nil, Nat.reduceAdd, Nat.zero_add, Int.reduceAdd, Nat.reduceEqDiff, reduceIte, Classical.not_not, b_Md_noChance, shMd, up_rd, Int.reduceEq, and_false, false_and, and_self, reduceIte, not_true_eq_false, not_false_eq_true, false_imp_iff, true_imp_iff, true_or, or_true]
    by_cases qi : isN = 1
    · subst qi
      rw [if_pos rfl] at hQ
      simp only [wR, wB, wE0, wE1, wE2, wE3, g0, gS, s10, s11, s1S, s20, s21, s2S, kl0, kl1, kl2, kl3, sp0, sp1, sp2, sp3, cn1, cn2, cn3, cn4, cn5, cn6, jJa, lk0, lk1, jmS, jmN, s4_0, s4_1, s4_2, s4_3, s4_4, sw0, sw1, cKs, cKn, true_and, and_true, List.map_cons, List.map_nil, Nat.reduceAdd, Nat.zero_add, Int.reduceAdd, Nat.reduceEqDiff, reduceIte, Classical.not_not, nc1, Int.reduceEq, not_true_eq_false, not_false_eq_true, false_imp_iff, true_imp_iff, and_self]
      refine AW.run ck_Md_noChance [31] 10 19 ?_
      simp only [wR, wB, wE0, wE1, wE2, wE3, g0, gS, s10, s11, s1S, s20, s21, s2S, kl0, kl1, kl2, kl3, sp0, sp1, sp2, sp3, cn1, cn2, cn3, cn4, cn5, cn6, jJa, lk0, lk1, jmS, jmN, s4_0, s4_1, s4_2, s4_3, s4_4, sw0, sw1, cKs, cKn, true_and, and_true, List.map_cons, List.map_nil, Nat.reduceAdd, Nat.zero_add, Int.reduceAdd, Nat.reduceEqDiff, reduceIte, Classical.not_not, b_Md_noChance, shMd]
      refine ⟨by omega, MS.to (c_Md_noTray (d := d - 1) (by omega) hR) fun _ => ?_⟩
      simp only [wR, wB, wE0, wE1, wE2, wE3, g0, gS, s10, s11, s1S, s20, s21, s2S, kl0, kl1, kl2, kl3, sp0, sp1, sp2, sp3, cn1, cn2, cn3, cn4, cn5, cn6, jJa, lk0, lk1, jmS, jmN, s4_0, s4_1, s4_2, s4_3, s4_4, sw0, sw1, cKs, cKn, true_and, and_true, List.map_cons, List.map_nil, Nat.reduceAdd, Nat.zero_add, Int.reduceAdd, Nat.reduceEqDiff, reduceIte, Classical.not_not, b_Md_noChance, shMd]
      unfold aRC aRN at hQ
      by_cases q : aTr σ t = 0
      · obtain ⟨i, rfl, hi, hne⟩ := aTr_0 q
        obtain ⟨t1, t2⟩ := (hR.2.2.2.2.2.1 i hi).2 hne
        have ht40 := (ok.2.2.2.2.2.2.1 i hi).2.2
        obtain ⟨hH, hm, -⟩ := hR.past
        rw [if_pos q, Int.toNat_natCast] at hQ
        (repeat' (first | omega | exact ⟨by omega, by omega⟩ | (with_reducible exact Or.inr trivial) | (with_reducible exact Or.inl trivial) | (with_reducible assumption) | (with_reducible exact Same.refl) | (with_reducible rfl) | (with_reducible refine And.intro ?_ ?_) | (with_reducible intro _)))
        refine AW.run ck_Md_noChance [51] 10 31 ?_
        simp only [wR, wB, wE0, wE1, wE2, wE3, g0, gS, s10, s11, s1S, s20, s21, s2S, kl0, kl1, kl2, kl3, sp0, sp1, sp2, sp3, cn1, cn2, cn3, cn4, cn5, cn6, jJa, lk0, lk1, jmS, jmN, s4_0, s4_1, s4_2, s4_3, s4_4, sw0, sw1, cKs, cKn, true_and, and_true, List.map_cons, List.map_nil, Nat.reduceAdd, Nat.zero_add, Int.reduceAdd, Nat.reduceEqDiff, reduceIte, Classical.not_not, b_Md_noChance, shMd, t1]
        (repeat' (first | omega | exact ⟨by omega, by omega⟩ | (with_reducible exact Or.inr trivial) | (with_reducible exact Or.inl trivial) | (with_reducible assumption) | (with_reducible exact Same.refl) | (with_reducible rfl) | (with_reducible refine And.intro ?_ ?_) | (with_reducible intro _)))
        refine MS.to c_Md_within fun _ => ?_
        by_cases qn : ((σ.tr i).2.1 : Int) < 1 ∨ 6 < ((σ.tr i).2.1 : Int)
        · rw [if_neg (by omega)]
          rw [if_pos qn] at hQ
          simp only [wR, wB, wE0, wE1, wE2, wE3, g0, gS, s10, s11, s1S, s20, s21, s2S, kl0, kl1, kl2, kl3, sp0, sp1, sp2, sp3, cn1, cn2, cn3, cn4, cn5, cn6, jJa, lk0, lk1, jmS, jmN, s4_0, s4_1, s4_2, s4_3, s4_4, sw0, sw1, cKs, cKn, true_and, and_true, List.map_cons, List.map_nil, Nat.reduceAdd, Nat.zero_add, Int.reduceAdd, Nat.reduceEqDiff, reduceIte, Classical.not_not, b_Md_noChance, shMd, up_rd, Int.reduceEq, and_false, false_and, and_self, reduceIte, not_true_eq_false, not_false_eq_true, false_imp_iff, true_imp_iff, true_or, or_true]
          subst hQ
          exact ⟨rfl, rfl⟩
        · rw [if_pos (by omega)]
          rw [if_neg qn] at hQ
          simp only [wR, wB, wE0, wE1, wE2, wE3, g0, gS, s10, s11, s1S, s20, s21, s2S, kl0, kl1, kl2, kl3, sp0, sp1, sp2, sp3, cn1, cn2, cn3, cn4, cn5, cn6, jJa, lk0, lk1, jmS, jmN, s4_0, s4_1, s4_2, s4_3, s4_4, sw0, sw1, cKs, cKn, true_and, and_true, List.map_cons, List.map_nil, Nat.reduceAdd, Nat.zero_add, Int.reduceAdd, Nat.reduceEqDiff, reduceIte, Classical.not_not, b_Md_noChance, shMd, up_rd, Int.reduceEq, and_false, false_and, and_self, reduceIte, not_true_eq_false, not_false_eq_true, false_imp_iff, true_imp_iff, true_or, or_true]
          have loop : ∀ (r k : Nat), k + r = (σ.tr i).2.1 → (∀ j, j < k → 0 ≤ (σ.tr i).2.2 j ∧ (σ.tr i).2.2 j ≤ ((2 ^ σ.h.P - 1 : Nat) : Int)) → AW G d mi_Md_noChance Q 54 [some (vr 117), some (vi i), some (vi ((1 : Nat) : Int)), some (vi (aTr σ i)), some (vi k)] [] M := by
            intro r
            induction r with
            | zero =>
              intro k hk hall
              refine AW.run ck_Md_noChance [87] 10 54 ?_
              simp only [wR, wB, wE0, wE1, wE2, wE3, g0, gS, s10, s11, s1S, s20, s21, s2S, kl0, kl1, kl2, kl3, sp0, sp1, sp2, sp3, cn1, cn2, cn3, cn4, cn5, cn6, jJa, lk0, lk1, jmS, jmN, s4_0, s4_1, s4_2, s4_3, s4_4, sw0, sw1, cKs, cKn, true_and, and_true, List.map_cons, List.map_nil, Nat.reduceAdd, Nat.zero_add, Int.reduceAdd, Nat.reduceEqDiff, reduceIte, Classical.not_not, b_Md_noChance, shMd, t1]
              rw [if_pos (fun j hj => hall j (by omega))] at hQ
              subst hQ
              (repeat' (first | omega | exact ⟨by omega, by omega⟩ | (with_reducible exact Or.inr trivial) | (with_reducible exact Or.inl trivial) | (with_reducible assumption) | (with_reducible exact Same.refl) | (with_reducible rfl) | (with_reducible refine And.intro ?_ ?_) | (with_reducible intro _)))
            | succ r ih =>
              intro k hk hall
              refine AW.run ck_Md_noChance [87] 10 54 ?_
              simp only [wR, wB, wE0, wE1, wE2, wE3, g0, gS, s10, s11, s1S, s20, s21, s2S, kl0, kl1, kl2, kl3, sp0, sp1, sp2, sp3, cn1, cn2, cn3, cn4, cn5, cn6, jJa, lk0, lk1, jmS, jmN, s4_0, s4_1, s4_2, s4_3, s4_4, sw0, sw1, cKs, cKn, true_and, and_true, List.map_cons, List.map_nil, Nat.reduceAdd, Nat.zero_add, Int.reduceAdd, Nat.reduceEqDiff, reduceIte, Classical.not_not, b_Md_noChance, shMd, t1, t2 k (by omega)]
              (repeat' (first | omega | exact ⟨by omega, by omega⟩ | (with_reducible exact Or.inr trivial) | (with_reducible exact Or.inl trivial) | (with_reducible assumption) | (with_reducible exact Same.refl) | (with_reducible rfl) | (with_reducible refine And.intro ?_ ?_) | (with_reducible intro _)))
              refine MS.to (c_Md_isSet (d := d - 1) (by omega) hH.2.1 hP) fun _ => ?_
              by_cases qk : 0 ≤ (σ.tr i).2.2 k ∧ (σ.tr i).2.2 k ≤ ((2 ^ σ.h.P - 1 : Nat) : Int)
              · rw [if_pos (by omega)]
                simp only [wR, wB, wE0, wE1, wE2, wE3, g0, gS, s10, s11, s1S, s20, s21, s2S, kl0, kl1, kl2, kl3, sp0, sp1, sp2, sp3, cn1, cn2, cn3, cn4, cn5, cn6, jJa, lk0, lk1, jmS, jmN, s4_0, s4_1, s4_2, s4_3, s4_4, sw0, sw1, cKs, cKn, true_and, and_true, List.map_cons, List.map_nil, Nat.reduceAdd, Nat.zero_add, Int.reduceAdd, Nat.reduceEqDiff, reduceIte, Classical.not_not, b_Md_noChance, shMd, up_rd, Int.reduceEq, and_false, false_and, and_self, reduceIte, not_true_eq_false, not_false_eq_true, false_imp_iff, true_imp_iff, true_or, or_true]
                refine AW.run ck_Md_noChance [54] 10 87 ?_
                simp only [wR, wB, wE0, wE1, wE2, wE3, g0, gS, s10, s11, s1S, s20, s21, s2S, kl0, kl1, kl2, kl3, sp0, sp1, sp2, sp3, cn1, cn2, cn3, cn4, cn5, cn6, jJa, lk0, lk1, jmS, jmN, s4_0, s4_1, s4_2, s4_3, s4_4, sw0, sw1, cKs, cKn, true_and, and_true, List.map_cons, List.map_nil, Nat.reduceAdd, Nat.zero_add, Int.reduceAdd, Nat.reduceEqDiff, reduceIte, Classical.not_not, b_Md_noChance, ce]
                (repeat' (first | omega | exact ⟨by omega, by omega⟩ | (with_reducible exact Or.inr trivial) | (with_reducible exact Or.inl trivial) | (with_reducible assumption) | (with_reducible exact Same.refl) | (with_reducible rfl) | (with_reducible refine And.intro ?_ ?_) | (with_reducible intro _)))
                exact ih (k + 1) (by omega) (fun j hj => by
                  by_cases e : j = k
                  · rw [e]; exact qk
                  · exact hall j (by omega))
              · rw [if_neg (by omega)]
                simp only [wR, wB, wE0, wE1, wE2, wE3, g0, gS, s10, s11, s1S, s20, s21, s2S, kl0, kl1, kl2, kl3, sp0, sp1, sp2, sp3, cn1, cn2, cn3, cn4, cn5, cn6, jJa, lk0, lk1, jmS, jmN, s4_0, s4_1, s4_2, s4_3, s4_4, sw0, sw1, cKs, cKn, true_and, and_true, List.map_cons, List.map_nil, Nat.reduceAdd, Nat.zero_add, Int.reduceAdd, Nat.reduceEqDiff, reduceIte, Classical.not_not, b_Md_noChance, shMd, up_rd, Int.reduceEq, and_false, false_and, and_self, reduceIte, not_true_eq_false, not_false_eq_true, false_imp_iff, true_imp_iff, true_or, or_true]
                rw [if_neg (fun h => qk (h k (by omega)))] at hQ
                subst hQ
                exact ⟨rfl, rfl⟩
          refine AW.run ck_Md_noChance [54] 10 51 ?_
          simp only [wR, wB, wE0, wE1, wE2, wE3, g0, gS, s10, s11, s1S, s20, s21, s2S, kl0, kl1, kl2, kl3, sp0, sp1, sp2, sp3, cn1, cn2, cn3, cn4, cn5, cn6, jJa, lk0, lk1, jmS, jmN, s4_0, s4_1, s4_2, s4_3, s4_4, sw0, sw1, cKs, cKn, true_and, and_true, List.map_cons, List.map_nil, Nat.reduceAdd, Nat.zero_add, Int.reduceAdd, Nat.reduceEqDiff, reduceIte, Classical.not_not, b_Md_noChance]
          exact loop (σ.tr i).2.1 0 (by omega) (fun j hj => absurd hj (by omega))
      · rw [if_neg q] at hQ
        (repeat' (first | omega | exact ⟨by omega, by omega⟩ | (with_reducible exact Or.inr trivial) | (with_reducible exact Or.inl trivial) | (with_reducible assumption) | (with_reducible exact Same.refl) | (with_reducible rfl) | (with_reducible refine And.intro ?_ ?_) | (with_reducible intro _)))
        subst hQ
        exact ⟨rfl, rfl⟩
    · obtain rfl : isN = 0 := by omega
      have := a16 (by rw [if_neg (by omega)])
      simp only [wR, wB, wE0, wE1, wE2, wE3, g0, gS, s10, s11, s1S, s20, s21, s2S, kl0, kl1, kl2, kl3, sp0, sp1, sp2, sp3, cn1, cn2, cn3, cn4, cn5, cn6, jJa, lk0, lk1, jmS, jmN, s4_0, s4_1, s4_2, s4_3, s4_4, sw0, sw1, cKs, cKn, true_and, and_true, List.map_cons, List.map_nil, Nat.reduceAdd, Nat.zero_add, Int.reduceAdd, Nat.reduceEqDiff, reduceIte, Classical.not_not, nc0, Int.reduceEq, not_true_eq_false, not_false_eq_true, false_imp_iff, true_imp_iff, and_self]
      exact this
  · rw [if_neg qt]
    simp only [wR, wB, wE0, wE1, wE2, wE3, g0, gS, s10, s11, s1S, s20, s21, s2S, kl0, kl1, kl2, kl3, sp0, sp1, sp2, sp3, cn1, cn2, cn3, cn4, cn5, cn6, jJa, lk0, lk1, jmS, jmN, s4_0, s4_1, s4_2, s4_3, s4_4, sw0, sw1, cKs, cKn, true_and, and_true, List.map_cons, List.map_nil, Nat.reduceAdd, Nat.zero_add, Int.reduceAdd, Nat.reduceEqDiff, reduceIte, Classical.not_not, b_Md_noChance, shMd, up_rd, Int.reduceEq, and_false, false_and, and_self, reduceIte, not_true_eq_false, not_false_eq_true, false_imp_iff, true_imp_iff, true_or, or_true]
    refine a16 ?_
    have e : aTr σ t = -2 := by unfold aTr; rw [if_neg (by omega)]
    unfold aRC aRN
    rw [e]
    by_cases qi : isN = 1
    · rw [if_pos qi]; rfl
    · rw [if_neg qi]
theorem c_Md_chance {t side what : Int} {B : Nat} {σ : Sg} (hd : 80 ≤ d) (ok : SgOK B σ) (hR : MR M σ) : MS G d mi_Md_chance [vr 117, vi t, vi side, vi what] M (fun r M' => r = some (vi (aChance σ t side what)) ∧ MR M' σ ∧ Lo M M') := by
  have hR' := hR.thr
  have hok := ok.2.2.1
  have hP := hok.1
  have h32 := p2_32 hP
  have mok := ok.2.2.2.1.1
  refine MS.by ck_Md_chance [some (vr 117), some (vi t), some (vi side), some (vi what), none, none] fun _ _ => ?_
  generalize hQ : (fun (r : Option AV) (M' : AM) => r = some (vi (aChance σ t side what)) ∧ MR M' σ ∧ Lo M M') = Q
  unfold aChance at hQ
  refine AW.run ck_Md_chance [28, 29] 10 0 ?_
  simp only [wR, wB, wE0, wE1, wE2, wE3, g0, gS, s10, s11, s1S, s20, s21, s2S, kl0, kl1, kl2, kl3, sp0, sp1, sp2, sp3, cn1, cn2, cn3, cn4, cn5, cn6, jJa, lk0, lk1, jmS, jmN, s4_0, s4_1, s4_2, s4_3, s4_4, sw0, sw1, cKs, cKn, true_and, and_true, List.map_cons, List.map_nil, Nat.reduceAdd, Nat.zero_add, Int.reduceAdd, Nat.reduceEqDiff, reduceIte, Classical.not_not, b_Md_chance, shMd]
  have hlo : Lo M (up M 117 0 0) := thr_lo
  generalize up M 117 0 0 = N at hR' hlo ⊢
  obtain ⟨hH, hm, -⟩ := hR'.past
  have a29 : ∀ isN : Nat, isN = (if (side = 0 ∨ side = 1) ∧ 0 ≤ what ∧ what ≤ 1 then 1 else 0) → AW G d mi_Md_chance Q 29 [some (vr 117), some (vi t), some (vi side), some (vi what), none, none] [vi isN, vi t, vr 117] N := by
    intro isN hi
    have hi2 : isN ≤ 1 := by rw [hi]; split <;> omega
    refine AW.run ck_Md_chance [42] 10 29 ?_
    simp only [wR, wB, wE0, wE1, wE2, wE3, g0, gS, s10, s11, s1S, s20, s21, s2S, kl0, kl1, kl2, kl3, sp0, sp1, sp2, sp3, cn1, cn2, cn3, cn4, cn5, cn6, jJa, lk0, lk1, jmS, jmN, s4_0, s4_1, s4_2, s4_3, s4_4, sw0, sw1, cKs, cKn, true_and, and_true, List.map_cons, List.map_nil, Nat.reduceAdd, Nat.zero_add, Int.reduceAdd, Nat.reduceEqDiff, reduceIte, Classical.not_not, b_Md_chance, shMd]
    refine ⟨by omega, MS.to (c_Md_noChance (d := d - 1) (by omega) ok hR' hi2) fun _ => ?_⟩
    simp only [wR, wB, wE0, wE1, wE2, wE3, g0, gS, s10, s11, s1S, s20, s21, s2S, kl0, kl1, kl2, kl3, sp0, sp1, sp2, sp3, cn1, cn2, cn3, cn4, cn5, cn6, jJa, lk0, lk1, jmS, jmN, s4_0, s4_1, s4_2, s4_3, s4_4, sw0, sw1, cKs, cKn, true_and, and_true, List.map_cons, List.map_nil, Nat.reduceAdd, Nat.zero_add, Int.reduceAdd, Nat.reduceEqDiff, reduceIte, Classical.not_not, b_Md_chance, shMd]
    by_cases q : (side = 0 ∨ side = 1) ∧ 0 ≤ what ∧ what ≤ 1
    · rw [if_pos q] at hQ hi
      rw [if_pos hi]
      obtain ⟨k, rfl, hk⟩ := side_n q.1
      rw [Int.toNat_natCast] at hQ
      by_cases q3 : aRC σ t = 0
      · rw [if_pos q3] at hQ
        obtain ⟨j, rfl, hj, hne, h1, h6, htl⟩ := aRC_0 hP q3
        rw [Int.toNat_natCast] at hQ
        obtain ⟨t1, t2⟩ := (hR'.2.2.2.2.2.1 j hj).2 hne
        have h10 := p10 h6
        generalize htd : (fun i => if i < (σ.tr j).2.1 then toN σ j i else 0) = told
        have htd' : ∀ i, i < (σ.tr j).2.1 → told i = toN σ j i := fun i hi => by rw [← htd]; exact if_pos hi
        have ht32 : ∀ i, told i < 32 := fun i => by
          rw [← htd]
          show (if i < (σ.tr j).2.1 then toN σ j i else 0) < 32
          by_cases e : i < (σ.tr j).2.1
          · rw [if_pos e]; have := (htl i e).2; omega
          · rw [if_neg e]; omega
        have hExE : Ex σ.h.P (cndF σ.h σ.m.sd σ.m.cold (sideS σ.m.sd σ.h.P k) σ.h.must told) (toF σ.h σ.m.sd σ.m.cold told) (fun _ => 1) (σ.tr j).2.1 0 (cod σ.m.st σ.h.P) = exC σ j k := by
          unfold exC
          rw [Int.toNat_natCast]
          refine Ex_congr (n := (σ.tr j).2.1) (fun i s hi => ?_) (fun i s hi => ?_) _ _ _ (by omega)
          · unfold cndF tset; rw [htd' i hi]
          · unfold toF tset; rw [htd' i hi]
        (repeat' (first | omega | (with_reducible exact True.intro) | exact ⟨by omega, by omega⟩ | (with_reducible exact Or.inr trivial) | (with_reducible exact Or.inl trivial) | (with_reducible assumption) | (with_reducible exact Same.refl) | (with_reducible rfl) | (with_reducible refine And.intro ?_ ?_) | (with_reducible intro _)))
        refine AW.run ck_Md_chance [] 10 42 ?_
        simp only [wR, wB, wE0, wE1, wE2, wE3, g0, gS, s10, s11, s1S, s20, s21, s2S, kl0, kl1, kl2, kl3, sp0, sp1, sp2, sp3, cn1, cn2, cn3, cn4, cn5, cn6, jJa, lk0, lk1, jmS, jmN, s4_0, s4_1, s4_2, s4_3, s4_4, sw0, sw1, cKs, cKn, true_and, and_true, List.map_cons, List.map_nil, Nat.reduceAdd, Nat.zero_add, Int.reduceAdd, Nat.reduceEqDiff, reduceIte, Classical.not_not, b_Md_chance, shMd]
        refine ⟨by omega, (c_Md_laysLikely (d := d - 1) (told := told) (cf := cndF σ.h σ.m.sd σ.m.cold (sideS σ.m.sd σ.h.P k) σ.h.must told) (by omega) hok mok hH hm hj h6 t1 (fun i hi => ⟨by rw [t2 i hi, htd' i hi]; exact (htl i hi).1, by rw [htd' i hi]; exact (htl i hi).2⟩) (Or.inr ⟨k, hk, rfl, cndF_hands hP ht32⟩)).mono ?_⟩
        rintro r K okK ⟨rfl, ⟨a, v1, v2, v3⟩, v4⟩
        obtain ⟨c1, c2⟩ := hR'.ly v4
        have c3 := hlo.trans c2
        have e1 := v2 (fun _ => 1)
        rw [hExE] at e1
        rw [e1] at v3
        rw [vm_one] at e1
        simp only [wR, wB, wE0, wE1, wE2, wE3, g0, gS, s10, s11, s1S, s20, s21, s2S, kl0, kl1, kl2, kl3, sp0, sp1, sp2, sp3, cn1, cn2, cn3, cn4, cn5, cn6, jJa, lk0, lk1, jmS, jmN, s4_0, s4_1, s4_2, s4_3, s4_4, sw0, sw1, cKs, cKn, true_and, and_true, List.map_cons, List.map_nil, Nat.reduceAdd, Nat.zero_add, Int.reduceAdd, Nat.reduceEqDiff, reduceIte, Classical.not_not, b_Md_chance, shMd]
        refine ⟨by omega, MS.to (c_Md_manySum (fun s hs => (v1 s hs).1) (by omega)) fun _ => ?_⟩
        rw [e1]
        simp only [wR, wB, wE0, wE1, wE2, wE3, g0, gS, s10, s11, s1S, s20, s21, s2S, kl0, kl1, kl2, kl3, sp0, sp1, sp2, sp3, cn1, cn2, cn3, cn4, cn5, cn6, jJa, lk0, lk1, jmS, jmN, s4_0, s4_1, s4_2, s4_3, s4_4, sw0, sw1, cKs, cKn, true_and, and_true, List.map_cons, List.map_nil, Nat.reduceAdd, Nat.zero_add, Int.reduceAdd, Nat.reduceEqDiff, reduceIte, Classical.not_not, b_Md_chance, shMd]
        refine ⟨by omega, MS.to (c_Md_part (d := d - 1) (by omega) (by omega) h10.1 (by omega)) fun _ => ?_⟩
        simp only [wR, wB, wE0, wE1, wE2, wE3, g0, gS, s10, s11, s1S, s20, s21, s2S, kl0, kl1, kl2, kl3, sp0, sp1, sp2, sp3, cn1, cn2, cn3, cn4, cn5, cn6, jJa, lk0, lk1, jmS, jmN, s4_0, s4_1, s4_2, s4_3, s4_4, sw0, sw1, cKs, cKn, true_and, and_true, List.map_cons, List.map_nil, Nat.reduceAdd, Nat.zero_add, Int.reduceAdd, Nat.reduceEqDiff, reduceIte, Classical.not_not, b_Md_chance]
        subst hQ
        exact ⟨rfl, c1, c3⟩
      · rw [if_neg q3] at hQ
        subst hQ
        (repeat' (first | omega | (with_reducible exact True.intro) | exact ⟨by omega, by omega⟩ | (with_reducible exact Or.inr trivial) | (with_reducible exact Or.inl trivial) | (with_reducible assumption) | (with_reducible exact Same.refl) | (with_reducible rfl) | (with_reducible refine And.intro ?_ ?_) | (with_reducible intro _)))
    · rw [if_neg q] at hQ hi
      rw [if_neg (by omega)]
      subst hQ
      (repeat' (first | omega | (with_reducible exact True.intro) | exact ⟨by omega, by omega⟩ | (with_reducible exact Or.inr trivial) | (with_reducible exact Or.inl trivial) | (with_reducible assumption) | (with_reducible exact Same.refl) | (with_reducible rfl) | (with_reducible refine And.intro ?_ ?_) | (with_reducible intro _)))
  have a28 : ¬ ((side = 0 ∨ side = 1) ∧ 0 ≤ what ∧ what ≤ 1) → AW G d mi_Md_chance Q 28 [some (vr 117), some (vi t), some (vi side), some (vi what), none, none] [vi t, vr 117] N := by
    intro q
    have := a29 0 (by rw [if_neg q])
    refine AW.run ck_Md_chance [29] 10 28 ?_
    simp only [wR, wB, wE0, wE1, wE2, wE3, g0, gS, s10, s11, s1S, s20, s21, s2S, kl0, kl1, kl2, kl3, sp0, sp1, sp2, sp3, cn1, cn2, cn3, cn4, cn5, cn6, jJa, lk0, lk1, jmS, jmN, s4_0, s4_1, s4_2, s4_3, s4_4, sw0, sw1, cKs, cKn, true_and, and_true, List.map_cons, List.map_nil, Nat.reduceAdd, Nat.zero_add, Int.reduceAdd, Nat.reduceEqDiff, reduceIte, Classical.not_not, b_Md_chance]
    exact this
  refine ⟨by omega, MS.to (c_Md_isSide (d := d - 1) (by omega)) fun _ => ?_⟩
  by_cases q : side = 0 ∨ side = 1
  · rw [if_pos q]
    simp only [wR, wB, wE0, wE1, wE2, wE3, g0, gS, s10, s11, s1S, s20, s21, s2S, kl0, kl1, kl2, kl3, sp0, sp1, sp2, sp3, cn1, cn2, cn3, cn4, cn5, cn6, jJa, lk0, lk1, jmS, jmN, s4_0, s4_1, s4_2, s4_3, s4_4, sw0, sw1, cKs, cKn, true_and, and_true, List.map_cons, List.map_nil, Nat.reduceAdd, Nat.zero_add, Int.reduceAdd, Nat.reduceEqDiff, reduceIte, Classical.not_not, b_Md_chance, shMd, up_rd, Int.reduceEq, and_false, false_and, and_self, reduceIte, not_true_eq_false, not_false_eq_true, false_imp_iff, true_imp_iff, true_or, or_true]
    refine ⟨by omega, MS.to c_Md_within fun _ => ?_⟩
    by_cases q2 : 0 ≤ what ∧ what ≤ 1
    · rw [if_pos q2]
      have := a29 1 (by rw [if_pos ⟨q, q2⟩])
      simp only [wR, wB, wE0, wE1, wE2, wE3, g0, gS, s10, s11, s1S, s20, s21, s2S, kl0, kl1, kl2, kl3, sp0, sp1, sp2, sp3, cn1, cn2, cn3, cn4, cn5, cn6, jJa, lk0, lk1, jmS, jmN, s4_0, s4_1, s4_2, s4_3, s4_4, sw0, sw1, cKs, cKn, true_and, and_true, List.map_cons, List.map_nil, Nat.reduceAdd, Nat.zero_add, Int.reduceAdd, Nat.reduceEqDiff, reduceIte, Classical.not_not, b_Md_chance, shMd, up_rd, Int.reduceEq, and_false, false_and, and_self, reduceIte, not_true_eq_false, not_false_eq_true, false_imp_iff, true_imp_iff, true_or, or_true]
      exact this
    · rw [if_neg q2]
      simp only [wR, wB, wE0, wE1, wE2, wE3, g0, gS, s10, s11, s1S, s20, s21, s2S, kl0, kl1, kl2, kl3, sp0, sp1, sp2, sp3, cn1, cn2, cn3, cn4, cn5, cn6, jJa, lk0, lk1, jmS, jmN, s4_0, s4_1, s4_2, s4_3, s4_4, sw0, sw1, cKs, cKn, true_and, and_true, List.map_cons, List.map_nil, Nat.reduceAdd, Nat.zero_add, Int.reduceAdd, Nat.reduceEqDiff, reduceIte, Classical.not_not, b_Md_chance, shMd, up_rd, Int.reduceEq, and_false, false_and, and_self, reduceIte, not_true_eq_false, not_false_eq_true, false_imp_iff, true_imp_iff, true_or, or_true]
      exact a28 (fun h => q2 h.2)
  · rw [if_neg q]
    simp only [wR, wB, wE0, wE1, wE2, wE3, g0, gS, s10, s11, s1S, s20, s21, s2S, kl0, kl1, kl2, kl3, sp0, sp1, sp2, sp3, cn1, cn2, cn3, cn4, cn5, cn6, jJa, lk0, lk1, jmS, jmN, s4_0, s4_1, s4_2, s4_3, s4_4, sw0, sw1, cKs, cKn, true_and, and_true, List.map_cons, List.map_nil, Nat.reduceAdd, Nat.zero_add, Int.reduceAdd, Nat.reduceEqDiff, reduceIte, Classical.not_not, b_Md_chance, shMd, up_rd, Int.reduceEq, and_false, false_and, and_self, reduceIte, not_true_eq_false, not_false_eq_true, false_imp_iff, true_imp_iff, true_or, or_true]
    exact a28 (fun h => q h.1)
set_option maxRecDepth 20000 in
theorem c_Md_mean {t what : Int} {B : Nat} {σ : Sg} (hd : 80 ≤ d) (ok : SgOK B σ) (hR : MR M σ) : MS G d mi_Md_mean [vr 117, vi t, vi what] M (fun r M' => r = some (vi (aMean σ t what)) ∧ MR M' σ ∧ Lo M M') := by
  have hR' := hR.thr
  have hok := ok.2.2.1
  have hP := hok.1
  have h32 := p2_32 hP
  have mok := ok.2.2.2.1.1
  refine MS.by ck_Md_mean [some (vr 117), some (vi t), some (vi what), none, none, none, none, none] fun _ _ => ?_
  generalize hQ : (fun (r : Option AV) (M' : AM) => r = some (vi (aMean σ t what)) ∧ MR M' σ ∧ Lo M M') = Q
  unfold aMean at hQ
  refine AW.run ck_Md_mean [24] 10 0 ?_
  simp only [wR, wB, wE0, wE1, wE2, wE3, g0, gS, s10, s11, s1S, s20, s21, s2S, kl0, kl1, kl2, kl3, sp0, sp1, sp2, sp3, cn1, cn2, cn3, cn4, cn5, cn6, jJa, lk0, lk1, jmS, jmN, s4_0, s4_1, s4_2, s4_3, s4_4, sw0, sw1, cKs, cKn, true_and, and_true, List.map_cons, List.map_nil, Nat.reduceAdd, Nat.zero_add, Int.reduceAdd, Nat.reduceEqDiff, reduceIte, Classical.not_not, b_Md_mean, shMd]
  have hlo : Lo M (up M 117 0 0) := thr_lo
  generalize up M 117 0 0 = N at hR' hlo ⊢
  obtain ⟨hH, hm, -⟩ := hR'.past
  refine ⟨by omega, MS.to c_Md_within fun _ => ?_⟩
  have ei : (if 0 ≤ what ∧ what ≤ 1 then (1 : Int) else 0) = (((if 0 ≤ what ∧ what ≤ 1 then 1 else 0) : Nat) : Int) := by split <;> rfl
  rw [ei]
  simp only [wR, wB, wE0, wE1, wE2, wE3, g0, gS, s10, s11, s1S, s20, s21, s2S, kl0, kl1, kl2, kl3, sp0, sp1, sp2, sp3, cn1, cn2, cn3, cn4, cn5, cn6, jJa, lk0, lk1, jmS, jmN, s4_0, s4_1, s4_2, s4_3, s4_4, sw0, sw1, cKs, cKn, true_and, and_true, List.map_cons, List.map_nil, Nat.reduceAdd, Nat.zero_add, Int.reduceAdd, Nat.reduceEqDiff, reduceIte, Classical.not_not, b_Md_mean, shMd]
  refine ⟨by omega, MS.to (c_Md_noChance (d := d - 1) (by omega) ok hR' (by split <;> omega)) fun _ => ?_⟩
  simp only [wR, wB, wE0, wE1, wE2, wE3, g0, gS, s10, s11, s1S, s20, s21, s2S, kl0, kl1, kl2, kl3, sp0, sp1, sp2, sp3, cn1, cn2, cn3, cn4, cn5, cn6, jJa, lk0, lk1, jmS, jmN, s4_0, s4_1, s4_2, s4_3, s4_4, sw0, sw1, cKs, cKn, true_and, and_true, List.map_cons, List.map_nil, Nat.reduceAdd, Nat.zero_add, Int.reduceAdd, Nat.reduceEqDiff, reduceIte, Classical.not_not, b_Md_mean, shMd]
  by_cases q : 0 ≤ what ∧ what ≤ 1
  · rw [if_pos q] at hQ
    rw [if_pos q, if_pos rfl]
    by_cases q3 : aRC σ t = 0
    · rw [if_pos q3] at hQ
      obtain ⟨j, rfl, hj, hne, h1, h6, htl⟩ := aRC_0 hP q3
      rw [Int.toNat_natCast] at hQ
      obtain ⟨t1, t2⟩ := (hR'.2.2.2.2.2.1 j hj).2 hne
      have h10 := p10 h6
      (repeat' (first | omega | (with_reducible exact True.intro) | exact ⟨by omega, by omega⟩ | (with_reducible exact Or.inr trivial) | (with_reducible exact Or.inl trivial) | (with_reducible assumption) | (with_reducible exact Same.refl) | (with_reducible rfl) | (with_reducible refine And.intro ?_ ?_) | (with_reducible intro _)))
      refine AW.run ck_Md_mean [38] 10 24 ?_
      simp only [wR, wB, wE0, wE1, wE2, wE3, g0, gS, s10, s11, s1S, s20, s21, s2S, kl0, kl1, kl2, kl3, sp0, sp1, sp2, sp3, cn1, cn2, cn3, cn4, cn5, cn6, jJa, lk0, lk1, jmS, jmN, s4_0, s4_1, s4_2, s4_3, s4_4, sw0, sw1, cKs, cKn, true_and, and_true, List.map_cons, List.map_nil, Nat.reduceAdd, Nat.zero_add, Int.reduceAdd, Nat.reduceEqDiff, reduceIte, Classical.not_not, b_Md_mean, shMd]
      refine ⟨by omega, (c_Md_laysLikely (d := d - 1) (sdI := -1) (told := toN σ j) (cf := cndF σ.h σ.m.sd σ.m.cold 0 0 (toN σ j)) (by omega) hok mok hH hm hj h6 t1 (fun i hi => ⟨by rw [t2 i hi]; exact (htl i hi).1, (htl i hi).2⟩) (Or.inl ⟨rfl, cndF_0⟩)).mono ?_⟩
      rintro r K okK ⟨rfl, ⟨a, v1, v2, v3⟩, v4⟩
      obtain ⟨c1, c2⟩ := hR'.ly v4
      have c3 := hlo.trans c2
      have e1 : vm a sumS = exM σ j := by rw [v2]; unfold exM; rw [Int.toNat_natCast]
      have hvl := vm_le (b := a) (g := sumS) (c := 20) sumS_le
      rw [e1] at hvl
      have hK1 : K 118 1 = σ.h.P := by rw [v4.at 118 _ (by (first | decide | (simp only [List.mem_cons, List.not_mem_nil, or_false, not_or, not_false_eq_true, and_true]; omega) | (simp [List.mem_cons]; done)))]; exact hH.2.1
      have loop : ∀ (r s : Nat), s + r = 3125 → AW G d mi_Md_mean Q 38 [some (vr 117), some (vi j), some (vi what), some (vi (aRC σ j)), some (vi ((10 ^ (σ.tr j).2.1 : Nat) : Int)), some (vl (sumN (fun s => a s * sumS s) s)), none, some (vi s)] [] K := by
        intro r
        induction r with
        | zero =>
          intro s hs
          obtain rfl : s = 3125 := by omega
          rw [show sumN (fun s => a s * sumS s) 3125 = exM σ j from e1]
          refine AW.run ck_Md_mean [64, 79] 10 38 ?_
          simp only [wR, wB, wE0, wE1, wE2, wE3, g0, gS, s10, s11, s1S, s20, s21, s2S, kl0, kl1, kl2, kl3, sp0, sp1, sp2, sp3, cn1, cn2, cn3, cn4, cn5, cn6, jJa, lk0, lk1, jmS, jmN, s4_0, s4_1, s4_2, s4_3, s4_4, sw0, sw1, cKs, cKn, true_and, and_true, List.map_cons, List.map_nil, Nat.reduceAdd, Nat.zero_add, Int.reduceAdd, Nat.reduceEqDiff, reduceIte, Classical.not_not, b_Md_mean, shMd]
          (repeat' (first | omega | (with_reducible exact True.intro) | exact ⟨by omega, by omega⟩ | (with_reducible exact Or.inr trivial) | (with_reducible exact Or.inl trivial) | (with_reducible assumption) | (with_reducible exact Same.refl) | (with_reducible rfl) | (with_reducible refine And.intro ?_ ?_) | (with_reducible intro _)))
          refine MS.to (c_Md_part (d := d - 1) (by omega) (by omega) h10.1 (by omega)) fun _ => ?_
          simp only [wR, wB, wE0, wE1, wE2, wE3, g0, gS, s10, s11, s1S, s20, s21, s2S, kl0, kl1, kl2, kl3, sp0, sp1, sp2, sp3, cn1, cn2, cn3, cn4, cn5, cn6, jJa, lk0, lk1, jmS, jmN, s4_0, s4_1, s4_2, s4_3, s4_4, sw0, sw1, cKs, cKn, true_and, and_true, List.map_cons, List.map_nil, Nat.reduceAdd, Nat.zero_add, Int.reduceAdd, Nat.reduceEqDiff, reduceIte, Classical.not_not, b_Md_mean]
          subst hQ
          exact ⟨rfl, c1, c3⟩
        | succ r ih =>
          intro s hs
          obtain ⟨e131, hs5⟩ := v1 s (by omega)
          have hps : sumN (fun s => a s * sumS s) (s + 1) = sumN (fun s => a s * sumS s) s + a s * sumS s := rfl
          have hm1 : sumN (fun s => a s * sumS s) (s + 1) ≤ vm a sumS := sumN_mono (by omega)
          rw [e1] at hm1
          have a79 : ∀ v : Int, v = ((a s * sumS s : Nat) : Int) → AW G d mi_Md_mean Q 79 [some (vr 117), some (vi j), some (vi what), some (vi (aRC σ j)), some (vi ((10 ^ (σ.tr j).2.1 : Nat) : Int)), some (vl (sumN (fun s => a s * sumS s) s)), none, some (vi s)] [vl v, vl (sumN (fun s => a s * sumS s) s)] K := by
            intro v hv
            subst hv
            have e2 : (sumN (fun s => a s * sumS s) s : Int) + ((a s * sumS s : Nat) : Int) = (sumN (fun s => a s * sumS s) (s + 1) : Nat) := by rw [hps]; rfl
            have := ih (s + 1) (by omega)
            refine AW.run ck_Md_mean [38] 10 79 ?_
            simp only [wR, wB, wE0, wE1, wE2, wE3, g0, gS, s10, s11, s1S, s20, s21, s2S, kl0, kl1, kl2, kl3, sp0, sp1, sp2, sp3, cn1, cn2, cn3, cn4, cn5, cn6, jJa, lk0, lk1, jmS, jmN, s4_0, s4_1, s4_2, s4_3, s4_4, sw0, sw1, cKs, cKn, true_and, and_true, List.map_cons, List.map_nil, Nat.reduceAdd, Nat.zero_add, Int.reduceAdd, Nat.reduceEqDiff, reduceIte, Classical.not_not, b_Md_mean, e2, ce]
            (repeat' (first | omega | (with_reducible exact True.intro) | exact ⟨by omega, by omega⟩ | (with_reducible exact Or.inr trivial) | (with_reducible exact Or.inl trivial) | (with_reducible assumption) | (with_reducible exact Same.refl) | (with_reducible rfl) | (with_reducible refine And.intro ?_ ?_) | (with_reducible intro _)))
          refine AW.run ck_Md_mean [64, 79, 88] 10 38 ?_
          simp only [wR, wB, wE0, wE1, wE2, wE3, g0, gS, s10, s11, s1S, s20, s21, s2S, kl0, kl1, kl2, kl3, sp0, sp1, sp2, sp3, cn1, cn2, cn3, cn4, cn5, cn6, jJa, lk0, lk1, jmS, jmN, s4_0, s4_1, s4_2, s4_3, s4_4, sw0, sw1, cKs, cKn, true_and, and_true, List.map_cons, List.map_nil, Nat.reduceAdd, Nat.zero_add, Int.reduceAdd, Nat.reduceEqDiff, reduceIte, Classical.not_not, b_Md_mean, shMd, e131, cmp3_eq]
          by_cases qz : a s = 0
          · have := a79 0 (by rw [qz, Nat.zero_mul]; rfl)
            (repeat' (first | omega | (with_reducible exact True.intro) | exact ⟨by omega, by omega⟩ | (with_reducible exact Or.inr trivial) | (with_reducible exact Or.inl trivial) | (with_reducible assumption) | (with_reducible exact Same.refl) | (with_reducible rfl) | (with_reducible refine And.intro ?_ ?_) | (with_reducible intro _)))
          · have a64 : AW G d mi_Md_mean Q 64 [some (vr 117), some (vi j), some (vi what), some (vi (aRC σ j)), some (vi ((10 ^ (σ.tr j).2.1 : Nat) : Int)), some (vl (sumN (fun s => a s * sumS s) s)), none, some (vi s)] [vl (sumN (fun s => a s * sumS s) s)] K := by
              have hsl := sumS_le s
              have em : (a s : Int) * (sumS s : Int) = ((a s * sumS s : Nat) : Int) := (Int.natCast_mul _ _).symm
              have := a79 _ rfl
              refine AW.run ck_Md_mean [79] 10 64 ?_
              simp only [wR, wB, wE0, wE1, wE2, wE3, g0, gS, s10, s11, s1S, s20, s21, s2S, kl0, kl1, kl2, kl3, sp0, sp1, sp2, sp3, cn1, cn2, cn3, cn4, cn5, cn6, jJa, lk0, lk1, jmS, jmN, s4_0, s4_1, s4_2, s4_3, s4_4, sw0, sw1, cKs, cKn, true_and, and_true, List.map_cons, List.map_nil, Nat.reduceAdd, Nat.zero_add, Int.reduceAdd, Nat.reduceEqDiff, reduceIte, Classical.not_not, b_Md_mean, shMd, e131]
              (repeat' (first | omega | (with_reducible exact True.intro) | exact ⟨by omega, by omega⟩ | (with_reducible exact Or.inr trivial) | (with_reducible exact Or.inl trivial) | (with_reducible assumption) | (with_reducible exact Same.refl) | (with_reducible rfl) | (with_reducible refine And.intro ?_ ?_) | (with_reducible intro _)))
              refine MS.to (c_Md_sumIn (d := d - 1) (by omega) hK1 hP) fun _ => ?_
              rw [sum_P hP (hs5 qz)]
              simp only [wR, wB, wE0, wE1, wE2, wE3, g0, gS, s10, s11, s1S, s20, s21, s2S, kl0, kl1, kl2, kl3, sp0, sp1, sp2, sp3, cn1, cn2, cn3, cn4, cn5, cn6, jJa, lk0, lk1, jmS, jmN, s4_0, s4_1, s4_2, s4_3, s4_4, sw0, sw1, cKs, cKn, true_and, and_true, List.map_cons, List.map_nil, Nat.reduceAdd, Nat.zero_add, Int.reduceAdd, Nat.reduceEqDiff, reduceIte, Classical.not_not, b_Md_mean, em]
              (repeat' (first | omega | (with_reducible exact True.intro) | exact ⟨by omega, by omega⟩ | (with_reducible exact Or.inr trivial) | (with_reducible exact Or.inl trivial) | (with_reducible assumption) | (with_reducible exact Same.refl) | (with_reducible rfl) | (with_reducible refine And.intro ?_ ?_) | (with_reducible intro _)))
            (repeat' (first | omega | (with_reducible exact True.intro) | exact ⟨by omega, by omega⟩ | (with_reducible exact Or.inr trivial) | (with_reducible exact Or.inl trivial) | (with_reducible assumption) | (with_reducible exact Same.refl) | (with_reducible rfl) | (with_reducible refine And.intro ?_ ?_) | (with_reducible intro _)))
      have := loop 3125 0 (by omega)
      simp only [wR, wB, wE0, wE1, wE2, wE3, g0, gS, s10, s11, s1S, s20, s21, s2S, kl0, kl1, kl2, kl3, sp0, sp1, sp2, sp3, cn1, cn2, cn3, cn4, cn5, cn6, jJa, lk0, lk1, jmS, jmN, s4_0, s4_1, s4_2, s4_3, s4_4, sw0, sw1, cKs, cKn, true_and, and_true, List.map_cons, List.map_nil, Nat.reduceAdd, Nat.zero_add, Int.reduceAdd, Nat.reduceEqDiff, reduceIte, Classical.not_not, b_Md_mean]
      exact this
    · rw [if_neg q3] at hQ
      subst hQ
      (repeat' (first | omega | (with_reducible exact True.intro) | exact ⟨by omega, by omega⟩ | (with_reducible exact Or.inr trivial) | (with_reducible exact Or.inl trivial) | (with_reducible assumption) | (with_reducible exact Same.refl) | (with_reducible rfl) | (with_reducible refine And.intro ?_ ?_) | (with_reducible intro _)))
  · rw [if_neg q] at hQ
    rw [if_neg q, if_neg (by omega)]
    subst hQ
    (repeat' (first | omega | (with_reducible exact True.intro) | exact ⟨by omega, by omega⟩ | (with_reducible exact Or.inr trivial) | (with_reducible exact Or.inl trivial) | (with_reducible assumption) | (with_reducible exact Same.refl) | (with_reducible rfl) | (with_reducible refine And.intro ?_ ?_) | (with_reducible intro _)))
end MCH
