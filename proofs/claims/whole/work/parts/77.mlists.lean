section LM
variable {G : AG} {d : Nat} {M : AM}
theorem rosI_i {ok : Nat → Nat → Bool} {nx : Nat → Nat → Nat} : ∀ i s, rosI ok nx i s = -1 ∨ ∃ x : Nat, rosI ok nx i s = x ∧ x < 32
  | 0, s => by
    rcases pkI_n (ok := ok) (nx := nx) s with e | ⟨x, e⟩
    · exact Or.inl e
    · exact Or.inr ⟨x, e, (pkI_ok e).1⟩
  | i + 1, s => by
    rcases pkI_n (ok := ok) (nx := nx) s with e | ⟨x, e⟩
    · exact Or.inl (rosI_0 e)
    · rw [rosI_s e]; exact rosI_i i _
theorem c_Md_lists {t side : Int} {B : Nat} {σ : Sg} (hd : 30 ≤ d) (ok : SgOK B σ) (hR : MR M σ) : MS G d mi_Md_lists [vr 117, vi t, vi side] M (fun r M' => r = some (vi (aLists σ t side)) ∧ MR M' (sLists σ t side) ∧ Lo M M') := by
  have hR' := hR.thr
  have hok := ok.2.2.1
  have hP := hok.1
  have mok := ok.2.2.2.1.1
  refine MS.by ck_Md_lists [some (vr 117), some (vi t), some (vi side), none, none] fun _ _ => ?_
  generalize hQ : (fun (r : Option AV) (M' : AM) => r = some (vi (aLists σ t side)) ∧ MR M' (sLists σ t side) ∧ Lo M M') = Q
  unfold aLists sLists at hQ
  refine AW.run ck_Md_lists [24, 27] 10 0 ?_
  simp only [wR, wB, wE0, wE1, wE2, wE3, g0, gS, s10, s11, s1S, s20, s21, s2S, kl0, kl1, kl2, kl3, sp0, sp1, sp2, sp3, cn1, cn2, cn3, cn4, cn5, cn6, jJa, lk0, lk1, jmS, jmN, s4_0, s4_1, s4_2, s4_3, s4_4, sw0, sw1, cKs, cKn, true_and, and_true, List.map_cons, List.map_nil, Nat.reduceAdd, Nat.zero_add, Int.reduceAdd, Nat.reduceEqDiff, reduceIte, Classical.not_not, b_Md_lists, shMd]
  have hlo : Lo M (up M 117 0 0) := thr_lo
  generalize up M 117 0 0 = N at hR' hlo ⊢
  obtain ⟨hH, hm, -⟩ := hR'.past
  have a24 : (¬ (side = 0 ∨ side = 1) ∨ ¬ (0 ≤ t ∧ t ≤ 3)) → AW G d mi_Md_lists Q 24 [some (vr 117), some (vi t), some (vi side), none, none] [] N := by
    intro q
    refine AW.run ck_Md_lists [] 10 24 ?_
    simp only [wR, wB, wE0, wE1, wE2, wE3, g0, gS, s10, s11, s1S, s20, s21, s2S, kl0, kl1, kl2, kl3, sp0, sp1, sp2, sp3, cn1, cn2, cn3, cn4, cn5, cn6, jJa, lk0, lk1, jmS, jmN, s4_0, s4_1, s4_2, s4_3, s4_4, sw0, sw1, cKs, cKn, true_and, and_true, List.map_cons, List.map_nil, Nat.reduceAdd, Nat.zero_add, Int.reduceAdd, Nat.reduceEqDiff, reduceIte, Classical.not_not, b_Md_lists]
    subst hQ
    by_cases q1 : side = 0 ∨ side = 1
    · have q2 : ¬ (0 ≤ t ∧ t < 4) := by rcases q with q | q <;> omega
      have e : aTr σ t = -2 := by unfold aTr; rw [if_neg q2]
      rw [if_pos q1, if_neg (by omega), if_neg (by omega), e]
      exact ⟨rfl, hR', hlo⟩
    · rw [if_neg q1, if_neg (fun h => q1 h.1)]
      exact ⟨rfl, hR', hlo⟩
  refine ⟨by omega, MS.to c_Md_within fun _ => ?_⟩
  by_cases qt : 0 ≤ t ∧ t ≤ 3
  · rw [if_pos qt]
    simp only [wR, wB, wE0, wE1, wE2, wE3, g0, gS, s10, s11, s1S, s20, s21, s2S, kl0, kl1, kl2, kl3, sp0, sp1, sp2, sp3, cn1, cn2, cn3, cn4, cn5, cn6, jJa, lk0, lk1, jmS, jmN, s4_0, s4_1, s4_2, s4_3, s4_4, sw0, sw1, cKs, cKn, true_and, and_true, List.map_cons, List.map_nil, Nat.reduceAdd, Nat.zero_add, Int.reduceAdd, Nat.reduceEqDiff, reduceIte, Classical.not_not, b_Md_lists, shMd, up_rd, Int.reduceEq, and_false, false_and, and_self, reduceIte, not_true_eq_false, not_false_eq_true, false_imp_iff, true_imp_iff, true_or, or_true]
    refine ⟨by omega, MS.to (c_Md_isSide (d := d - 1) (by omega)) fun _ => ?_⟩
    by_cases q : side = 0 ∨ side = 1
    · rw [if_pos q] at hQ ⊢
      obtain ⟨k, rfl, hk⟩ := side_n q
      rw [Int.toNat_natCast] at hQ
      simp only [wR, wB, wE0, wE1, wE2, wE3, g0, gS, s10, s11, s1S, s20, s21, s2S, kl0, kl1, kl2, kl3, sp0, sp1, sp2, sp3, cn1, cn2, cn3, cn4, cn5, cn6, jJa, lk0, lk1, jmS, jmN, s4_0, s4_1, s4_2, s4_3, s4_4, sw0, sw1, cKs, cKn, true_and, and_true, List.map_cons, List.map_nil, Nat.reduceAdd, Nat.zero_add, Int.reduceAdd, Nat.reduceEqDiff, reduceIte, Classical.not_not, b_Md_lists, shMd, up_rd, Int.reduceEq, and_false, false_and, and_self, reduceIte, not_true_eq_false, not_false_eq_true, false_imp_iff, true_imp_iff, true_or, or_true]
      refine AW.run ck_Md_lists [39] 10 27 ?_
      simp only [wR, wB, wE0, wE1, wE2, wE3, g0, gS, s10, s11, s1S, s20, s21, s2S, kl0, kl1, kl2, kl3, sp0, sp1, sp2, sp3, cn1, cn2, cn3, cn4, cn5, cn6, jJa, lk0, lk1, jmS, jmN, s4_0, s4_1, s4_2, s4_3, s4_4, sw0, sw1, cKs, cKn, true_and, and_true, List.map_cons, List.map_nil, Nat.reduceAdd, Nat.zero_add, Int.reduceAdd, Nat.reduceEqDiff, reduceIte, Classical.not_not, b_Md_lists, shMd]
      refine ⟨by omega, MS.to (c_Md_noTray (d := d - 1) (by omega) hR') fun _ => ?_⟩
      simp only [wR, wB, wE0, wE1, wE2, wE3, g0, gS, s10, s11, s1S, s20, s21, s2S, kl0, kl1, kl2, kl3, sp0, sp1, sp2, sp3, cn1, cn2, cn3, cn4, cn5, cn6, jJa, lk0, lk1, jmS, jmN, s4_0, s4_1, s4_2, s4_3, s4_4, sw0, sw1, cKs, cKn, true_and, and_true, List.map_cons, List.map_nil, Nat.reduceAdd, Nat.zero_add, Int.reduceAdd, Nat.reduceEqDiff, reduceIte, Classical.not_not, b_Md_lists, shMd]
      by_cases q2 : aTr σ t = 0
      · rw [if_pos q2, if_pos ⟨q, q2⟩] at hQ
        obtain ⟨j, rfl, hj, hne⟩ := aTr_0 q2
        rw [Int.toNat_natCast] at hQ
        (repeat' (first | omega | (with_reducible exact True.intro) | exact ⟨by omega, by omega⟩ | (with_reducible exact Or.inr trivial) | (with_reducible exact Or.inl trivial) | (with_reducible assumption) | (with_reducible exact Same.refl) | (with_reducible rfl) | (with_reducible refine And.intro ?_ ?_) | (with_reducible intro _)))
        refine AW.run ck_Md_lists [52] 10 39 ?_
        simp only [wR, wB, wE0, wE1, wE2, wE3, g0, gS, s10, s11, s1S, s20, s21, s2S, kl0, kl1, kl2, kl3, sp0, sp1, sp2, sp3, cn1, cn2, cn3, cn4, cn5, cn6, jJa, lk0, lk1, jmS, jmN, s4_0, s4_1, s4_2, s4_3, s4_4, sw0, sw1, cKs, cKn, true_and, and_true, List.map_cons, List.map_nil, Nat.reduceAdd, Nat.zero_add, Int.reduceAdd, Nat.reduceEqDiff, reduceIte, Classical.not_not, b_Md_lists, shMd]
        refine ⟨by omega, MS.to (c_Md_sideOf (sd := σ.m.sd) (s := k) hH.2.1 hP (fun p hp => (hm.sd mok p hp).1)) fun _ => ?_⟩
        simp only [wR, wB, wE0, wE1, wE2, wE3, g0, gS, s10, s11, s1S, s20, s21, s2S, kl0, kl1, kl2, kl3, sp0, sp1, sp2, sp3, cn1, cn2, cn3, cn4, cn5, cn6, jJa, lk0, lk1, jmS, jmN, s4_0, s4_1, s4_2, s4_3, s4_4, sw0, sw1, cKs, cKn, true_and, and_true, List.map_cons, List.map_nil, Nat.reduceAdd, Nat.zero_add, Int.reduceAdd, Nat.reduceEqDiff, reduceIte, Classical.not_not, b_Md_lists, shMd]
        refine ⟨by omega, (c_Md_laysHeld (d := d - 1) (side := k) (pe := sideS σ.m.sd σ.h.P k) (by omega) hok mok hH hm (sideS_lt hP) hk).mono ?_⟩
        rintro r M1 okM1 ⟨rfl, ⟨l, f, L1, L2, L3⟩, u1, u2⟩
        simp only [wR, wB, wE0, wE1, wE2, wE3, g0, gS, s10, s11, s1S, s20, s21, s2S, kl0, kl1, kl2, kl3, sp0, sp1, sp2, sp3, cn1, cn2, cn3, cn4, cn5, cn6, jJa, lk0, lk1, jmS, jmN, s4_0, s4_1, s4_2, s4_3, s4_4, sw0, sw1, cKs, cKn, true_and, and_true, List.map_cons, List.map_nil, Nat.reduceAdd, Nat.zero_add, Int.reduceAdd, Nat.reduceEqDiff, reduceIte, Classical.not_not, b_Md_lists, shMd]
        obtain ⟨c1, c2⟩ := hR'.lay2 u1 u2
        have c3 := hlo.trans c2
        obtain ⟨g1, g2⟩ := c1.2.2.2.2.2.1 j hj
        obtain ⟨t1, t2⟩ := g2 hne
        have ht40 := (ok.2.2.2.2.2.2.1 j hj).2.2
        have hH1 : MH (M1 118) σ.h := by rw [u1 118 (by (first | decide | (simp only [List.mem_cons, List.not_mem_nil, or_false, not_or, not_false_eq_true, and_true]; omega) | (simp [List.mem_cons]; done)))]; exact hH
        have hm1 : MRow (fun y => M1 118 (19 + y)) σ.h.P σ.m := by rw [u1 118 (by (first | decide | (simp only [List.mem_cons, List.not_mem_nil, or_false, not_or, not_false_eq_true, and_true]; omega) | (simp [List.mem_cons]; done)))]; exact hm
        have keep : ∀ K : AM, Same [137] M1 K → LSt K σ.h σ.m.sd σ.m.cold (sideS σ.m.sd σ.h.P k) (cod σ.m.st σ.h.P) l ∧ farM K l f ∧ K 118 = M1 118 := by
          intro K hK
          refine ⟨L1.far (hK.at 117 _ (by (first | decide | (simp only [List.mem_cons, List.not_mem_nil, or_false, not_or, not_false_eq_true, and_true]; omega) | (simp [List.mem_cons]; done)))) (fun x hx => hK x (by (first | decide | (simp only [List.mem_cons, List.not_mem_nil, or_false, not_or, not_false_eq_true, and_true]; omega) | (simp [List.mem_cons]; done)))), fun s hs => by rw [hK.at 127 _ (by (first | decide | (simp only [List.mem_cons, List.not_mem_nil, or_false, not_or, not_false_eq_true, and_true]; omega) | (simp [List.mem_cons]; done)))]; exact L2 s hs, hK 118 (by (first | decide | (simp only [List.mem_cons, List.not_mem_nil, or_false, not_or, not_false_eq_true, and_true]; omega) | (simp [List.mem_cons]; done)))⟩
        generalize hnn : (σ.tr j).2.1 = n at hQ t1 t2 ht40
        have fin : ∀ (K : AM) (i : Nat), lsN (lstR σ k) n = i → Same [137] M1 K → (∀ l : Nat, l < 4 → l ≠ j → ∀ j' : Nat, j' < 40 → K 137 (40 * (l : Int) + j') = M1 137 (40 * (l : Int) + j')) → (∀ y : Nat, y < n → K 137 (40 * (j : Int) + y) = if y < i then lstR σ k y else (σ.tr j).2.2 y) → Q (some (vi i)) K := by
          intro K i e hK h1 h2
          subst hQ
          rw [e]
          refine ⟨rfl, c1.tr hj (fun l hl => (ok.2.2.2.2.2.2.1 l hl).2.2) (hK.mono (by simp)) (fun y _ => hK.at 117 y (by (first | decide | (simp only [List.mem_cons, List.not_mem_nil, or_false, not_or, not_false_eq_true, and_true]; omega) | (simp [List.mem_cons]; done)))) (fun l hl hne => ⟨hK.at 135 _ (by (first | decide | (simp only [List.mem_cons, List.not_mem_nil, or_false, not_or, not_false_eq_true, and_true]; omega) | (simp [List.mem_cons]; done))), hK.at 136 _ (by (first | decide | (simp only [List.mem_cons, List.not_mem_nil, or_false, not_or, not_false_eq_true, and_true]; omega) | (simp [List.mem_cons]; done))), h1 l hl hne⟩) ⟨by rw [hK.at 135 _ (by (first | decide | (simp only [List.mem_cons, List.not_mem_nil, or_false, not_or, not_false_eq_true, and_true]; omega) | (simp [List.mem_cons]; done)))]; exact g1, fun _ => ⟨by rw [hK.at 136 _ (by (first | decide | (simp only [List.mem_cons, List.not_mem_nil, or_false, not_or, not_false_eq_true, and_true]; omega) | (simp [List.mem_cons]; done)))]; exact t1, fun y hy => h2 y hy⟩⟩, c3.trans (hK.lo (by intro x hx; simp only [List.mem_cons, List.not_mem_nil, or_false] at hx; omega))⟩
        have loop : ∀ (r i : Nat) (K : AM), i + r = n → (∀ k', k' < i → lstR σ k k' ≠ -1) → Same [137] M1 K → (∀ l : Nat, l < 4 → l ≠ j → ∀ j' : Nat, j' < 40 → K 137 (40 * (l : Int) + j') = M1 137 (40 * (l : Int) + j')) → (∀ y : Nat, y < n → K 137 (40 * (j : Int) + y) = if y < i then lstR σ k y else (σ.tr j).2.2 y) → AW G d mi_Md_lists Q 52 [some (vr 117), some (vi j), some (vi k), some (vi (aTr σ j)), some (vi i)] [] K := by
          intro r
          induction r with
          | zero =>
            intro i K hi h1 h2 h3 h4
            have := fin K i (lsN_eq (by omega) h1 (fun h => absurd h (by omega))) h2 h3 h4
            have e136 : K 136 (j : Int) = n := by rw [h2.at 136 _ (by (first | decide | (simp only [List.mem_cons, List.not_mem_nil, or_false, not_or, not_false_eq_true, and_true]; omega) | (simp [List.mem_cons]; done)))]; exact t1
            refine AW.run ck_Md_lists [52] 10 52 ?_
            simp only [wR, wB, wE0, wE1, wE2, wE3, g0, gS, s10, s11, s1S, s20, s21, s2S, kl0, kl1, kl2, kl3, sp0, sp1, sp2, sp3, cn1, cn2, cn3, cn4, cn5, cn6, jJa, lk0, lk1, jmS, jmN, s4_0, s4_1, s4_2, s4_3, s4_4, sw0, sw1, cKs, cKn, true_and, and_true, List.map_cons, List.map_nil, Nat.reduceAdd, Nat.zero_add, Int.reduceAdd, Nat.reduceEqDiff, reduceIte, Classical.not_not, b_Md_lists, shMd, e136]
            (repeat' (first | omega | (with_reducible exact True.intro) | exact ⟨by omega, by omega⟩ | (with_reducible exact Or.inr trivial) | (with_reducible exact Or.inl trivial) | (with_reducible assumption) | (with_reducible exact Same.refl) | (with_reducible rfl) | (with_reducible refine And.intro ?_ ?_) | (with_reducible intro _)))
          | succ r ih =>
            intro i K hi h1 h2 h3 h4
            have e136 : K 136 (j : Int) = n := by rw [h2.at 136 _ (by (first | decide | (simp only [List.mem_cons, List.not_mem_nil, or_false, not_or, not_false_eq_true, and_true]; omega) | (simp [List.mem_cons]; done)))]; exact t1
            obtain ⟨k1, k2, k3⟩ := keep K h2
            have hro := c_Md_rosterAt (G := G) (d := d - 1) (M := K) (i := i) (by omega) (by omega) hok mok (by rw [k3]; exact hH1) (by rw [k3]; exact hm1) hk k1 k2 L3
            rw [show rosI (okH σ.h σ.m.sd σ.m.cold k (sideS σ.m.sd σ.h.P k) σ.h.must) (nxt σ.h σ.m.sd σ.m.cold) i (cod σ.m.st σ.h.P) = lstR σ k i from rfl] at hro
            refine AW.run ck_Md_lists [52, 100] 10 52 ?_
            simp only [wR, wB, wE0, wE1, wE2, wE3, g0, gS, s10, s11, s1S, s20, s21, s2S, kl0, kl1, kl2, kl3, sp0, sp1, sp2, sp3, cn1, cn2, cn3, cn4, cn5, cn6, jJa, lk0, lk1, jmS, jmN, s4_0, s4_1, s4_2, s4_3, s4_4, sw0, sw1, cKs, cKn, true_and, and_true, List.map_cons, List.map_nil, Nat.reduceAdd, Nat.zero_add, Int.reduceAdd, Nat.reduceEqDiff, reduceIte, Classical.not_not, b_Md_lists, shMd, e136]
            (repeat' (first | omega | (with_reducible exact True.intro) | exact ⟨by omega, by omega⟩ | (with_reducible exact Or.inr trivial) | (with_reducible exact Or.inl trivial) | (with_reducible assumption) | (with_reducible exact Same.refl) | (with_reducible rfl) | (with_reducible refine And.intro ?_ ?_) | (with_reducible intro _)))
            refine MS.to hro fun _ => ?_
            simp only [wR, wB, wE0, wE1, wE2, wE3, g0, gS, s10, s11, s1S, s20, s21, s2S, kl0, kl1, kl2, kl3, sp0, sp1, sp2, sp3, cn1, cn2, cn3, cn4, cn5, cn6, jJa, lk0, lk1, jmS, jmN, s4_0, s4_1, s4_2, s4_3, s4_4, sw0, sw1, cKs, cKn, true_and, and_true, List.map_cons, List.map_nil, Nat.reduceAdd, Nat.zero_add, Int.reduceAdd, Nat.reduceEqDiff, reduceIte, Classical.not_not, b_Md_lists, shMd]
            have hii := rosI_i (ok := okH σ.h σ.m.sd σ.m.cold k (sideS σ.m.sd σ.h.P k) σ.h.must) (nx := nxt σ.h σ.m.sd σ.m.cold) i (cod σ.m.st σ.h.P)
            rw [show rosI (okH σ.h σ.m.sd σ.m.cold k (sideS σ.m.sd σ.h.P k) σ.h.must) (nxt σ.h σ.m.sd σ.m.cold) i (cod σ.m.st σ.h.P) = lstR σ k i from rfl] at hii
            rcases hii with e | ⟨x, e, hx⟩
            · have := fin K i (lsN_eq (by omega) h1 (fun _ => e)) h2 h3 h4
              (repeat' (first | omega | (with_reducible exact True.intro) | exact ⟨by omega, by omega⟩ | (with_reducible exact Or.inr trivial) | (with_reducible exact Or.inl trivial) | (with_reducible assumption) | (with_reducible exact Same.refl) | (with_reducible rfl) | (with_reducible refine And.intro ?_ ?_) | (with_reducible intro _)))
              refine AW.run ck_Md_lists [] 10 100 ?_
              simp only [wR, wB, wE0, wE1, wE2, wE3, g0, gS, s10, s11, s1S, s20, s21, s2S, kl0, kl1, kl2, kl3, sp0, sp1, sp2, sp3, cn1, cn2, cn3, cn4, cn5, cn6, jJa, lk0, lk1, jmS, jmN, s4_0, s4_1, s4_2, s4_3, s4_4, sw0, sw1, cKs, cKn, true_and, and_true, List.map_cons, List.map_nil, Nat.reduceAdd, Nat.zero_add, Int.reduceAdd, Nat.reduceEqDiff, reduceIte, Classical.not_not, b_Md_lists]
              (repeat' (first | omega | (with_reducible exact True.intro) | exact ⟨by omega, by omega⟩ | (with_reducible exact Or.inr trivial) | (with_reducible exact Or.inl trivial) | (with_reducible assumption) | (with_reducible exact Same.refl) | (with_reducible rfl) | (with_reducible refine And.intro ?_ ?_) | (with_reducible intro _)))
            · have key := ih (i + 1) (up K 137 (40 * (j : Int) + i) x) (by omega) (fun k' hk' => by
                by_cases ek : k' = i
                · subst ek; omega
                · exact h1 k' (by omega)) (h2.up (by simp)) (fun l hl hne j' hj' => by rw [up_ne2 (by omega)]; exact h3 l hl hne j' hj') (fun y hy => by
                by_cases ey : y = i
                · subst ey; rw [up_eq, if_pos (by omega), e]
                · rw [up_ne2 (by omega), h4 y hy]
                  by_cases q : y < i
                  · rw [if_pos q, if_pos (by omega)]
                  · rw [if_neg q, if_neg (by omega)])
              rw [e] at hro ⊢
              (repeat' (first | omega | (with_reducible exact True.intro) | exact ⟨by omega, by omega⟩ | (with_reducible exact Or.inr trivial) | (with_reducible exact Or.inl trivial) | (with_reducible assumption) | (with_reducible exact Same.refl) | (with_reducible rfl) | (with_reducible refine And.intro ?_ ?_) | (with_reducible intro _)))
              refine MS.to hro fun _ => ?_
              simp only [wR, wB, wE0, wE1, wE2, wE3, g0, gS, s10, s11, s1S, s20, s21, s2S, kl0, kl1, kl2, kl3, sp0, sp1, sp2, sp3, cn1, cn2, cn3, cn4, cn5, cn6, jJa, lk0, lk1, jmS, jmN, s4_0, s4_1, s4_2, s4_3, s4_4, sw0, sw1, cKs, cKn, true_and, and_true, List.map_cons, List.map_nil, Nat.reduceAdd, Nat.zero_add, Int.reduceAdd, Nat.reduceEqDiff, reduceIte, Classical.not_not, b_Md_lists, shMd, ce]
              (repeat' (first | omega | (with_reducible exact True.intro) | exact ⟨by omega, by omega⟩ | (with_reducible exact Or.inr trivial) | (with_reducible exact Or.inl trivial) | (with_reducible assumption) | (with_reducible exact Same.refl) | (with_reducible rfl) | (with_reducible refine And.intro ?_ ?_) | (with_reducible intro _)))
        exact loop n 0 M1 (by omega) (fun k' hk' => absurd hk' (by omega)) Same.refl (fun _ _ _ _ _ => rfl) (fun y hy => by rw [if_neg (by omega)]; exact t2 y hy)
      · rw [if_neg q2, if_neg (fun h => q2 h.2)] at hQ
        subst hQ
        (repeat' (first | omega | (with_reducible exact True.intro) | exact ⟨by omega, by omega⟩ | (with_reducible exact Or.inr trivial) | (with_reducible exact Or.inl trivial) | (with_reducible assumption) | (with_reducible exact Same.refl) | (with_reducible rfl) | (with_reducible refine And.intro ?_ ?_) | (with_reducible intro _)))
    · rw [if_neg q]
      simp only [wR, wB, wE0, wE1, wE2, wE3, g0, gS, s10, s11, s1S, s20, s21, s2S, kl0, kl1, kl2, kl3, sp0, sp1, sp2, sp3, cn1, cn2, cn3, cn4, cn5, cn6, jJa, lk0, lk1, jmS, jmN, s4_0, s4_1, s4_2, s4_3, s4_4, sw0, sw1, cKs, cKn, true_and, and_true, List.map_cons, List.map_nil, Nat.reduceAdd, Nat.zero_add, Int.reduceAdd, Nat.reduceEqDiff, reduceIte, Classical.not_not, b_Md_lists, shMd, up_rd, Int.reduceEq, and_false, false_and, and_self, reduceIte, not_true_eq_false, not_false_eq_true, false_imp_iff, true_imp_iff, true_or, or_true]
      exact a24 (Or.inl q)
  · rw [if_neg qt]
    simp only [wR, wB, wE0, wE1, wE2, wE3, g0, gS, s10, s11, s1S, s20, s21, s2S, kl0, kl1, kl2, kl3, sp0, sp1, sp2, sp3, cn1, cn2, cn3, cn4, cn5, cn6, jJa, lk0, lk1, jmS, jmN, s4_0, s4_1, s4_2, s4_3, s4_4, sw0, sw1, cKs, cKn, true_and, and_true, List.map_cons, List.map_nil, Nat.reduceAdd, Nat.zero_add, Int.reduceAdd, Nat.reduceEqDiff, reduceIte, Classical.not_not, b_Md_lists, shMd, up_rd, Int.reduceEq, and_false, false_and, and_self, reduceIte, not_true_eq_false, not_false_eq_true, false_imp_iff, true_imp_iff, true_or, or_true]
    exact a24 (Or.inr qt)
end LM
