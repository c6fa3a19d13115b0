def aWrite (σ : Sg) (t i v : Int) : Int := if aTr σ t = 0 then (if 0 ≤ i ∧ i < ((σ.tr t.toNat).2.1 : Int) then cutv (σ.tr t.toNat).1 v else -7) else aTr σ t
def sWrite (σ : Sg) (t i v : Int) : Sg := if aTr σ t = 0 ∧ 0 ≤ i ∧ i < ((σ.tr t.toNat).2.1 : Int) then σ.setTr t.toNat ((σ.tr t.toNat).1, (σ.tr t.toNat).2.1, fun k => if k = i.toNat then cutv (σ.tr t.toNat).1 v else (σ.tr t.toNat).2.2 k) else σ
theorem w8_i (x : Int) : -128 ≤ w8 x ∧ w8 x ≤ 127 := by
  rw [w8_byte]
  obtain ⟨n, h1, h2, h3⟩ := bAnd255 x
  rw [h1]
  exact sgn_in (by omega)
section SO
variable {G : AG} {d : Nat} {M : AM}
theorem c_Md_numbers {t s n : Int} {B : Nat} {σ : Sg} (hd : 5 ≤ d) (ok : SgOK B σ) (hR : MR M σ) : MS G d mi_Md_numbers [vr 117, vi t, vi s, vi n] M (fun r M' => r = some (vi (aNumbers t s n)) ∧ MR M' (sNumbers σ t s n) ∧ Lo M M') := by
  have hR' := hR.thr
  refine MS.by ck_Md_numbers [some (vr 117), some (vi t), some (vi s), some (vi n), none] fun _ _ => ?_
  unfold aNumbers sNumbers
  generalize hQ : (fun (r : Option AV) (M' : AM) => r = some (vi (if (0 ≤ t ∧ t < 4) ∧ 0 ≤ s ∧ s ≤ 3 then (if 0 ≤ n ∧ n ≤ 40 then 0 else -3) else -2)) ∧ MR M' (if ((0 ≤ t ∧ t < 4) ∧ 0 ≤ s ∧ s ≤ 3) ∧ 0 ≤ n ∧ n ≤ 40 then σ.setTr t.toNat (s, n.toNat, fun _ => 0) else σ) ∧ Lo M M') = Q
  refine AW.run ck_Md_numbers [29, 32] 10 0 ?_
  simp only [wR, wB, wE0, wE1, wE2, wE3, g0, gS, s10, s11, s1S, s20, s21, s2S, kl0, kl1, kl2, kl3, sp0, sp1, sp2, sp3, cn1, cn2, cn3, cn4, cn5, cn6, jJa, lk0, lk1, jmS, jmN, s4_0, s4_1, s4_2, s4_3, s4_4, sw0, sw1, cKs, cKn, true_and, and_true, List.map_cons, List.map_nil, Nat.reduceAdd, Nat.zero_add, Int.reduceAdd, Nat.reduceEqDiff, reduceIte, Classical.not_not, b_Md_numbers, shMd]
  have hlo : Lo M (up M 117 0 0) := thr_lo
  generalize up M 117 0 0 = N at hR' hlo ⊢
  have a29 : ¬ ((0 ≤ t ∧ t < 4) ∧ 0 ≤ s ∧ s ≤ 3) → AW G d mi_Md_numbers Q 29 [some (vr 117), some (vi t), some (vi s), some (vi n), none] [] N := by
    intro q
    refine AW.run ck_Md_numbers [] 10 29 ?_
    simp only [wR, wB, wE0, wE1, wE2, wE3, g0, gS, s10, s11, s1S, s20, s21, s2S, kl0, kl1, kl2, kl3, sp0, sp1, sp2, sp3, cn1, cn2, cn3, cn4, cn5, cn6, jJa, lk0, lk1, jmS, jmN, s4_0, s4_1, s4_2, s4_3, s4_4, sw0, sw1, cKs, cKn, true_and, and_true, List.map_cons, List.map_nil, Nat.reduceAdd, Nat.zero_add, Int.reduceAdd, Nat.reduceEqDiff, reduceIte, Classical.not_not, b_Md_numbers]
    subst hQ
    rw [if_neg q, if_neg (fun h => q h.1)]
    exact ⟨rfl, hR', hlo⟩
  refine ⟨by omega, MS.to c_Md_within fun _ => ?_⟩
  by_cases q : 0 ≤ t ∧ t ≤ 3
  · rw [if_pos q]
    obtain ⟨i, rfl⟩ := Int.eq_ofNat_of_zero_le q.1
    have hi : i < 4 := by omega
    simp only [wR, wB, wE0, wE1, wE2, wE3, g0, gS, s10, s11, s1S, s20, s21, s2S, kl0, kl1, kl2, kl3, sp0, sp1, sp2, sp3, cn1, cn2, cn3, cn4, cn5, cn6, jJa, lk0, lk1, jmS, jmN, s4_0, s4_1, s4_2, s4_3, s4_4, sw0, sw1, cKs, cKn, true_and, and_true, List.map_cons, List.map_nil, Nat.reduceAdd, Nat.zero_add, Int.reduceAdd, Nat.reduceEqDiff, reduceIte, Classical.not_not, b_Md_numbers, shMd, up_rd, Int.reduceEq, and_false, false_and, and_self, reduceIte, not_true_eq_false, not_false_eq_true, false_imp_iff, true_imp_iff, true_or, or_true]
    refine ⟨by omega, MS.to c_Md_within fun _ => ?_⟩
    by_cases q2 : 0 ≤ s ∧ s ≤ 3
    · rw [if_pos q2]
      simp only [wR, wB, wE0, wE1, wE2, wE3, g0, gS, s10, s11, s1S, s20, s21, s2S, kl0, kl1, kl2, kl3, sp0, sp1, sp2, sp3, cn1, cn2, cn3, cn4, cn5, cn6, jJa, lk0, lk1, jmS, jmN, s4_0, s4_1, s4_2, s4_3, s4_4, sw0, sw1, cKs, cKn, true_and, and_true, List.map_cons, List.map_nil, Nat.reduceAdd, Nat.zero_add, Int.reduceAdd, Nat.reduceEqDiff, reduceIte, Classical.not_not, b_Md_numbers, shMd, up_rd, Int.reduceEq, and_false, false_and, and_self, reduceIte, not_true_eq_false, not_false_eq_true, false_imp_iff, true_imp_iff, true_or, or_true]
      refine AW.run ck_Md_numbers [47] 10 32 ?_
      simp only [wR, wB, wE0, wE1, wE2, wE3, g0, gS, s10, s11, s1S, s20, s21, s2S, kl0, kl1, kl2, kl3, sp0, sp1, sp2, sp3, cn1, cn2, cn3, cn4, cn5, cn6, jJa, lk0, lk1, jmS, jmN, s4_0, s4_1, s4_2, s4_3, s4_4, sw0, sw1, cKs, cKn, true_and, and_true, List.map_cons, List.map_nil, Nat.reduceAdd, Nat.zero_add, Int.reduceAdd, Nat.reduceEqDiff, reduceIte, Classical.not_not, b_Md_numbers, shMd]
      refine ⟨by omega, MS.to c_Md_within fun _ => ?_⟩
      by_cases q3 : 0 ≤ n ∧ n ≤ 40
      · rw [if_pos q3]
        obtain ⟨k, rfl⟩ := Int.eq_ofNat_of_zero_le q3.1
        simp only [wR, wB, wE0, wE1, wE2, wE3, g0, gS, s10, s11, s1S, s20, s21, s2S, kl0, kl1, kl2, kl3, sp0, sp1, sp2, sp3, cn1, cn2, cn3, cn4, cn5, cn6, jJa, lk0, lk1, jmS, jmN, s4_0, s4_1, s4_2, s4_3, s4_4, sw0, sw1, cKs, cKn, true_and, and_true, List.map_cons, List.map_nil, Nat.reduceAdd, Nat.zero_add, Int.reduceAdd, Nat.reduceEqDiff, reduceIte, Classical.not_not, b_Md_numbers, shMd, up_rd, Int.reduceEq, and_false, false_and, and_self, reduceIte, not_true_eq_false, not_false_eq_true, false_imp_iff, true_imp_iff, true_or, or_true]
        have loop : ∀ (r j : Nat) (K : AM), j + r = k → Same [135, 136, 137] N K → (∀ l : Nat, l < 4 → l ≠ i → K 135 l = N 135 l ∧ K 136 l = N 136 l ∧ ∀ j : Nat, j < 40 → K 137 (40 * (l : Int) + j) = N 137 (40 * (l : Int) + j)) → K 135 i = s → K 136 i = k → (∀ l : Nat, l < j → K 137 (40 * (i : Int) + l) = 0) → AW G d mi_Md_numbers Q 64 [some (vr 117), some (vi i), some (vi s), some (vi k), some (vi j)] [] K := by
          intro r
          induction r with
          | zero =>
            intro j K hj hs h4 h5 h6 h7
            refine AW.run ck_Md_numbers [64] 10 64 ?_
            simp only [wR, wB, wE0, wE1, wE2, wE3, g0, gS, s10, s11, s1S, s20, s21, s2S, kl0, kl1, kl2, kl3, sp0, sp1, sp2, sp3, cn1, cn2, cn3, cn4, cn5, cn6, jJa, lk0, lk1, jmS, jmN, s4_0, s4_1, s4_2, s4_3, s4_4, sw0, sw1, cKs, cKn, true_and, and_true, List.map_cons, List.map_nil, Nat.reduceAdd, Nat.zero_add, Int.reduceAdd, Nat.reduceEqDiff, reduceIte, Classical.not_not, b_Md_numbers, shMd]
            subst hQ
            rw [if_pos (by omega), if_pos (by omega), if_pos (by omega), Int.toNat_natCast, Int.toNat_natCast]
            have c1 : MR K (σ.setTr i (s, k, fun _ => 0)) := hR'.tr hi (fun l hl => (ok.2.2.2.2.2.2.1 l hl).2.2) (hs.mono (by simp)) (fun y _ => hs.at 117 y (by (first | decide | (simp only [List.mem_cons, List.not_mem_nil, or_false, not_or, not_false_eq_true, and_true]; omega) | (simp [List.mem_cons]; done)))) h4 ⟨h5, fun _ => ⟨h6, fun l hl => h7 l (by have : l < k := hl; omega)⟩⟩
            have c2 : Lo M K := hlo.trans (hs.lo (by intro x hx; simp only [List.mem_cons, List.not_mem_nil, or_false] at hx; omega))
            (repeat' (first | omega | exact ⟨by omega, by omega⟩ | (with_reducible exact Or.inr trivial) | (with_reducible exact Or.inl trivial) | (with_reducible assumption) | (with_reducible exact Same.refl) | (with_reducible rfl) | (with_reducible refine And.intro ?_ ?_) | (with_reducible intro _)))
          | succ r ih =>
            intro j K hj hs h4 h5 h6 h7
            refine AW.run ck_Md_numbers [64] 10 64 ?_
            simp only [wR, wB, wE0, wE1, wE2, wE3, g0, gS, s10, s11, s1S, s20, s21, s2S, kl0, kl1, kl2, kl3, sp0, sp1, sp2, sp3, cn1, cn2, cn3, cn4, cn5, cn6, jJa, lk0, lk1, jmS, jmN, s4_0, s4_1, s4_2, s4_3, s4_4, sw0, sw1, cKs, cKn, true_and, and_true, List.map_cons, List.map_nil, Nat.reduceAdd, Nat.zero_add, Int.reduceAdd, Nat.reduceEqDiff, reduceIte, Classical.not_not, b_Md_numbers, shMd, ce]
            (repeat' (first | omega | exact ⟨by omega, by omega⟩ | (with_reducible exact Or.inr trivial) | (with_reducible exact Or.inl trivial) | (with_reducible assumption) | (with_reducible exact Same.refl) | (with_reducible rfl) | (with_reducible refine And.intro ?_ ?_) | (with_reducible intro _)))
            refine ih (j + 1) _ (by omega) (hs.up (by simp)) (fun l hl hne => ?_) (by rw [up_ne1 (by omega)]; exact h5) (by rw [up_ne1 (by omega)]; exact h6) (fun l hl => ?_)
            · obtain ⟨u1, u2, u3⟩ := h4 l hl hne
              refine ⟨by rw [up_ne1 (by omega)]; exact u1, by rw [up_ne1 (by omega)]; exact u2, fun j' hj' => by rw [up_ne2 (by omega)]; exact u3 j' hj'⟩
            · by_cases e : l = j
              · subst e; rw [up_eq]
              · rw [up_ne2 (by omega)]; exact h7 l (by omega)
        refine AW.run ck_Md_numbers [64] 10 47 ?_
        simp only [wR, wB, wE0, wE1, wE2, wE3, g0, gS, s10, s11, s1S, s20, s21, s2S, kl0, kl1, kl2, kl3, sp0, sp1, sp2, sp3, cn1, cn2, cn3, cn4, cn5, cn6, jJa, lk0, lk1, jmS, jmN, s4_0, s4_1, s4_2, s4_3, s4_4, sw0, sw1, cKs, cKn, true_and, and_true, List.map_cons, List.map_nil, Nat.reduceAdd, Nat.zero_add, Int.reduceAdd, Nat.reduceEqDiff, reduceIte, Classical.not_not, b_Md_numbers, shMd]
        (repeat' (first | omega | exact ⟨by omega, by omega⟩ | (with_reducible exact Or.inr trivial) | (with_reducible exact Or.inl trivial) | (with_reducible assumption) | (with_reducible exact Same.refl) | (with_reducible rfl) | (with_reducible refine And.intro ?_ ?_) | (with_reducible intro _)))
        refine loop k 0 _ (by omega) ((Same.refl.up (by simp)).up (by simp)) (fun l hl hne => ?_) (by rw [up_ne1 (by omega), up_eq]) (by rw [up_eq]) (fun l hl => absurd hl (by omega))
        refine ⟨by rw [up_ne1 (by omega), up_ne2 (by omega)], by rw [up_ne2 (by omega), up_ne1 (by omega)], fun j' hj' => by rw [up_ne1 (by omega), up_ne1 (by omega)]⟩
      · rw [if_neg q3]
        simp only [wR, wB, wE0, wE1, wE2, wE3, g0, gS, s10, s11, s1S, s20, s21, s2S, kl0, kl1, kl2, kl3, sp0, sp1, sp2, sp3, cn1, cn2, cn3, cn4, cn5, cn6, jJa, lk0, lk1, jmS, jmN, s4_0, s4_1, s4_2, s4_3, s4_4, sw0, sw1, cKs, cKn, true_and, and_true, List.map_cons, List.map_nil, Nat.reduceAdd, Nat.zero_add, Int.reduceAdd, Nat.reduceEqDiff, reduceIte, Classical.not_not, b_Md_numbers, shMd, up_rd, Int.reduceEq, and_false, false_and, and_self, reduceIte, not_true_eq_false, not_false_eq_true, false_imp_iff, true_imp_iff, true_or, or_true]
        subst hQ
        rw [if_pos (by omega), if_neg q3, if_neg (fun h => q3 h.2)]
        exact ⟨rfl, hR', hlo⟩
    · rw [if_neg q2]
      simp only [wR, wB, wE0, wE1, wE2, wE3, g0, gS, s10, s11, s1S, s20, s21, s2S, kl0, kl1, kl2, kl3, sp0, sp1, sp2, sp3, cn1, cn2, cn3, cn4, cn5, cn6, jJa, lk0, lk1, jmS, jmN, s4_0, s4_1, s4_2, s4_3, s4_4, sw0, sw1, cKs, cKn, true_and, and_true, List.map_cons, List.map_nil, Nat.reduceAdd, Nat.zero_add, Int.reduceAdd, Nat.reduceEqDiff, reduceIte, Classical.not_not, b_Md_numbers, shMd, up_rd, Int.reduceEq, and_false, false_and, and_self, reduceIte, not_true_eq_false, not_false_eq_true, false_imp_iff, true_imp_iff, true_or, or_true]
      exact a29 (by omega)
  · rw [if_neg q]
    simp only [wR, wB, wE0, wE1, wE2, wE3, g0, gS, s10, s11, s1S, s20, s21, s2S, kl0, kl1, kl2, kl3, sp0, sp1, sp2, sp3, cn1, cn2, cn3, cn4, cn5, cn6, jJa, lk0, lk1, jmS, jmN, s4_0, s4_1, s4_2, s4_3, s4_4, sw0, sw1, cKs, cKn, true_and, and_true, List.map_cons, List.map_nil, Nat.reduceAdd, Nat.zero_add, Int.reduceAdd, Nat.reduceEqDiff, reduceIte, Classical.not_not, b_Md_numbers, shMd, up_rd, Int.reduceEq, and_false, false_and, and_self, reduceIte, not_true_eq_false, not_false_eq_true, false_imp_iff, true_imp_iff, true_or, or_true]
    exact a29 (by omega)
theorem c_H_write {t i v : Int} {B : Nat} {σ : Sg} (hd : 5 ≤ d) (ok : SgOK B σ) (hR : CR M σ) : MS G d mi_H_write [vr 0, vi t, vi i, vl v] M (fun r M' => r = some (vl (aWrite σ t i v)) ∧ CR M' (sWrite σ t i v) ∧ Hi M M') := by
  obtain ⟨z, hs, hM, hp, hT⟩ := hR.z
  refine MS.by ck_H_write [some (vr 0), some (vi t), some (vi i), some (vl v), none, none, none] fun _ _ => ?_
  unfold aWrite sWrite
  generalize hQ : (fun (r : Option AV) (M' : AM) => r = some (vl (if aTr σ t = 0 then (if 0 ≤ i ∧ i < ((σ.tr t.toNat).2.1 : Int) then cutv (σ.tr t.toNat).1 v else -7) else aTr σ t)) ∧ CR M' (if aTr σ t = 0 ∧ 0 ≤ i ∧ i < ((σ.tr t.toNat).2.1 : Int) then σ.setTr t.toNat ((σ.tr t.toNat).1, (σ.tr t.toNat).2.1, fun k => if k = i.toNat then cutv (σ.tr t.toNat).1 v else (σ.tr t.toNat).2.2 k) else σ) ∧ Hi M M') = Q
  refine AW.run ck_H_write [16] 10 0 ?_
  simp only [wR, wB, wE0, wE1, wE2, wE3, g0, gS, s10, s11, s1S, s20, s21, s2S, kl0, kl1, kl2, kl3, sp0, sp1, sp2, sp3, cn1, cn2, cn3, cn4, cn5, cn6, jJa, lk0, lk1, jmS, jmN, s4_0, s4_1, s4_2, s4_3, s4_4, sw0, sw1, cKs, cKn, true_and, and_true, List.map_cons, List.map_nil, Nat.reduceAdd, Nat.zero_add, Int.reduceAdd, Nat.reduceEqDiff, reduceIte, Classical.not_not, b_H_write, shH]
  refine ⟨by omega, MS.to (c_H_refusedTray (d := d - 1) (by omega) hT) fun _ => ?_⟩
  simp only [wR, wB, wE0, wE1, wE2, wE3, g0, gS, s10, s11, s1S, s20, s21, s2S, kl0, kl1, kl2, kl3, sp0, sp1, sp2, sp3, cn1, cn2, cn3, cn4, cn5, cn6, jJa, lk0, lk1, jmS, jmN, s4_0, s4_1, s4_2, s4_3, s4_4, sw0, sw1, cKs, cKn, true_and, and_true, List.map_cons, List.map_nil, Nat.reduceAdd, Nat.zero_add, Int.reduceAdd, Nat.reduceEqDiff, reduceIte, Classical.not_not, b_H_write, shH]
  by_cases q : aTr σ t = 0
  · (repeat' (first | omega | exact ⟨by omega, by omega⟩ | (with_reducible exact Or.inr trivial) | (with_reducible exact Or.inl trivial) | (with_reducible assumption) | (with_reducible exact Same.refl) | (with_reducible rfl) | (with_reducible refine And.intro ?_ ?_) | (with_reducible intro _)))
    obtain ⟨j, rfl, hj, hne⟩ := aTr_0 q
    obtain ⟨t1, t2, t3, t4⟩ := hT j hj
    obtain ⟨t5, t6⟩ := t4 hne
    rw [if_neg hne] at t2
    have ho := tr_O j hj
    have ht40 := (ok.2.2.2.2.2.2.1 j hj).2.2
    have a37 : ¬ (0 ≤ i ∧ i < ((σ.tr j).2.1 : Int)) → AW G d mi_H_write Q 37 [some (vr 0), some (vi j), some (vi i), some (vl v), none, some (vi (aTr σ j)), some (vr (87 + 2 * (j : Int)))] [] M := by
      intro q2
      refine AW.run ck_H_write [] 10 37 ?_
      simp only [wR, wB, wE0, wE1, wE2, wE3, g0, gS, s10, s11, s1S, s20, s21, s2S, kl0, kl1, kl2, kl3, sp0, sp1, sp2, sp3, cn1, cn2, cn3, cn4, cn5, cn6, jJa, lk0, lk1, jmS, jmN, s4_0, s4_1, s4_2, s4_3, s4_4, sw0, sw1, cKs, cKn, true_and, and_true, List.map_cons, List.map_nil, Nat.reduceAdd, Nat.zero_add, Int.reduceAdd, Nat.reduceEqDiff, reduceIte, Classical.not_not, b_H_write]
      subst hQ
      rw [if_pos q, Int.toNat_natCast, if_neg q2, if_neg (fun h => q2 h.2)]
      exact ⟨rfl, hR, Hi.refl⟩
    refine AW.run ck_H_write [37] 10 16 ?_
    simp only [wR, wB, wE0, wE1, wE2, wE3, g0, gS, s10, s11, s1S, s20, s21, s2S, kl0, kl1, kl2, kl3, sp0, sp1, sp2, sp3, cn1, cn2, cn3, cn4, cn5, cn6, jJa, lk0, lk1, jmS, jmN, s4_0, s4_1, s4_2, s4_3, s4_4, sw0, sw1, cKs, cKn, true_and, and_true, List.map_cons, List.map_nil, Nat.reduceAdd, Nat.zero_add, Int.reduceAdd, Nat.reduceEqDiff, reduceIte, Classical.not_not, b_H_write, shH, shR0, l30, t1, ho, t2]
    (repeat' (first | omega | exact ⟨by omega, by omega⟩ | (with_reducible exact Or.inr trivial) | (with_reducible exact Or.inl trivial) | (with_reducible assumption) | (with_reducible exact Same.refl) | (with_reducible rfl) | (with_reducible refine And.intro ?_ ?_) | (with_reducible intro _)))
    · exact a37 (by omega)
    · obtain ⟨k, rfl⟩ := Int.eq_ofNat_of_zero_le (show 0 ≤ i by omega)
      refine MS.to (c_Tr_put (d := d - 1) (by omega) ho t3 (by omega)) fun _ => ?_
      rw [t2, if_pos (by omega), t5]
      simp only [wR, wB, wE0, wE1, wE2, wE3, g0, gS, s10, s11, s1S, s20, s21, s2S, kl0, kl1, kl2, kl3, sp0, sp1, sp2, sp3, cn1, cn2, cn3, cn4, cn5, cn6, jJa, lk0, lk1, jmS, jmN, s4_0, s4_1, s4_2, s4_3, s4_4, sw0, sw1, cKs, cKn, true_and, and_true, List.map_cons, List.map_nil, Nat.reduceAdd, Nat.zero_add, Int.reduceAdd, Nat.reduceEqDiff, reduceIte, Classical.not_not, b_H_write, shH, ho]
      (repeat' (first | omega | exact ⟨by omega, by omega⟩ | (with_reducible exact Or.inr trivial) | (with_reducible exact Or.inl trivial) | (with_reducible assumption) | (with_reducible exact Same.refl) | (with_reducible rfl) | (with_reducible refine And.intro ?_ ?_) | (with_reducible intro _)))
      refine MS.to (c_Tr_at ho) fun _ => ?_
      rw [if_pos (by omega), up_eq]
      simp only [wR, wB, wE0, wE1, wE2, wE3, g0, gS, s10, s11, s1S, s20, s21, s2S, kl0, kl1, kl2, kl3, sp0, sp1, sp2, sp3, cn1, cn2, cn3, cn4, cn5, cn6, jJa, lk0, lk1, jmS, jmN, s4_0, s4_1, s4_2, s4_3, s4_4, sw0, sw1, cKs, cKn, true_and, and_true, List.map_cons, List.map_nil, Nat.reduceAdd, Nat.zero_add, Int.reduceAdd, Nat.reduceEqDiff, reduceIte, Classical.not_not, b_H_write]
      subst hQ
      rw [if_pos q, Int.toNat_natCast, if_pos (by omega), if_pos (by omega), Int.toNat_natCast]
      have hsm : Same [87 + 2 * (j : Int), 88 + 2 * (j : Int)] M (up M (87 + 2 * (j : Int) + 1) k (cutv (σ.tr j).1 v)) := Same.refl.up (by rw [show 87 + 2 * (j : Int) + 1 = 88 + 2 * (j : Int) by omega]; simp)
      refine ⟨rfl, hR.tr hj hsm ⟨?_, ?_, ?_, fun _ => ⟨?_, fun l hl => ?_⟩⟩, fun x hx => hsm x (by (first | decide | (simp only [List.mem_cons, List.not_mem_nil, or_false, not_or, not_false_eq_true, and_true]; omega) | (simp [List.mem_cons]; done)))⟩
      · rw [hsm.at 30 _ (by (first | decide | (simp only [List.mem_cons, List.not_mem_nil, or_false, not_or, not_false_eq_true, and_true]; omega) | (simp [List.mem_cons]; done)))]; exact t1
      · show _ = if (σ.tr j).1 = -1 then -1 else ((σ.tr j).2.1 : Int)
        rw [if_neg hne, up_ne1 (by omega)]; exact t2
      · rw [up_ne1 (by omega)]; exact t3
      · rw [up_ne1 (by omega)]; exact t5
      · show _ = if l = k then cutv (σ.tr j).1 v else (σ.tr j).2.2 l
        rw [show 87 + 2 * (j : Int) + 1 = 88 + 2 * (j : Int) by omega]
        by_cases e : l = k
        · subst e; rw [up_eq, if_pos rfl]
        · rw [up_ne2 (by omega), if_neg e]; exact t6 l hl
    · exact a37 (by omega)
  · (repeat' (first | omega | exact ⟨by omega, by omega⟩ | (with_reducible exact Or.inr trivial) | (with_reducible exact Or.inl trivial) | (with_reducible assumption) | (with_reducible exact Same.refl) | (with_reducible rfl) | (with_reducible refine And.intro ?_ ?_) | (with_reducible intro _)))
    subst hQ
    rw [if_neg q, if_neg (fun h => q h.1)]
    exact ⟨rfl, hR, Hi.refl⟩
theorem c_Md_cut {s v : Int} : MS G d mi_Md_cut [vl v, vi s] M (fun r M' => r = some (vl (cutv s v)) ∧ M' = M) := by
  have h8 := w8_i (w3 v)
  refine MS.run ck_Md_cut [some (vl v), none, some (vi s)] [] 10 fun _ _ => ?_
  simp only [wR, wB, wE0, wE1, wE2, wE3, g0, gS, s10, s11, s1S, s20, s21, s2S, kl0, kl1, kl2, kl3, sp0, sp1, sp2, sp3, cn1, cn2, cn3, cn4, cn5, cn6, jJa, lk0, lk1, jmS, jmN, s4_0, s4_1, s4_2, s4_3, s4_4, sw0, sw1, cKs, cKn, true_and, and_true, List.map_cons, List.map_nil, Nat.reduceAdd, Nat.zero_add, Int.reduceAdd, Nat.reduceEqDiff, reduceIte, Classical.not_not, b_Md_cut]
  unfold cutv
  (repeat' (first | omega | exact ⟨by omega, by omega⟩ | (with_reducible exact Or.inr trivial) | (with_reducible exact Or.inl trivial) | (with_reducible assumption) | (with_reducible exact Same.refl) | (with_reducible rfl) | (with_reducible refine And.intro ?_ ?_) | (with_reducible intro _)))
  all_goals first | rw [if_pos (by omega)] | rw [if_neg (by omega), if_pos (by omega)] | rw [if_neg (by omega), if_neg (by omega), if_pos (by omega)] | rw [if_neg (by omega), if_neg (by omega), if_neg (by omega)]
theorem c_Md_write {t i v : Int} {B : Nat} {σ : Sg} (hd : 5 ≤ d) (ok : SgOK B σ) (hR : MR M σ) : MS G d mi_Md_write [vr 117, vi t, vi i, vl v] M (fun r M' => r = some (vl (aWrite σ t i v)) ∧ MR M' (sWrite σ t i v) ∧ Lo M M') := by
  have hR' := hR.thr
  refine MS.by ck_Md_write [some (vr 117), some (vi t), some (vi i), some (vl v), none, none] fun _ _ => ?_
  unfold aWrite sWrite
  generalize hQ : (fun (r : Option AV) (M' : AM) => r = some (vl (if aTr σ t = 0 then (if 0 ≤ i ∧ i < ((σ.tr t.toNat).2.1 : Int) then cutv (σ.tr t.toNat).1 v else -7) else aTr σ t)) ∧ MR M' (if aTr σ t = 0 ∧ 0 ≤ i ∧ i < ((σ.tr t.toNat).2.1 : Int) then σ.setTr t.toNat ((σ.tr t.toNat).1, (σ.tr t.toNat).2.1, fun k => if k = i.toNat then cutv (σ.tr t.toNat).1 v else (σ.tr t.toNat).2.2 k) else σ) ∧ Lo M M') = Q
  refine AW.run ck_Md_write [21] 10 0 ?_
  simp only [wR, wB, wE0, wE1, wE2, wE3, g0, gS, s10, s11, s1S, s20, s21, s2S, kl0, kl1, kl2, kl3, sp0, sp1, sp2, sp3, cn1, cn2, cn3, cn4, cn5, cn6, jJa, lk0, lk1, jmS, jmN, s4_0, s4_1, s4_2, s4_3, s4_4, sw0, sw1, cKs, cKn, true_and, and_true, List.map_cons, List.map_nil, Nat.reduceAdd, Nat.zero_add, Int.reduceAdd, Nat.reduceEqDiff, reduceIte, Classical.not_not, b_Md_write, shMd]
  have hlo : Lo M (up M 117 0 0) := thr_lo
  generalize up M 117 0 0 = N at hR' hlo ⊢
  refine ⟨by omega, MS.to (c_Md_noTray (d := d - 1) (by omega) hR') fun _ => ?_⟩
  simp only [wR, wB, wE0, wE1, wE2, wE3, g0, gS, s10, s11, s1S, s20, s21, s2S, kl0, kl1, kl2, kl3, sp0, sp1, sp2, sp3, cn1, cn2, cn3, cn4, cn5, cn6, jJa, lk0, lk1, jmS, jmN, s4_0, s4_1, s4_2, s4_3, s4_4, sw0, sw1, cKs, cKn, true_and, and_true, List.map_cons, List.map_nil, Nat.reduceAdd, Nat.zero_add, Int.reduceAdd, Nat.reduceEqDiff, reduceIte, Classical.not_not, b_Md_write, shMd]
  by_cases q : aTr σ t = 0
  · (repeat' (first | omega | exact ⟨by omega, by omega⟩ | (with_reducible exact Or.inr trivial) | (with_reducible exact Or.inl trivial) | (with_reducible assumption) | (with_reducible exact Same.refl) | (with_reducible rfl) | (with_reducible refine And.intro ?_ ?_) | (with_reducible intro _)))
    obtain ⟨j, rfl, hj, hne⟩ := aTr_0 q
    obtain ⟨g1, g2⟩ := hR'.2.2.2.2.2.1 j hj
    obtain ⟨t1, t2⟩ := g2 hne
    have ht40 := (ok.2.2.2.2.2.2.1 j hj).2.2
    refine AW.run ck_Md_write [43] 10 21 ?_
    simp only [wR, wB, wE0, wE1, wE2, wE3, g0, gS, s10, s11, s1S, s20, s21, s2S, kl0, kl1, kl2, kl3, sp0, sp1, sp2, sp3, cn1, cn2, cn3, cn4, cn5, cn6, jJa, lk0, lk1, jmS, jmN, s4_0, s4_1, s4_2, s4_3, s4_4, sw0, sw1, cKs, cKn, true_and, and_true, List.map_cons, List.map_nil, Nat.reduceAdd, Nat.zero_add, Int.reduceAdd, Nat.reduceEqDiff, reduceIte, Classical.not_not, b_Md_write, shMd, t1]
    (repeat' (first | omega | exact ⟨by omega, by omega⟩ | (with_reducible exact Or.inr trivial) | (with_reducible exact Or.inl trivial) | (with_reducible assumption) | (with_reducible exact Same.refl) | (with_reducible rfl) | (with_reducible refine And.intro ?_ ?_) | (with_reducible intro _)))
    refine MS.to c_Md_within fun _ => ?_
    simp only [wR, wB, wE0, wE1, wE2, wE3, g0, gS, s10, s11, s1S, s20, s21, s2S, kl0, kl1, kl2, kl3, sp0, sp1, sp2, sp3, cn1, cn2, cn3, cn4, cn5, cn6, jJa, lk0, lk1, jmS, jmN, s4_0, s4_1, s4_2, s4_3, s4_4, sw0, sw1, cKs, cKn, true_and, and_true, List.map_cons, List.map_nil, Nat.reduceAdd, Nat.zero_add, Int.reduceAdd, Nat.reduceEqDiff, reduceIte, Classical.not_not, b_Md_write, shMd]
    by_cases q2 : 0 ≤ i ∧ i < ((σ.tr j).2.1 : Int)
    · obtain ⟨k, rfl⟩ := Int.eq_ofNat_of_zero_le q2.1
      rw [if_pos (by omega)]
      (repeat' (first | omega | exact ⟨by omega, by omega⟩ | (with_reducible exact Or.inr trivial) | (with_reducible exact Or.inl trivial) | (with_reducible assumption) | (with_reducible exact Same.refl) | (with_reducible rfl) | (with_reducible refine And.intro ?_ ?_) | (with_reducible intro _)))
      refine AW.run ck_Md_write [] 10 43 ?_
      simp only [wR, wB, wE0, wE1, wE2, wE3, g0, gS, s10, s11, s1S, s20, s21, s2S, kl0, kl1, kl2, kl3, sp0, sp1, sp2, sp3, cn1, cn2, cn3, cn4, cn5, cn6, jJa, lk0, lk1, jmS, jmN, s4_0, s4_1, s4_2, s4_3, s4_4, sw0, sw1, cKs, cKn, true_and, and_true, List.map_cons, List.map_nil, Nat.reduceAdd, Nat.zero_add, Int.reduceAdd, Nat.reduceEqDiff, reduceIte, Classical.not_not, b_Md_write, shMd, g1]
      (repeat' (first | omega | exact ⟨by omega, by omega⟩ | (with_reducible exact Or.inr trivial) | (with_reducible exact Or.inl trivial) | (with_reducible assumption) | (with_reducible exact Same.refl) | (with_reducible rfl) | (with_reducible refine And.intro ?_ ?_) | (with_reducible intro _)))
      refine MS.to c_Md_cut fun _ => ?_
      simp only [wR, wB, wE0, wE1, wE2, wE3, g0, gS, s10, s11, s1S, s20, s21, s2S, kl0, kl1, kl2, kl3, sp0, sp1, sp2, sp3, cn1, cn2, cn3, cn4, cn5, cn6, jJa, lk0, lk1, jmS, jmN, s4_0, s4_1, s4_2, s4_3, s4_4, sw0, sw1, cKs, cKn, true_and, and_true, List.map_cons, List.map_nil, Nat.reduceAdd, Nat.zero_add, Int.reduceAdd, Nat.reduceEqDiff, reduceIte, Classical.not_not, b_Md_write, shMd]
      rw [up_eq]
      subst hQ
      rw [if_pos q, Int.toNat_natCast, if_pos q2, if_pos ⟨q, q2⟩, Int.toNat_natCast]
      have c1 : MR (up N 137 (40 * (j : Int) + k) (cutv (σ.tr j).1 v)) (σ.setTr j ((σ.tr j).1, (σ.tr j).2.1, fun l => if l = k then cutv (σ.tr j).1 v else (σ.tr j).2.2 l)) := by
        refine hR'.tr hj (fun l hl => (ok.2.2.2.2.2.2.1 l hl).2.2) (Same.refl.up (by simp)) (fun y _ => up_ne1 (by omega)) (fun l hl hne => ⟨up_ne1 (by omega), up_ne1 (by omega), fun j' hj' => up_ne2 (by omega)⟩) ⟨by rw [up_ne1 (by omega)]; exact g1, fun _ => ⟨by rw [up_ne1 (by omega)]; exact t1, fun l hl => ?_⟩⟩
        show _ = if l = k then cutv (σ.tr j).1 v else (σ.tr j).2.2 l
        by_cases e : l = k
        · subst e; rw [up_eq, if_pos rfl]
        · rw [up_ne2 (by omega), if_neg e]; exact t2 l hl
      have c2 : Lo M (up N 137 (40 * (j : Int) + k) (cutv (σ.tr j).1 v)) := hlo.trans (fun x hx => by funext y; exact up_ne1 (by omega))
      (repeat' (first | omega | exact ⟨by omega, by omega⟩ | (with_reducible exact Or.inr trivial) | (with_reducible exact Or.inl trivial) | (with_reducible assumption) | (with_reducible exact Same.refl) | (with_reducible rfl) | (with_reducible refine And.intro ?_ ?_) | (with_reducible intro _)))
    · rw [if_neg (by omega)]
      (repeat' (first | omega | exact ⟨by omega, by omega⟩ | (with_reducible exact Or.inr trivial) | (with_reducible exact Or.inl trivial) | (with_reducible assumption) | (with_reducible exact Same.refl) | (with_reducible rfl) | (with_reducible refine And.intro ?_ ?_) | (with_reducible intro _)))
      subst hQ
      rw [if_pos q, Int.toNat_natCast, if_neg q2, if_neg (fun h => q2 h.2)]
      exact ⟨rfl, hR', hlo⟩
  · (repeat' (first | omega | exact ⟨by omega, by omega⟩ | (with_reducible exact Or.inr trivial) | (with_reducible exact Or.inl trivial) | (with_reducible assumption) | (with_reducible exact Same.refl) | (with_reducible rfl) | (with_reducible refine And.intro ?_ ?_) | (with_reducible intro _)))
    subst hQ
    rw [if_neg q, if_neg (fun h => q h.1)]
    exact ⟨rfl, hR', hlo⟩
end SO
