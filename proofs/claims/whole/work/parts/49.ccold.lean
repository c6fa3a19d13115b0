/-! how cold it is, what to try: the class -/
def aRN (σ : Sg) (t most lo hi : Int) : Int := if aTr σ t = 0 then (if ((σ.tr t.toNat).2.1 : Int) < 1 ∨ most < ((σ.tr t.toNat).2.1 : Int) then -4 else if (∀ i, i < (σ.tr t.toNat).2.1 → lo ≤ (σ.tr t.toNat).2.2 i ∧ (σ.tr t.toNat).2.2 i ≤ hi) then 0 else -3) else aTr σ t
theorem aRN_0 {σ : Sg} {t most lo hi : Int} (h : aRN σ t most lo hi = 0) : ∃ i : Nat, t = i ∧ i < 4 ∧ (σ.tr i).1 ≠ -1 ∧ 1 ≤ (σ.tr i).2.1 ∧ ((σ.tr i).2.1 : Int) ≤ most ∧ ∀ k, k < (σ.tr i).2.1 → lo ≤ (σ.tr i).2.2 k ∧ (σ.tr i).2.2 k ≤ hi := by
  unfold aRN at h
  by_cases q : aTr σ t = 0
  · rw [if_pos q] at h
    obtain ⟨i, rfl, hi4, hne⟩ := aTr_0 q
    rw [Int.toNat_natCast] at h
    by_cases q2 : ((σ.tr i).2.1 : Int) < 1 ∨ most < ((σ.tr i).2.1 : Int)
    · rw [if_pos q2] at h; omega
    · rw [if_neg q2] at h
      refine ⟨i, rfl, hi4, hne, by omega, by omega, ?_⟩
      by_cases q3 : ∀ k, k < (σ.tr i).2.1 → lo ≤ (σ.tr i).2.2 k ∧ (σ.tr i).2.2 k ≤ hi
      · exact q3
      · rw [if_neg q3] at h; omega
  · rw [if_neg q] at h; exact absurd h q
def tirS (h : Hl) (sd : Nat → Nat) (c p s0 : Nat) : Nat → Nat
  | 0 => s0
  | i + 1 => tired h sd c (if 0 < tirS h sd c p s0 i then 2 ^ p else 0) p (tirS h sd c p s0 i)
theorem tirS_le {h : Hl} {sd : Nat → Nat} {c p s0 : Nat} (h0 : s0 ≤ 4) : ∀ i, tirS h sd c p s0 i ≤ 4
  | 0 => h0
  | _ + 1 => tired_le _ _ _ _ _ _
def tirOK (h : Hl) (sd : Nat → Nat) (c p s0 : Nat) (v : Nat → Int) (n : Nat) : Bool := decide (∀ i, i < n → (tirS h sd c p s0 (i + 1) : Int) = v i)
def coldsN (σ : Sg) (i p : Nat) : Nat := bitsP (fun c => tirOK σ.h σ.m.sd c p (σ.m.st p) (σ.tr i).2.2 (σ.tr i).2.1) 10
def aRT (σ : Sg) (t p : Int) : Int := if 0 ≤ p ∧ p < (σ.h.P : Int) then aRN σ t 10 0 4 else -2
def aColds (σ : Sg) (t p : Int) : Int := if aRT σ t p = 0 then (coldsN σ t.toNat p.toNat : Int) else aRT σ t p
section CC2
variable {G : AG} {d : Nat} {M : AM}
theorem c_H_refusedNumbers {t most lo hi : Int} {B : Nat} {σ : Sg} (hd : 5 ≤ d) (ok : SgOK B σ) (hR : CR M σ) : MS G d mi_H_refusedNumbers [vr 0, vi t, vi most, vi lo, vi hi] M (fun r M' => r = some (vi (aRN σ t most lo hi)) ∧ M' = M) := by
  obtain ⟨z, hs, hM, hp, hT⟩ := hR.z
  refine MS.by ck_H_refusedNumbers [some (vr 0), some (vi t), some (vi most), some (vi lo), some (vi hi), none, none] fun _ _ => ?_
  unfold aRN
  generalize hQ : (fun (r : Option AV) (M' : AM) => r = some (vi (if aTr σ t = 0 then (if ((σ.tr t.toNat).2.1 : Int) < 1 ∨ most < ((σ.tr t.toNat).2.1 : Int) then -4 else if (∀ i, i < (σ.tr t.toNat).2.1 → lo ≤ (σ.tr t.toNat).2.2 i ∧ (σ.tr t.toNat).2.2 i ≤ hi) then 0 else -3) else aTr σ t)) ∧ M' = M) = Q
  refine AW.run ck_H_refusedNumbers [15] 10 0 ?_
  simp only [wR, wB, wE0, wE1, wE2, wE3, g0, gS, s10, s11, s1S, s20, s21, s2S, kl0, kl1, kl2, kl3, sp0, sp1, sp2, sp3, cn1, cn2, cn3, cn4, cn5, cn6, jJa, lk0, lk1, jmS, jmN, s4_0, s4_1, s4_2, s4_3, s4_4, sw0, sw1, cKs, cKn, true_and, and_true, List.map_cons, List.map_nil, Nat.reduceAdd, Nat.zero_add, Int.reduceAdd, Nat.reduceEqDiff, reduceIte, Classical.not_not, b_H_refusedNumbers, shH]
  refine ⟨by omega, MS.to (c_H_refusedTray (d := d - 1) (by omega) hT) fun _ => ?_⟩
  simp only [wR, wB, wE0, wE1, wE2, wE3, g0, gS, s10, s11, s1S, s20, s21, s2S, kl0, kl1, kl2, kl3, sp0, sp1, sp2, sp3, cn1, cn2, cn3, cn4, cn5, cn6, jJa, lk0, lk1, jmS, jmN, s4_0, s4_1, s4_2, s4_3, s4_4, sw0, sw1, cKs, cKn, true_and, and_true, List.map_cons, List.map_nil, Nat.reduceAdd, Nat.zero_add, Int.reduceAdd, Nat.reduceEqDiff, reduceIte, Classical.not_not, b_H_refusedNumbers, shH]
  by_cases q : aTr σ t = 0
  · (repeat' (first | omega | exact ⟨by omega, by omega⟩ | (with_reducible exact Or.inr trivial) | (with_reducible exact Or.inl trivial) | (with_reducible assumption) | (with_reducible exact Same.refl) | (with_reducible rfl) | (with_reducible refine And.intro ?_ ?_) | (with_reducible intro _)))
    obtain ⟨j, rfl, hj, hne⟩ := aTr_0 q
    obtain ⟨t1, t2, t3, t4⟩ := hT j hj
    obtain ⟨t5, t6⟩ := t4 hne
    rw [if_neg hne] at t2
    have ho := tr_O j hj
    have ht40 := (ok.2.2.2.2.2.2.1 j hj).2.2
    have a41 : (((σ.tr j).2.1 : Int) < 1 ∨ most < ((σ.tr j).2.1 : Int)) → AW G d mi_H_refusedNumbers Q 41 [some (vr 0), some (vi j), some (vi most), some (vi lo), some (vi hi), some (vi (aTr σ j)), some (vr (87 + 2 * (j : Int)))] [] M := by
      intro q2
      refine AW.run ck_H_refusedNumbers [] 10 41 ?_
      simp only [wR, wB, wE0, wE1, wE2, wE3, g0, gS, s10, s11, s1S, s20, s21, s2S, kl0, kl1, kl2, kl3, sp0, sp1, sp2, sp3, cn1, cn2, cn3, cn4, cn5, cn6, jJa, lk0, lk1, jmS, jmN, s4_0, s4_1, s4_2, s4_3, s4_4, sw0, sw1, cKs, cKn, true_and, and_true, List.map_cons, List.map_nil, Nat.reduceAdd, Nat.zero_add, Int.reduceAdd, Nat.reduceEqDiff, reduceIte, Classical.not_not, b_H_refusedNumbers]
      subst hQ
      rw [if_pos q, Int.toNat_natCast, if_pos q2]
      exact ⟨rfl, rfl⟩
    refine AW.run ck_H_refusedNumbers [41] 10 15 ?_
    simp only [wR, wB, wE0, wE1, wE2, wE3, g0, gS, s10, s11, s1S, s20, s21, s2S, kl0, kl1, kl2, kl3, sp0, sp1, sp2, sp3, cn1, cn2, cn3, cn4, cn5, cn6, jJa, lk0, lk1, jmS, jmN, s4_0, s4_1, s4_2, s4_3, s4_4, sw0, sw1, cKs, cKn, true_and, and_true, List.map_cons, List.map_nil, Nat.reduceAdd, Nat.zero_add, Int.reduceAdd, Nat.reduceEqDiff, reduceIte, Classical.not_not, b_H_refusedNumbers, shH, shR0, l30, t1, ho, t2]
    (repeat' (first | omega | exact ⟨by omega, by omega⟩ | (with_reducible exact Or.inr trivial) | (with_reducible exact Or.inl trivial) | (with_reducible assumption) | (with_reducible exact Same.refl) | (with_reducible rfl) | (with_reducible refine And.intro ?_ ?_) | (with_reducible intro _)))
    · exact a41 (by omega)
    · refine (c_Tr_within ho (by omega)).mono ?_
      rintro r M1 okM1 ⟨⟨x, rfl, x1, x2⟩, rfl⟩
      simp only [wR, wB, wE0, wE1, wE2, wE3, g0, gS, s10, s11, s1S, s20, s21, s2S, kl0, kl1, kl2, kl3, sp0, sp1, sp2, sp3, cn1, cn2, cn3, cn4, cn5, cn6, jJa, lk0, lk1, jmS, jmN, s4_0, s4_1, s4_2, s4_3, s4_4, sw0, sw1, cKs, cKn, true_and, and_true, List.map_cons, List.map_nil, Nat.reduceAdd, Nat.zero_add, Int.reduceAdd, Nat.reduceEqDiff, reduceIte, Classical.not_not, b_H_refusedNumbers]
      have x3 : x = 1 ↔ ∀ i, i < (σ.tr j).2.1 → lo ≤ (σ.tr j).2.2 i ∧ (σ.tr j).2.2 i ≤ hi := by
        rw [x2]
        refine ⟨fun h i hi' => ?_, fun h i i0 i1 => ?_⟩
        · have := h i (by omega) (by omega)
          rw [show 87 + 2 * (j : Int) + 1 = 88 + 2 * (j : Int) by omega, t6 i hi'] at this
          exact this
        · have := h i.toNat (by omega)
          rw [show 87 + 2 * (j : Int) + 1 = 88 + 2 * (j : Int) by omega]
          have e := t6 i.toNat (by omega)
          rw [show ((i.toNat : Nat) : Int) = i by omega] at e
          rw [e]; exact this
      subst hQ
      rw [if_pos q, Int.toNat_natCast, if_neg (by omega)]
      by_cases q3 : x = 1
      · rw [if_pos (x3.mp q3)]
        (repeat' (first | omega | exact ⟨by omega, by omega⟩ | (with_reducible exact Or.inr trivial) | (with_reducible exact Or.inl trivial) | (with_reducible assumption) | (with_reducible exact Same.refl) | (with_reducible rfl) | (with_reducible refine And.intro ?_ ?_) | (with_reducible intro _)))
      · rw [if_neg (fun h => q3 (x3.mpr h))]
        (repeat' (first | omega | exact ⟨by omega, by omega⟩ | (with_reducible exact Or.inr trivial) | (with_reducible exact Or.inl trivial) | (with_reducible assumption) | (with_reducible exact Same.refl) | (with_reducible rfl) | (with_reducible refine And.intro ?_ ?_) | (with_reducible intro _)))
    · exact a41 (by omega)
  · (repeat' (first | omega | exact ⟨by omega, by omega⟩ | (with_reducible exact Or.inr trivial) | (with_reducible exact Or.inl trivial) | (with_reducible assumption) | (with_reducible exact Same.refl) | (with_reducible rfl) | (with_reducible refine And.intro ?_ ?_) | (with_reducible intro _)))
    subst hQ
    rw [if_neg q]
    exact ⟨rfl, rfl⟩
theorem c_H_refusedTired {t p : Int} {B : Nat} {σ : Sg} (hd : 8 ≤ d) (ok : SgOK B σ) (hR : CR M σ) : MS G d mi_H_refusedTired [vr 0, vi t, vi p] M (fun r M' => r = some (vi (aRT σ t p)) ∧ M' = M) := by
  obtain ⟨z, hs, hM, hp, hT⟩ := hR.z
  refine MS.run ck_H_refusedTired [some (vr 0), some (vi t), some (vi p)] [] 10 fun _ _ => ?_
  simp only [wR, wB, wE0, wE1, wE2, wE3, g0, gS, s10, s11, s1S, s20, s21, s2S, kl0, kl1, kl2, kl3, sp0, sp1, sp2, sp3, cn1, cn2, cn3, cn4, cn5, cn6, jJa, lk0, lk1, jmS, jmN, s4_0, s4_1, s4_2, s4_3, s4_4, sw0, sw1, cKs, cKn, true_and, and_true, List.map_cons, List.map_nil, Nat.reduceAdd, Nat.zero_add, Int.reduceAdd, Nat.reduceEqDiff, reduceIte, Classical.not_not, b_H_refusedTired, shH]
  refine ⟨by omega, MS.to (c_H_isPerson hs) fun _ => ?_⟩
  unfold aRT
  by_cases q : 0 ≤ p ∧ p < (σ.h.P : Int)
  · rw [if_pos q, if_pos q]
    simp only [wR, wB, wE0, wE1, wE2, wE3, g0, gS, s10, s11, s1S, s20, s21, s2S, kl0, kl1, kl2, kl3, sp0, sp1, sp2, sp3, cn1, cn2, cn3, cn4, cn5, cn6, jJa, lk0, lk1, jmS, jmN, s4_0, s4_1, s4_2, s4_3, s4_4, sw0, sw1, cKs, cKn, true_and, and_true, List.map_cons, List.map_nil, Nat.reduceAdd, Nat.zero_add, Int.reduceAdd, Nat.reduceEqDiff, reduceIte, Classical.not_not, b_H_refusedTired, shH, up_rd, Int.reduceEq, and_false, false_and, and_self, reduceIte, not_true_eq_false, not_false_eq_true, false_imp_iff, true_imp_iff, true_or, or_true]
    refine ⟨by omega, MS.to (c_H_refusedNumbers (d := d - 1) (by omega) ok hR) fun _ => ?_⟩
    simp only [wR, wB, wE0, wE1, wE2, wE3, g0, gS, s10, s11, s1S, s20, s21, s2S, kl0, kl1, kl2, kl3, sp0, sp1, sp2, sp3, cn1, cn2, cn3, cn4, cn5, cn6, jJa, lk0, lk1, jmS, jmN, s4_0, s4_1, s4_2, s4_3, s4_4, sw0, sw1, cKs, cKn, true_and, and_true, List.map_cons, List.map_nil, Nat.reduceAdd, Nat.zero_add, Int.reduceAdd, Nat.reduceEqDiff, reduceIte, Classical.not_not, b_H_refusedTired]
  · rw [if_neg q, if_neg q]
    simp only [wR, wB, wE0, wE1, wE2, wE3, g0, gS, s10, s11, s1S, s20, s21, s2S, kl0, kl1, kl2, kl3, sp0, sp1, sp2, sp3, cn1, cn2, cn3, cn4, cn5, cn6, jJa, lk0, lk1, jmS, jmN, s4_0, s4_1, s4_2, s4_3, s4_4, sw0, sw1, cKs, cKn, true_and, and_true, List.map_cons, List.map_nil, Nat.reduceAdd, Nat.zero_add, Int.reduceAdd, Nat.reduceEqDiff, reduceIte, Classical.not_not, b_H_refusedTired, shH, up_rd, Int.reduceEq, and_false, false_and, and_self, reduceIte, not_true_eq_false, not_false_eq_true, false_imp_iff, true_imp_iff, true_or, or_true]
theorem c_H_tiresSo {z : Int} {i p c B : Nat} {σ : Sg} (hd : 10 ≤ d) (ok : SgOK B σ) (hs : Chs M z σ) (hM : CM M 25 σ.h.P σ.m) (hi : i < 4) (hT : Ctr M i (σ.tr i)) (hne : (σ.tr i).1 ≠ -1) (hp : p < σ.h.P) (hc : c ≤ 9) :
    MS G d mi_H_tiresSo [vr 0, vr (87 + 2 * (i : Int)), vi p, vi c] M (fun r M' => r = some (vi (if tirOK σ.h σ.m.sd c p (σ.m.st p) (σ.tr i).2.2 (σ.tr i).2.1 = true then 1 else 0)) ∧ Same [z + 7, z + 8] M M') := by
  obtain ⟨t1, t2, t3, t4⟩ := hT
  obtain ⟨t5, t6⟩ := t4 hne
  rw [if_neg hne] at t2
  have ho := tr_O i hi
  have hz := hs.z
  have hzz := hs.2.2.1
  have hok := ok.2.2.1
  have hP := hok.1
  have mok := ok.2.2.2.1.1
  have ht40 := (ok.2.2.2.2.2.2.1 i hi).2.2
  have h2p : 2 ^ p < 32 := Nat.pow_lt_pow_right (a := 2) (n := 5) (by omega) (by omega)
  have e2p : bShl 1 (p : Int) = ((2 ^ p : Nat) : Int) := by rw [show (1 : Int) = ((1 : Nat) : Int) from rfl, bShl_n (by omega) (by omega), Nat.one_mul]
  generalize hv : (σ.tr i).2.2 = v at t6
  generalize hn : (σ.tr i).2.1 = n at t2 t6 ht40
  refine MS.by ck_H_tiresSo [some (vr 0), some (vr (87 + 2 * (i : Int))), some (vi p), some (vi c), none, none, none] fun _ _ => ?_
  generalize hQ : (fun (r : Option AV) (M' : AM) => r = some (vi (if tirOK σ.h σ.m.sd c p (σ.m.st p) v n = true then 1 else 0)) ∧ Same [z + 7, z + 8] M M') = Q
  have loop : ∀ (r k : Nat) (N : AM) (l6 : Option AV), k + r = n → Same [z + 7, z + 8] M N → (∀ j, j < k → (tirS σ.h σ.m.sd c p (σ.m.st p) (j + 1) : Int) = v j) → AW G d mi_H_tiresSo Q 13 [some (vr 0), some (vr (87 + 2 * (i : Int))), some (vi p), some (vi c), some (vi (tirS σ.h σ.m.sd c p (σ.m.st p) k)), some (vi k), l6] [] N := by
    intro r
    induction r with
    | zero =>
      intro k N l6 hk hN hall
      refine AW.run ck_H_tiresSo [34] 10 13 ?_
      simp only [wR, wB, wE0, wE1, wE2, wE3, g0, gS, s10, s11, s1S, s20, s21, s2S, kl0, kl1, kl2, kl3, sp0, sp1, sp2, sp3, cn1, cn2, cn3, cn4, cn5, cn6, jJa, lk0, lk1, jmS, jmN, s4_0, s4_1, s4_2, s4_3, s4_4, sw0, sw1, cKs, cKn, true_and, and_true, List.map_cons, List.map_nil, Nat.reduceAdd, Nat.zero_add, Int.reduceAdd, Nat.reduceEqDiff, reduceIte, Classical.not_not, b_H_tiresSo, shH, ho, hN.at (87 + 2 * (i : Int)) _ (by (first | decide | (simp only [List.mem_cons, List.not_mem_nil, or_false, not_or, not_false_eq_true, and_true]; omega) | (simp [List.mem_cons]; done))), t2]
      subst hQ
      rw [if_pos (by unfold tirOK; rw [decide_eq_true_eq]; intro j hj; exact hall j (by omega))]
      (repeat' (first | omega | exact ⟨by omega, by omega⟩ | (with_reducible exact Or.inr trivial) | (with_reducible exact Or.inl trivial) | (with_reducible assumption) | (with_reducible exact Same.refl) | (with_reducible rfl) | (with_reducible refine And.intro ?_ ?_) | (with_reducible intro _)))
    | succ r ih =>
      intro k N l6 hk hN hall
      have hle := tirS_le (h := σ.h) (sd := σ.m.sd) (c := c) (p := p) (mok.1 p).2 k
      have hle1 := tirS_le (h := σ.h) (sd := σ.m.sd) (c := c) (p := p) (mok.1 p).2 (k + 1)
      have a34 : ∀ s : Nat, s = (if 0 < tirS σ.h σ.m.sd c p (σ.m.st p) k then 2 ^ p else 0) → AW G d mi_H_tiresSo Q 34 [some (vr 0), some (vr (87 + 2 * (i : Int))), some (vi p), some (vi c), some (vi (tirS σ.h σ.m.sd c p (σ.m.st p) k)), some (vi k), l6] [vi s] N := by
        intro s hs'
        have hs32 : s < 32 := by rw [hs']; split <;> omega
        have e0 : N 0 3 = z := by rw [hN.at 0 _ (by (first | decide | (simp only [List.mem_cons, List.not_mem_nil, or_false, not_or, not_false_eq_true, and_true]; omega) | (simp [List.mem_cons]; done)))]; exact hs.1
        have e25 : N 25 0 = ((sdB σ.m.sd σ.h.P : Nat) : Int) := by rw [hN.at 25 _ (by (first | decide | (simp only [List.mem_cons, List.not_mem_nil, or_false, not_or, not_false_eq_true, and_true]; omega) | (simp [List.mem_cons]; done)))]; exact hM.1
        refine AW.run ck_H_tiresSo [13] 10 34 ?_
        simp only [wR, wB, wE0, wE1, wE2, wE3, g0, gS, s10, s11, s1S, s20, s21, s2S, kl0, kl1, kl2, kl3, sp0, sp1, sp2, sp3, cn1, cn2, cn3, cn4, cn5, cn6, jJa, lk0, lk1, jmS, jmN, s4_0, s4_1, s4_2, s4_3, s4_4, sw0, sw1, cKs, cKn, true_and, and_true, List.map_cons, List.map_nil, Nat.reduceAdd, Nat.zero_add, Int.reduceAdd, Nat.reduceEqDiff, reduceIte, Classical.not_not, b_H_tiresSo, shH, e0, hz, e25]
        (repeat' (first | omega | exact ⟨by omega, by omega⟩ | (with_reducible exact Or.inr trivial) | (with_reducible exact Or.inl trivial) | (with_reducible assumption) | (with_reducible exact Same.refl) | (with_reducible rfl) | (with_reducible refine And.intro ?_ ?_) | (with_reducible intro _)))
        refine (c_Ha_tiredTo (d := d - 1) (sd := σ.m.sd) (by omega) hz hok (hs.2.2.2.same hN (by (first | decide | (simp only [List.mem_cons, List.not_mem_nil, or_false, not_or, not_false_eq_true, and_true]; omega) | (simp [List.mem_cons]; done))) (by (first | decide | (simp only [List.mem_cons, List.not_mem_nil, or_false, not_or, not_false_eq_true, and_true]; omega) | (simp [List.mem_cons]; done))) (by (first | decide | (simp only [List.mem_cons, List.not_mem_nil, or_false, not_or, not_false_eq_true, and_true]; omega) | (simp [List.mem_cons]; done))) (by (first | decide | (simp only [List.mem_cons, List.not_mem_nil, or_false, not_or, not_false_eq_true, and_true]; omega) | (simp [List.mem_cons]; done))) (by (first | decide | (simp only [List.mem_cons, List.not_mem_nil, or_false, not_or, not_false_eq_true, and_true]; omega) | (simp [List.mem_cons]; done))) (by (first | decide | (simp only [List.mem_cons, List.not_mem_nil, or_false, not_or, not_false_eq_true, and_true]; omega) | (simp [List.mem_cons]; done)))) hp (fun p _ => (mok.1 p).1) hle hc hs32).mono ?_
        rintro r' M1 okM1 ⟨rfl, u1⟩
        rw [show tired σ.h σ.m.sd c s p (tirS σ.h σ.m.sd c p (σ.m.st p) k) = tirS σ.h σ.m.sd c p (σ.m.st p) (k + 1) by rw [hs']; rfl]
        simp only [wR, wB, wE0, wE1, wE2, wE3, g0, gS, s10, s11, s1S, s20, s21, s2S, kl0, kl1, kl2, kl3, sp0, sp1, sp2, sp3, cn1, cn2, cn3, cn4, cn5, cn6, jJa, lk0, lk1, jmS, jmN, s4_0, s4_1, s4_2, s4_3, s4_4, sw0, sw1, cKs, cKn, true_and, and_true, List.map_cons, List.map_nil, Nat.reduceAdd, Nat.zero_add, Int.reduceAdd, Nat.reduceEqDiff, reduceIte, Classical.not_not, b_H_tiresSo, shH, ho]
        (repeat' (first | omega | exact ⟨by omega, by omega⟩ | (with_reducible exact Or.inr trivial) | (with_reducible exact Or.inl trivial) | (with_reducible assumption) | (with_reducible exact Same.refl) | (with_reducible rfl) | (with_reducible refine And.intro ?_ ?_) | (with_reducible intro _)))
        refine MS.to (c_Tr_at ho) fun _ => ?_
        rw [if_pos (by omega), show 87 + 2 * (i : Int) + 1 = 88 + 2 * (i : Int) by omega, u1.at _ _ (by (first | decide | (simp only [List.mem_cons, List.not_mem_nil, or_false, not_or, not_false_eq_true, and_true]; omega) | (simp [List.mem_cons]; done))), hN.at _ _ (by (first | decide | (simp only [List.mem_cons, List.not_mem_nil, or_false, not_or, not_false_eq_true, and_true]; omega) | (simp [List.mem_cons]; done))), t6 k (by omega)]
        simp only [wR, wB, wE0, wE1, wE2, wE3, g0, gS, s10, s11, s1S, s20, s21, s2S, kl0, kl1, kl2, kl3, sp0, sp1, sp2, sp3, cn1, cn2, cn3, cn4, cn5, cn6, jJa, lk0, lk1, jmS, jmN, s4_0, s4_1, s4_2, s4_3, s4_4, sw0, sw1, cKs, cKn, true_and, and_true, List.map_cons, List.map_nil, Nat.reduceAdd, Nat.zero_add, Int.reduceAdd, Nat.reduceEqDiff, reduceIte, Classical.not_not, b_H_tiresSo, cmp3_eq, ce]
        by_cases q : (tirS σ.h σ.m.sd c p (σ.m.st p) (k + 1) : Int) = v k
        · (repeat' (first | omega | exact ⟨by omega, by omega⟩ | (with_reducible exact Or.inr trivial) | (with_reducible exact Or.inl trivial) | (with_reducible assumption) | (with_reducible exact Same.refl) | (with_reducible rfl) | (with_reducible refine And.intro ?_ ?_) | (with_reducible intro _)))
          exact ih (k + 1) M1 _ (by omega) (hN.trans u1) (fun j hj => by
            by_cases e : j = k
            · rw [e]; exact q
            · exact hall j (by omega))
        · (repeat' (first | omega | exact ⟨by omega, by omega⟩ | (with_reducible exact Or.inr trivial) | (with_reducible exact Or.inl trivial) | (with_reducible assumption) | (with_reducible exact Same.refl) | (with_reducible rfl) | (with_reducible refine And.intro ?_ ?_) | (with_reducible intro _)))
          subst hQ
          rw [if_neg (by unfold tirOK; rw [decide_eq_true_eq]; intro h; exact q (h k (by omega)))]
          exact ⟨rfl, hN.trans u1⟩
      refine AW.run ck_H_tiresSo [34] 10 13 ?_
      simp only [wR, wB, wE0, wE1, wE2, wE3, g0, gS, s10, s11, s1S, s20, s21, s2S, kl0, kl1, kl2, kl3, sp0, sp1, sp2, sp3, cn1, cn2, cn3, cn4, cn5, cn6, jJa, lk0, lk1, jmS, jmN, s4_0, s4_1, s4_2, s4_3, s4_4, sw0, sw1, cKs, cKn, true_and, and_true, List.map_cons, List.map_nil, Nat.reduceAdd, Nat.zero_add, Int.reduceAdd, Nat.reduceEqDiff, reduceIte, Classical.not_not, b_H_tiresSo, shH, ho, hN.at (87 + 2 * (i : Int)) _ (by (first | decide | (simp only [List.mem_cons, List.not_mem_nil, or_false, not_or, not_false_eq_true, and_true]; omega) | (simp [List.mem_cons]; done))), t2, e2p]
      (repeat' (first | omega | exact ⟨by omega, by omega⟩ | (with_reducible exact Or.inr trivial) | (with_reducible exact Or.inl trivial) | (with_reducible assumption) | (with_reducible exact Same.refl) | (with_reducible rfl) | (with_reducible refine And.intro ?_ ?_) | (with_reducible intro _)))
      · have := a34 0 (by rw [if_neg (by omega)])
        exact this
      · exact a34 (2 ^ p) (by rw [if_pos (by omega)])
  refine AW.run ck_H_tiresSo [13] 10 0 ?_
  simp only [wR, wB, wE0, wE1, wE2, wE3, g0, gS, s10, s11, s1S, s20, s21, s2S, kl0, kl1, kl2, kl3, sp0, sp1, sp2, sp3, cn1, cn2, cn3, cn4, cn5, cn6, jJa, lk0, lk1, jmS, jmN, s4_0, s4_1, s4_2, s4_3, s4_4, sw0, sw1, cKs, cKn, true_and, and_true, List.map_cons, List.map_nil, Nat.reduceAdd, Nat.zero_add, Int.reduceAdd, Nat.reduceEqDiff, reduceIte, Classical.not_not, b_H_tiresSo, shH]
  refine ⟨by omega, MS.to (c_Mo_strengthOf o25) fun _ => ?_⟩
  have est : (if 0 ≤ (p : Int) ∧ (p : Int) < 5 then M 26 p else 0) = σ.m.st p := by
    rw [if_pos (by omega)]; exact hM.st hP hp
  simp only [wR, wB, wE0, wE1, wE2, wE3, g0, gS, s10, s11, s1S, s20, s21, s2S, kl0, kl1, kl2, kl3, sp0, sp1, sp2, sp3, cn1, cn2, cn3, cn4, cn5, cn6, jJa, lk0, lk1, jmS, jmN, s4_0, s4_1, s4_2, s4_3, s4_4, sw0, sw1, cKs, cKn, true_and, and_true, List.map_cons, List.map_nil, Nat.reduceAdd, Nat.zero_add, Int.reduceAdd, Nat.reduceEqDiff, reduceIte, Classical.not_not, b_H_tiresSo, est]
  exact loop n 0 M _ (by omega) Same.refl (fun j hj => absurd hj (by omega))
theorem c_H_coldsBy {z : Int} {i p B : Nat} {σ : Sg} (hd : 12 ≤ d) (ok : SgOK B σ) (hs : Chs M z σ) (hM : CM M 25 σ.h.P σ.m) (hi : i < 4) (hT : Ctr M i (σ.tr i)) (hne : (σ.tr i).1 ≠ -1) (hp : p < σ.h.P) :
    MS G d mi_H_coldsBy [vr 0, vr (87 + 2 * (i : Int)), vi p] M (fun r M' => r = some (vi (coldsN σ i p)) ∧ Same [z + 7, z + 8] M M') := by
  have hzz := hs.2.2.1
  refine MS.by ck_H_coldsBy [some (vr 0), some (vr (87 + 2 * (i : Int))), some (vi p), none, none] fun _ _ => ?_
  generalize hQ : (fun (r : Option AV) (M' : AM) => r = some (vi (coldsN σ i p)) ∧ Same [z + 7, z + 8] M M') = Q
  generalize hF : (fun c => tirOK σ.h σ.m.sd c p (σ.m.st p) (σ.tr i).2.2 (σ.tr i).2.1) = F
  have loop : ∀ (r c : Nat) (N : AM), c + r = 10 → Same [z + 7, z + 8] M N → AW G d mi_H_coldsBy Q 5 [some (vr 0), some (vr (87 + 2 * (i : Int))), some (vi p), some (vi (bitsP F c)), some (vi c)] [] N := by
    intro r
    induction r with
    | zero =>
      intro c N hc hN
      obtain rfl : c = 10 := by omega
      refine AW.run ck_H_coldsBy [30] 10 5 ?_
      simp only [wR, wB, wE0, wE1, wE2, wE3, g0, gS, s10, s11, s1S, s20, s21, s2S, kl0, kl1, kl2, kl3, sp0, sp1, sp2, sp3, cn1, cn2, cn3, cn4, cn5, cn6, jJa, lk0, lk1, jmS, jmN, s4_0, s4_1, s4_2, s4_3, s4_4, sw0, sw1, cKs, cKn, true_and, and_true, List.map_cons, List.map_nil, Nat.reduceAdd, Nat.zero_add, Int.reduceAdd, Nat.reduceEqDiff, reduceIte, Classical.not_not, b_H_coldsBy, shH]
      subst hQ
      (repeat' (first | omega | exact ⟨by omega, by omega⟩ | (with_reducible exact Or.inr trivial) | (with_reducible exact Or.inl trivial) | (with_reducible assumption) | (with_reducible exact Same.refl) | (with_reducible rfl) | (with_reducible refine And.intro ?_ ?_) | (with_reducible intro _)))
      rw [← hF]; rfl
    | succ r ih =>
      intro c N hc hN
      have a30 : ∀ K : AM, Same [z + 7, z + 8] M K → AW G d mi_H_coldsBy Q 30 [some (vr 0), some (vr (87 + 2 * (i : Int))), some (vi p), some (vi (bitsP F (c + 1))), some (vi c)] [] K := by
        intro K hK
        refine AW.run ck_H_coldsBy [5] 10 30 ?_
        simp only [wR, wB, wE0, wE1, wE2, wE3, g0, gS, s10, s11, s1S, s20, s21, s2S, kl0, kl1, kl2, kl3, sp0, sp1, sp2, sp3, cn1, cn2, cn3, cn4, cn5, cn6, jJa, lk0, lk1, jmS, jmN, s4_0, s4_1, s4_2, s4_3, s4_4, sw0, sw1, cKs, cKn, true_and, and_true, List.map_cons, List.map_nil, Nat.reduceAdd, Nat.zero_add, Int.reduceAdd, Nat.reduceEqDiff, reduceIte, Classical.not_not, b_H_coldsBy, ce]
        (repeat' (first | omega | exact ⟨by omega, by omega⟩ | (with_reducible exact Or.inr trivial) | (with_reducible exact Or.inl trivial) | (with_reducible assumption) | (with_reducible exact Same.refl) | (with_reducible rfl) | (with_reducible refine And.intro ?_ ?_) | (with_reducible intro _)))
        exact ih (c + 1) K (by omega) hK
      refine AW.run ck_H_coldsBy [30] 10 5 ?_
      simp only [wR, wB, wE0, wE1, wE2, wE3, g0, gS, s10, s11, s1S, s20, s21, s2S, kl0, kl1, kl2, kl3, sp0, sp1, sp2, sp3, cn1, cn2, cn3, cn4, cn5, cn6, jJa, lk0, lk1, jmS, jmN, s4_0, s4_1, s4_2, s4_3, s4_4, sw0, sw1, cKs, cKn, true_and, and_true, List.map_cons, List.map_nil, Nat.reduceAdd, Nat.zero_add, Int.reduceAdd, Nat.reduceEqDiff, reduceIte, Classical.not_not, b_H_coldsBy, shH]
      (repeat' (first | omega | exact ⟨by omega, by omega⟩ | (with_reducible exact Or.inr trivial) | (with_reducible exact Or.inl trivial) | (with_reducible assumption) | (with_reducible exact Same.refl) | (with_reducible rfl) | (with_reducible refine And.intro ?_ ?_) | (with_reducible intro _)))
      refine (c_H_tiresSo (d := d - 1) (by omega) ok (hs.eq (fun x hx => hN x (by (first | decide | (simp only [List.mem_cons, List.not_mem_nil, or_false, not_or, not_false_eq_true, and_true]; omega) | (simp [List.mem_cons]; done))))) (hM.eq (hN _ (by (first | decide | (simp only [List.mem_cons, List.not_mem_nil, or_false, not_or, not_false_eq_true, and_true]; omega) | (simp [List.mem_cons]; done)))) (hN _ (by (first | decide | (simp only [List.mem_cons, List.not_mem_nil, or_false, not_or, not_false_eq_true, and_true]; omega) | (simp [List.mem_cons]; done))))) hi (hT.eq (hN _ (by (first | decide | (simp only [List.mem_cons, List.not_mem_nil, or_false, not_or, not_false_eq_true, and_true]; omega) | (simp [List.mem_cons]; done)))) (hN _ (by (first | decide | (simp only [List.mem_cons, List.not_mem_nil, or_false, not_or, not_false_eq_true, and_true]; omega) | (simp [List.mem_cons]; done)))) (hN _ (by (first | decide | (simp only [List.mem_cons, List.not_mem_nil, or_false, not_or, not_false_eq_true, and_true]; omega) | (simp [List.mem_cons]; done))))) hne hp (by omega)).mono ?_
      rintro r' M1 okM1 ⟨rfl, u1⟩
      have hFc : tirOK σ.h σ.m.sd c p (σ.m.st p) (σ.tr i).2.2 (σ.tr i).2.1 = F c := by rw [← hF]
      rw [hFc]
      have hl := bitsP_lt F c
      have e1 := or_new hl (by omega)
      have := a30 M1 (hN.trans u1)
      simp only [bitsP] at this
      simp only [wR, wB, wE0, wE1, wE2, wE3, g0, gS, s10, s11, s1S, s20, s21, s2S, kl0, kl1, kl2, kl3, sp0, sp1, sp2, sp3, cn1, cn2, cn3, cn4, cn5, cn6, jJa, lk0, lk1, jmS, jmN, s4_0, s4_1, s4_2, s4_3, s4_4, sw0, sw1, cKs, cKn, true_and, and_true, List.map_cons, List.map_nil, Nat.reduceAdd, Nat.zero_add, Int.reduceAdd, Nat.reduceEqDiff, reduceIte, Classical.not_not, b_H_coldsBy, e1]
      by_cases q : F c = true
      · rw [if_pos q] at this ⊢
        (repeat' (first | omega | exact ⟨by omega, by omega⟩ | (with_reducible exact Or.inr trivial) | (with_reducible exact Or.inl trivial) | (with_reducible assumption) | (with_reducible exact Same.refl) | (with_reducible rfl) | (with_reducible refine And.intro ?_ ?_) | (with_reducible intro _)))
      · rw [if_neg q] at this ⊢
        (repeat' (first | omega | exact ⟨by omega, by omega⟩ | (with_reducible exact Or.inr trivial) | (with_reducible exact Or.inl trivial) | (with_reducible assumption) | (with_reducible exact Same.refl) | (with_reducible rfl) | (with_reducible refine And.intro ?_ ?_) | (with_reducible intro _)))
  refine AW.run ck_H_coldsBy [5] 10 0 ?_
  simp only [wR, wB, wE0, wE1, wE2, wE3, g0, gS, s10, s11, s1S, s20, s21, s2S, kl0, kl1, kl2, kl3, sp0, sp1, sp2, sp3, cn1, cn2, cn3, cn4, cn5, cn6, jJa, lk0, lk1, jmS, jmN, s4_0, s4_1, s4_2, s4_3, s4_4, sw0, sw1, cKs, cKn, true_and, and_true, List.map_cons, List.map_nil, Nat.reduceAdd, Nat.zero_add, Int.reduceAdd, Nat.reduceEqDiff, reduceIte, Classical.not_not, b_H_coldsBy]
  exact loop 10 0 M (by omega) Same.refl
theorem c_H_colds {t p : Int} {B : Nat} {σ : Sg} (hd : 20 ≤ d) (ok : SgOK B σ) (hR : CR M σ) : MS G d mi_H_colds [vr 0, vi t, vi p] M (fun r M' => r = some (vi (aColds σ t p)) ∧ CR M' σ ∧ Hi M M') := by
  obtain ⟨z, hs, hM, hp, hT⟩ := hR.z
  refine MS.run ck_H_colds [some (vr 0), some (vi t), some (vi p), none] [] 10 fun _ _ => ?_
  simp only [wR, wB, wE0, wE1, wE2, wE3, g0, gS, s10, s11, s1S, s20, s21, s2S, kl0, kl1, kl2, kl3, sp0, sp1, sp2, sp3, cn1, cn2, cn3, cn4, cn5, cn6, jJa, lk0, lk1, jmS, jmN, s4_0, s4_1, s4_2, s4_3, s4_4, sw0, sw1, cKs, cKn, true_and, and_true, List.map_cons, List.map_nil, Nat.reduceAdd, Nat.zero_add, Int.reduceAdd, Nat.reduceEqDiff, reduceIte, Classical.not_not, b_H_colds, shH]
  refine ⟨by omega, MS.to (c_H_refusedTired (d := d - 1) (by omega) ok hR) fun _ => ?_⟩
  unfold aColds
  by_cases q : aRT σ t p = 0
  · rw [if_pos q]
    have q' := q
    unfold aRT at q
    by_cases hpp : 0 ≤ p ∧ p < (σ.h.P : Int)
    · rw [if_pos hpp] at q
      obtain ⟨i, rfl, hi, hne, -⟩ := aRN_0 q
      obtain ⟨n, rfl⟩ := Int.eq_ofNat_of_zero_le hpp.1
      have t1 := (hT i hi).1
      have ho := tr_O i hi
      simp only [wR, wB, wE0, wE1, wE2, wE3, g0, gS, s10, s11, s1S, s20, s21, s2S, kl0, kl1, kl2, kl3, sp0, sp1, sp2, sp3, cn1, cn2, cn3, cn4, cn5, cn6, jJa, lk0, lk1, jmS, jmN, s4_0, s4_1, s4_2, s4_3, s4_4, sw0, sw1, cKs, cKn, true_and, and_true, List.map_cons, List.map_nil, Nat.reduceAdd, Nat.zero_add, Int.reduceAdd, Nat.reduceEqDiff, reduceIte, Classical.not_not, b_H_colds, shH, shR0, l30, q', t1, ho, up_rd, Int.reduceEq, and_false, false_and, and_self, reduceIte, not_true_eq_false, not_false_eq_true, false_imp_iff, true_imp_iff, true_or, or_true]
      refine ⟨by omega, by omega, (c_H_coldsBy (d := d - 1) (by omega) ok hs hM hi (hT i hi) hne (by omega)).mono ?_⟩
      rintro r M1 okM1 ⟨rfl, u1⟩
      simp only [wR, wB, wE0, wE1, wE2, wE3, g0, gS, s10, s11, s1S, s20, s21, s2S, kl0, kl1, kl2, kl3, sp0, sp1, sp2, sp3, cn1, cn2, cn3, cn4, cn5, cn6, jJa, lk0, lk1, jmS, jmN, s4_0, s4_1, s4_2, s4_3, s4_4, sw0, sw1, cKs, cKn, true_and, and_true, List.map_cons, List.map_nil, Nat.reduceAdd, Nat.zero_add, Int.reduceAdd, Nat.reduceEqDiff, reduceIte, Classical.not_not, b_H_colds, Int.toNat_natCast]
      exact hR.z78 hs.2.2.1 u1
    · rw [if_neg hpp] at q; omega
  · rw [if_neg q]
    simp only [wR, wB, wE0, wE1, wE2, wE3, g0, gS, s10, s11, s1S, s20, s21, s2S, kl0, kl1, kl2, kl3, sp0, sp1, sp2, sp3, cn1, cn2, cn3, cn4, cn5, cn6, jJa, lk0, lk1, jmS, jmN, s4_0, s4_1, s4_2, s4_3, s4_4, sw0, sw1, cKs, cKn, true_and, and_true, List.map_cons, List.map_nil, Nat.reduceAdd, Nat.zero_add, Int.reduceAdd, Nat.reduceEqDiff, reduceIte, Classical.not_not, b_H_colds, shH]
    (repeat' (first | omega | exact ⟨by omega, by omega⟩ | (with_reducible exact Or.inr trivial) | (with_reducible exact Or.inl trivial) | (with_reducible assumption) | (with_reducible exact Same.refl) | (with_reducible rfl) | (with_reducible refine And.intro ?_ ?_) | (with_reducible intro _)))
    exact Hi.refl
end CC2
