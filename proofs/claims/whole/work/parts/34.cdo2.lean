def aChange (σ : Sg) (p : Int) : Int := if 0 ≤ p ∧ p < (σ.h.P : Int) then 1 - (σ.m.sd p.toNat : Int) else -11
def sChange (σ : Sg) (p : Int) : Sg := if 0 ≤ p ∧ p < (σ.h.P : Int) then σ.deed (σ.m.flip p.toNat) else σ
def aSoup (σ : Sg) (p : Int) : Int := if 0 ≤ p ∧ p < (σ.h.P : Int) then (σ.m.st p.toNat : Int) else -11
def sSoup (σ : Sg) (p : Int) : Sg := if 0 ≤ p ∧ p < (σ.h.P : Int) then σ.deed (σ.m.soup p.toNat) else σ
def aCold (σ : Sg) (n : Int) : Int := if 0 ≤ n ∧ n ≤ 9 then (σ.m.cold : Int) else -11
def sCold (σ : Sg) (n : Int) : Sg := if 0 ≤ n ∧ n ≤ 9 then σ.deed (σ.m.chill n.toNat) else σ
def aUndo (σ : Sg) (n : Int) : Int := if 1 ≤ n ∧ n ≤ (σ.np : Int) then (σ.np : Int) - n else -3
def sUndo (σ : Sg) (n : Int) : Sg := if 1 ≤ n ∧ n ≤ (σ.np : Int) then σ.to (σ.pm (σ.np - n.toNat)) (σ.np - n.toNat) σ.pm else σ
theorem deed_m {σ : Sg} {m : Mo} : (σ.deed m).m = m := rfl
theorem deed_h {σ : Sg} {m : Mo} : (σ.deed m).h = σ.h := rfl
theorem flip_sd {m : Mo} {p q : Nat} : (m.flip p).sd q = if q = p then 1 - m.sd p else m.sd q := rfl
section CF
variable {G : AG} {d : Nat} {M : AM}
theorem c_H_change {p : Int} {B : Nat} {σ : Sg} (hd : 20 ≤ d) (hB : B < 1000000000) (ok : SgOK B σ) (hR : CR M σ) :
    MS G d mi_H_change [vr 0, vi p] M (fun r M' => r = some (vi (aChange σ p)) ∧ CR M' (sChange σ p) ∧ Hi M M') := by
  obtain ⟨z, hs, hM, hp, hT⟩ := hR.z
  have hz := hs.z
  have mok := ok.2.2.2.1
  have hP := ok.2.2.1.1
  refine MS.by ck_H_change [some (vr 0), some (vi p), none] fun _ _ => ?_
  unfold aChange sChange
  generalize hQ : (fun (r : Option AV) (M' : AM) => r = some (vi (if 0 ≤ p ∧ p < (σ.h.P : Int) then 1 - (σ.m.sd p.toNat : Int) else -11)) ∧ CR M' (if 0 ≤ p ∧ p < (σ.h.P : Int) then σ.deed (σ.m.flip p.toNat) else σ) ∧ Hi M M') = Q
  refine AW.run ck_H_change [20] 10 0 ?_
  simp only [wR, wB, wE0, wE1, wE2, wE3, g0, gS, s10, s11, s1S, s20, s21, s2S, kl0, kl1, kl2, kl3, sp0, sp1, sp2, sp3, cn1, cn2, cn3, cn4, cn5, cn6, jJa, lk0, lk1, jmS, jmN, s4_0, s4_1, s4_2, s4_3, s4_4, sw0, sw1, cKs, cKn, true_and, and_true, List.map_cons, List.map_nil, Nat.reduceAdd, Nat.zero_add, Int.reduceAdd, Nat.reduceEqDiff, reduceIte, Classical.not_not, b_H_change, shH]
  refine ⟨by omega, MS.to (c_H_isPerson hs) fun _ => ?_⟩
  by_cases q : 0 ≤ p ∧ p < σ.h.P
  · obtain ⟨n, rfl⟩ := Int.eq_ofNat_of_zero_le q.1
    have hn : n < σ.h.P := by omega
    rw [if_pos q]
    have a20 : ∀ M2 : AM, CR M2 (σ.deed (σ.m.flip n)) → Hi M M2 → AW G d mi_H_change Q 20 [some (vr 0), some (vi n), none] [vi 0] M2 := by
      as_aux_lemma =>
        intro M2 t3 hi2
        obtain ⟨z2, hs2, hM2, hp2, hT2⟩ := t3.z
        rw [deed_m, deed_h] at hM2
        have e1 : M2 25 0 = ((sdB (σ.m.flip n).sd σ.h.P : Nat) : Int) := hM2.1
        have hb : (σ.m.flip n).sd n = 1 - σ.m.sd n := by rw [flip_sd, if_pos rfl]
        have h1 := (mok.1.1 n).1
        have e2 : bAnd (bShr ((sdB (σ.m.flip n).sd σ.h.P : Nat) : Int) (n : Int)) 1 = ((σ.m.flip n).sd n : Int) := bit1 hP hn (by rw [hb]; omega)
        refine AW.run ck_H_change [] 10 20 ?_
        simp only [wR, wB, wE0, wE1, wE2, wE3, g0, gS, s10, s11, s1S, s20, s21, s2S, kl0, kl1, kl2, kl3, sp0, sp1, sp2, sp3, cn1, cn2, cn3, cn4, cn5, cn6, jJa, lk0, lk1, jmS, jmN, s4_0, s4_1, s4_2, s4_3, s4_4, sw0, sw1, cKs, cKn, true_and, and_true, List.map_cons, List.map_nil, Nat.reduceAdd, Nat.zero_add, Int.reduceAdd, Nat.reduceEqDiff, reduceIte, Classical.not_not, b_H_change, shH, up_rd, Int.reduceEq, and_false, false_and, and_self, reduceIte, not_true_eq_false, not_false_eq_true, false_imp_iff, true_imp_iff, true_or, or_true, e1, e2]
        subst hQ
        rw [if_pos q, if_pos q, Int.toNat_natCast]
        refine ⟨?_, t3, hi2⟩
        rw [hb, show ((1 - σ.m.sd n : Nat) : Int) = 1 - (σ.m.sd n : Int) by omega]
    simp only [wR, wB, wE0, wE1, wE2, wE3, g0, gS, s10, s11, s1S, s20, s21, s2S, kl0, kl1, kl2, kl3, sp0, sp1, sp2, sp3, cn1, cn2, cn3, cn4, cn5, cn6, jJa, lk0, lk1, jmS, jmN, s4_0, s4_1, s4_2, s4_3, s4_4, sw0, sw1, cKs, cKn, true_and, and_true, List.map_cons, List.map_nil, Nat.reduceAdd, Nat.zero_add, Int.reduceAdd, Nat.reduceEqDiff, reduceIte, Classical.not_not, b_H_change, shH, up_rd, Int.reduceEq, and_false, false_and, and_self, reduceIte, not_true_eq_false, not_false_eq_true, false_imp_iff, true_imp_iff, true_or, or_true]
    refine ⟨⟨by omega, by omega⟩, by omega, (c_H_doOne (by omega) hB ok hR ⟨by omega, by omega⟩).mono ?_⟩
    rintro r M2 okM2 ⟨rfl, t3, hi2⟩
    have ew : whyD σ.h.P σ.m (40 + (n : Int)) = 0 := by unfold whyD; rw [if_neg (by omega), if_pos (by omega), if_pos (by omega)]
    have ed : doD σ.h σ.m (40 + (n : Int)) = σ.m.flip n := by unfold doD; rw [if_neg (by omega), if_pos (by omega), show (40 + (n : Int)) % 10 = n by omega, Int.toNat_natCast]
    rw [ew, if_pos rfl, ed] at t3
    rw [ew]
    simp only [wR, wB, wE0, wE1, wE2, wE3, g0, gS, s10, s11, s1S, s20, s21, s2S, kl0, kl1, kl2, kl3, sp0, sp1, sp2, sp3, cn1, cn2, cn3, cn4, cn5, cn6, jJa, lk0, lk1, jmS, jmN, s4_0, s4_1, s4_2, s4_3, s4_4, sw0, sw1, cKs, cKn, true_and, and_true, List.map_cons, List.map_nil, Nat.reduceAdd, Nat.zero_add, Int.reduceAdd, Nat.reduceEqDiff, reduceIte, Classical.not_not, b_H_change, shH, up_rd, Int.reduceEq, and_false, false_and, and_self, reduceIte, not_true_eq_false, not_false_eq_true, false_imp_iff, true_imp_iff, true_or, or_true]
    exact a20 M2 t3 hi2
  · rw [if_neg q]
    simp only [wR, wB, wE0, wE1, wE2, wE3, g0, gS, s10, s11, s1S, s20, s21, s2S, kl0, kl1, kl2, kl3, sp0, sp1, sp2, sp3, cn1, cn2, cn3, cn4, cn5, cn6, jJa, lk0, lk1, jmS, jmN, s4_0, s4_1, s4_2, s4_3, s4_4, sw0, sw1, cKs, cKn, true_and, and_true, List.map_cons, List.map_nil, Nat.reduceAdd, Nat.zero_add, Int.reduceAdd, Nat.reduceEqDiff, reduceIte, Classical.not_not, b_H_change, shH, up_rd, Int.reduceEq, and_false, false_and, and_self, reduceIte, not_true_eq_false, not_false_eq_true, false_imp_iff, true_imp_iff, true_or, or_true]
    refine AW.run ck_H_change [] 10 20 ?_
    simp only [wR, wB, wE0, wE1, wE2, wE3, g0, gS, s10, s11, s1S, s20, s21, s2S, kl0, kl1, kl2, kl3, sp0, sp1, sp2, sp3, cn1, cn2, cn3, cn4, cn5, cn6, jJa, lk0, lk1, jmS, jmN, s4_0, s4_1, s4_2, s4_3, s4_4, sw0, sw1, cKs, cKn, true_and, and_true, List.map_cons, List.map_nil, Nat.reduceAdd, Nat.zero_add, Int.reduceAdd, Nat.reduceEqDiff, reduceIte, Classical.not_not, b_H_change, shH, up_rd, Int.reduceEq, and_false, false_and, and_self, reduceIte, not_true_eq_false, not_false_eq_true, false_imp_iff, true_imp_iff, true_or, or_true]
    subst hQ
    rw [if_neg q, if_neg q]
    (repeat' (first | omega | (with_reducible exact True.intro) | exact ⟨by omega, by omega⟩ | (with_reducible exact Or.inr trivial) | (with_reducible exact Or.inl trivial) | (with_reducible assumption) | (with_reducible exact Same.refl) | (with_reducible rfl) | (with_reducible refine And.intro ?_ ?_) | (with_reducible intro _)))
    · rfl
    · exact Hi.refl
theorem c_H_soup {p : Int} {B : Nat} {σ : Sg} (hd : 20 ≤ d) (hB : B < 1000000000) (ok : SgOK B σ) (hR : CR M σ) :
    MS G d mi_H_soup [vr 0, vi p] M (fun r M' => r = some (vi (aSoup σ p)) ∧ CR M' (sSoup σ p) ∧ Hi M M') := by
  obtain ⟨z, hs, hM, hp, hT⟩ := hR.z
  have hz := hs.z
  have mok := ok.2.2.2.1
  have hP := ok.2.2.1.1
  refine MS.run ck_H_soup [some (vr 0), some (vi p), none, none] [] 10 fun _ _ => ?_
  simp only [wR, wB, wE0, wE1, wE2, wE3, g0, gS, s10, s11, s1S, s20, s21, s2S, kl0, kl1, kl2, kl3, sp0, sp1, sp2, sp3, cn1, cn2, cn3, cn4, cn5, cn6, jJa, lk0, lk1, jmS, jmN, s4_0, s4_1, s4_2, s4_3, s4_4, sw0, sw1, cKs, cKn, true_and, and_true, List.map_cons, List.map_nil, Nat.reduceAdd, Nat.zero_add, Int.reduceAdd, Nat.reduceEqDiff, reduceIte, Classical.not_not, b_H_soup, shH]
  refine ⟨by omega, MS.to (c_Mo_strengthOf o25) fun _ => ?_⟩
  simp only [wR, wB, wE0, wE1, wE2, wE3, g0, gS, s10, s11, s1S, s20, s21, s2S, kl0, kl1, kl2, kl3, sp0, sp1, sp2, sp3, cn1, cn2, cn3, cn4, cn5, cn6, jJa, lk0, lk1, jmS, jmN, s4_0, s4_1, s4_2, s4_3, s4_4, sw0, sw1, cKs, cKn, true_and, and_true, List.map_cons, List.map_nil, Nat.reduceAdd, Nat.zero_add, Int.reduceAdd, Nat.reduceEqDiff, reduceIte, Classical.not_not, b_H_soup, shH]
  refine ⟨by omega, MS.to (c_H_isPerson hs) fun _ => ?_⟩
  unfold aSoup sSoup
  by_cases q : 0 ≤ p ∧ p < σ.h.P
  · obtain ⟨n, rfl⟩ := Int.eq_ofNat_of_zero_le q.1
    have hn : n < σ.h.P := by omega
    have est : (if 0 ≤ (n : Int) ∧ (n : Int) < 5 then M 26 n else 0) = σ.m.st n := by
      rw [if_pos (by omega)]; exact hM.st hP hn
    rw [if_pos q, if_pos q, if_pos q]
    simp only [wR, wB, wE0, wE1, wE2, wE3, g0, gS, s10, s11, s1S, s20, s21, s2S, kl0, kl1, kl2, kl3, sp0, sp1, sp2, sp3, cn1, cn2, cn3, cn4, cn5, cn6, jJa, lk0, lk1, jmS, jmN, s4_0, s4_1, s4_2, s4_3, s4_4, sw0, sw1, cKs, cKn, true_and, and_true, List.map_cons, List.map_nil, Nat.reduceAdd, Nat.zero_add, Int.reduceAdd, Nat.reduceEqDiff, reduceIte, Classical.not_not, b_H_soup, shH, up_rd, Int.reduceEq, and_false, false_and, and_self, reduceIte, not_true_eq_false, not_false_eq_true, false_imp_iff, true_imp_iff, true_or, or_true, est]
    refine ⟨⟨by omega, by omega⟩, by omega, (c_H_doOne (by omega) hB ok hR ⟨by omega, by omega⟩).mono ?_⟩
    rintro r M2 okM2 ⟨rfl, t3, hi2⟩
    have ew : whyD σ.h.P σ.m (50 + (n : Int)) = 0 := by unfold whyD; rw [if_neg (by omega), if_pos (by omega), if_pos (by omega)]
    have ed : doD σ.h σ.m (50 + (n : Int)) = σ.m.soup n := by unfold doD; rw [if_neg (by omega), if_neg (by omega), if_pos (by omega), show (50 + (n : Int)) % 10 = n by omega, Int.toNat_natCast]
    rw [ew, if_pos rfl, ed] at t3
    rw [ew]
    simp only [wR, wB, wE0, wE1, wE2, wE3, g0, gS, s10, s11, s1S, s20, s21, s2S, kl0, kl1, kl2, kl3, sp0, sp1, sp2, sp3, cn1, cn2, cn3, cn4, cn5, cn6, jJa, lk0, lk1, jmS, jmN, s4_0, s4_1, s4_2, s4_3, s4_4, sw0, sw1, cKs, cKn, true_and, and_true, List.map_cons, List.map_nil, Nat.reduceAdd, Nat.zero_add, Int.reduceAdd, Nat.reduceEqDiff, reduceIte, Classical.not_not, b_H_soup, shH, up_rd, Int.reduceEq, and_false, false_and, and_self, reduceIte, not_true_eq_false, not_false_eq_true, false_imp_iff, true_imp_iff, true_or, or_true, Int.toNat_natCast]
    exact ⟨t3, hi2⟩
  · rw [if_neg q, if_neg q, if_neg q]
    simp only [wR, wB, wE0, wE1, wE2, wE3, g0, gS, s10, s11, s1S, s20, s21, s2S, kl0, kl1, kl2, kl3, sp0, sp1, sp2, sp3, cn1, cn2, cn3, cn4, cn5, cn6, jJa, lk0, lk1, jmS, jmN, s4_0, s4_1, s4_2, s4_3, s4_4, sw0, sw1, cKs, cKn, true_and, and_true, List.map_cons, List.map_nil, Nat.reduceAdd, Nat.zero_add, Int.reduceAdd, Nat.reduceEqDiff, reduceIte, Classical.not_not, b_H_soup, shH, up_rd, Int.reduceEq, and_false, false_and, and_self, reduceIte, not_true_eq_false, not_false_eq_true, false_imp_iff, true_imp_iff, true_or, or_true]
    (repeat' (first | omega | (with_reducible exact True.intro) | exact ⟨by omega, by omega⟩ | (with_reducible exact Or.inr trivial) | (with_reducible exact Or.inl trivial) | (with_reducible assumption) | (with_reducible exact Same.refl) | (with_reducible rfl) | (with_reducible refine And.intro ?_ ?_) | (with_reducible intro _)))
    · rfl
    · exact Hi.refl
theorem c_H_cold {n : Int} {B : Nat} {σ : Sg} (hd : 20 ≤ d) (hB : B < 1000000000) (ok : SgOK B σ) (hR : CR M σ) :
    MS G d mi_H_cold [vr 0, vi n] M (fun r M' => r = some (vi (aCold σ n)) ∧ CR M' (sCold σ n) ∧ Hi M M') := by
  obtain ⟨z, hs, hM, hp, hT⟩ := hR.z
  have mok := ok.2.2.2.1
  refine MS.by ck_H_cold [some (vr 0), some (vi n), none, none] fun _ _ => ?_
  unfold aCold sCold
  generalize hQ : (fun (r : Option AV) (M' : AM) => r = some (vi (if 0 ≤ n ∧ n ≤ 9 then (σ.m.cold : Int) else -11)) ∧ CR M' (if 0 ≤ n ∧ n ≤ 9 then σ.deed (σ.m.chill n.toNat) else σ) ∧ Hi M M') = Q
  have a29 : ¬ (0 ≤ n ∧ n ≤ 9) → AW G d mi_H_cold Q 29 [some (vr 0), some (vi n), some (vi σ.m.cold), none] [] M := by
    intro q
    refine AW.run ck_H_cold [] 10 29 ?_
    simp only [wR, wB, wE0, wE1, wE2, wE3, g0, gS, s10, s11, s1S, s20, s21, s2S, kl0, kl1, kl2, kl3, sp0, sp1, sp2, sp3, cn1, cn2, cn3, cn4, cn5, cn6, jJa, lk0, lk1, jmS, jmN, s4_0, s4_1, s4_2, s4_3, s4_4, sw0, sw1, cKs, cKn, true_and, and_true, List.map_cons, List.map_nil, Nat.reduceAdd, Nat.zero_add, Int.reduceAdd, Nat.reduceEqDiff, reduceIte, Classical.not_not, b_H_cold, up_rd, Int.reduceEq, and_false, false_and, and_self, reduceIte, not_true_eq_false, not_false_eq_true, false_imp_iff, true_imp_iff, true_or, or_true]
    subst hQ
    rw [if_neg q, if_neg q]
    (repeat' (first | omega | (with_reducible exact True.intro) | exact ⟨by omega, by omega⟩ | (with_reducible exact Or.inr trivial) | (with_reducible exact Or.inl trivial) | (with_reducible assumption) | (with_reducible exact Same.refl) | (with_reducible rfl) | (with_reducible refine And.intro ?_ ?_) | (with_reducible intro _)))
    · rfl
    · exact Hi.refl
  refine AW.run ck_H_cold [29, 30] 10 0 ?_
  simp only [wR, wB, wE0, wE1, wE2, wE3, g0, gS, s10, s11, s1S, s20, s21, s2S, kl0, kl1, kl2, kl3, sp0, sp1, sp2, sp3, cn1, cn2, cn3, cn4, cn5, cn6, jJa, lk0, lk1, jmS, jmN, s4_0, s4_1, s4_2, s4_3, s4_4, sw0, sw1, cKs, cKn, true_and, and_true, List.map_cons, List.map_nil, Nat.reduceAdd, Nat.zero_add, Int.reduceAdd, Nat.reduceEqDiff, reduceIte, Classical.not_not, b_H_cold, shH, hM.2.1]
  refine ⟨fun h => a29 (by omega), fun h1 => ⟨fun h => a29 (by omega), fun h2 => ?_⟩⟩
  obtain ⟨k, rfl⟩ := Int.eq_ofNat_of_zero_le (show 0 ≤ n by omega)
  refine ⟨⟨by omega, by omega⟩, by omega, (c_H_doOne (by omega) hB ok hR ⟨by omega, by omega⟩).mono ?_⟩
  rintro r M2 okM2 ⟨rfl, t3, hi2⟩
  have ew : whyD σ.h.P σ.m (60 + (k : Int)) = 0 := by unfold whyD; rw [if_neg (by omega), if_neg (by omega), if_pos (by omega)]
  have ed : doD σ.h σ.m (60 + (k : Int)) = σ.m.chill k := by unfold doD; rw [if_neg (by omega), if_neg (by omega), if_neg (by omega), show (60 + (k : Int)) % 10 = k by omega, Int.toNat_natCast]
  rw [ew, if_pos rfl, ed] at t3
  rw [ew]
  simp only [wR, wB, wE0, wE1, wE2, wE3, g0, gS, s10, s11, s1S, s20, s21, s2S, kl0, kl1, kl2, kl3, sp0, sp1, sp2, sp3, cn1, cn2, cn3, cn4, cn5, cn6, jJa, lk0, lk1, jmS, jmN, s4_0, s4_1, s4_2, s4_3, s4_4, sw0, sw1, cKs, cKn, true_and, and_true, List.map_cons, List.map_nil, Nat.reduceAdd, Nat.zero_add, Int.reduceAdd, Nat.reduceEqDiff, reduceIte, Classical.not_not, b_H_cold]
  refine AW.run ck_H_cold [] 10 30 ?_
  simp only [wR, wB, wE0, wE1, wE2, wE3, g0, gS, s10, s11, s1S, s20, s21, s2S, kl0, kl1, kl2, kl3, sp0, sp1, sp2, sp3, cn1, cn2, cn3, cn4, cn5, cn6, jJa, lk0, lk1, jmS, jmN, s4_0, s4_1, s4_2, s4_3, s4_4, sw0, sw1, cKs, cKn, true_and, and_true, List.map_cons, List.map_nil, Nat.reduceAdd, Nat.zero_add, Int.reduceAdd, Nat.reduceEqDiff, reduceIte, Classical.not_not, b_H_cold, up_rd, Int.reduceEq, and_false, false_and, and_self, reduceIte, not_true_eq_false, not_false_eq_true, false_imp_iff, true_imp_iff, true_or, or_true]
  subst hQ
  rw [if_pos (by omega), if_pos (by omega), Int.toNat_natCast]
  exact ⟨rfl, t3, hi2⟩
theorem c_H_undo {n : Int} {B : Nat} {σ : Sg} (hd : 20 ≤ d) (ok : SgOK B σ) (hR : CR M σ) :
    MS G d mi_H_undo [vr 0, vi n] M (fun r M' => r = some (vi (aUndo σ n)) ∧ CR M' (sUndo σ n) ∧ Hi M M') := by
  obtain ⟨z, hs, hM, hp, hT⟩ := hR.z
  obtain ⟨h8, hn, q, hq, hqi, hc⟩ := id hp
  refine MS.by ck_H_undo [some (vr 0), some (vi n)] fun _ _ => ?_
  unfold aUndo sUndo
  generalize hQ : (fun (r : Option AV) (M' : AM) => r = some (vi (if 1 ≤ n ∧ n ≤ (σ.np : Int) then (σ.np : Int) - n else -3)) ∧ CR M' (if 1 ≤ n ∧ n ≤ (σ.np : Int) then σ.to (σ.pm (σ.np - n.toNat)) (σ.np - n.toNat) σ.pm else σ) ∧ Hi M M') = Q
  have a22 : ¬ (1 ≤ n ∧ n ≤ (σ.np : Int)) → AW G d mi_H_undo Q 22 [some (vr 0), some (vi n)] [] M := by
    intro q
    refine AW.run ck_H_undo [] 10 22 ?_
    simp only [wR, wB, wE0, wE1, wE2, wE3, g0, gS, s10, s11, s1S, s20, s21, s2S, kl0, kl1, kl2, kl3, sp0, sp1, sp2, sp3, cn1, cn2, cn3, cn4, cn5, cn6, jJa, lk0, lk1, jmS, jmN, s4_0, s4_1, s4_2, s4_3, s4_4, sw0, sw1, cKs, cKn, true_and, and_true, List.map_cons, List.map_nil, Nat.reduceAdd, Nat.zero_add, Int.reduceAdd, Nat.reduceEqDiff, reduceIte, Classical.not_not, b_H_undo, up_rd, Int.reduceEq, and_false, false_and, and_self, reduceIte, not_true_eq_false, not_false_eq_true, false_imp_iff, true_imp_iff, true_or, or_true]
    subst hQ
    rw [if_neg q, if_neg q]
    exact ⟨rfl, hR, Hi.refl⟩
  refine AW.run ck_H_undo [22, 25] 10 0 ?_
  simp only [wR, wB, wE0, wE1, wE2, wE3, g0, gS, s10, s11, s1S, s20, s21, s2S, kl0, kl1, kl2, kl3, sp0, sp1, sp2, sp3, cn1, cn2, cn3, cn4, cn5, cn6, jJa, lk0, lk1, jmS, jmN, s4_0, s4_1, s4_2, s4_3, s4_4, sw0, sw1, cKs, cKn, true_and, and_true, List.map_cons, List.map_nil, Nat.reduceAdd, Nat.zero_add, Int.reduceAdd, Nat.reduceEqDiff, reduceIte, Classical.not_not, b_H_undo, shH, h8]
  (repeat' (first | omega | exact ⟨by omega, by omega⟩ | (with_reducible exact Or.inr trivial) | (with_reducible exact Or.inl trivial) | (with_reducible assumption) | (with_reducible exact Same.refl) | (with_reducible rfl) | (with_reducible refine And.intro ?_ ?_) | (with_reducible intro _)))
  · exact a22 (by omega)
  · exact a22 (by omega)
  · obtain ⟨k, rfl⟩ := Int.eq_ofNat_of_zero_le (show 0 ≤ n by omega)
    have hk : σ.np - k < 10 := by omega
    have hkn : σ.np - k < σ.np := by omega
    obtain ⟨c1, c2, c3, c4⟩ := hq (σ.np - k) hk
    have ei : (σ.np : Int) - (k : Int) = ((σ.np - k : Nat) : Int) := by omega
    refine AW.run ck_H_undo [] 10 25 ?_
    simp only [wR, wB, wE0, wE1, wE2, wE3, g0, gS, s10, s11, s1S, s20, s21, s2S, kl0, kl1, kl2, kl3, sp0, sp1, sp2, sp3, cn1, cn2, cn3, cn4, cn5, cn6, jJa, lk0, lk1, jmS, jmN, s4_0, s4_1, s4_2, s4_3, s4_4, sw0, sw1, cKs, cKn, true_and, and_true, List.map_cons, List.map_nil, Nat.reduceAdd, Nat.zero_add, Int.reduceAdd, Nat.reduceEqDiff, reduceIte, Classical.not_not, b_H_undo, shH, shR0, h8, l29, up_rd, Int.reduceEq, and_false, false_and, and_self, reduceIte, not_true_eq_false, not_false_eq_true, false_imp_iff, true_imp_iff, true_or, or_true]
    rw [ei, c1]
    (repeat' (first | omega | exact ⟨by omega, by omega⟩ | (with_reducible exact Or.inr trivial) | (with_reducible exact Or.inl trivial) | (with_reducible assumption) | (with_reducible exact Same.refl) | (with_reducible rfl) | (with_reducible refine And.intro ?_ ?_) | (with_reducible intro _)))
    refine MS.to (c_Mo_copy (by omega) o25 c2) fun _ => ?_
    have hcm : CM (up M 0 8 ((σ.np - k : Nat) : Int)) (q (σ.np - k)) σ.h.P (σ.pm (σ.np - k)) := (hc _ hkn).eq (by funext y; exact up_ne1 (by omega)) (by funext y; exact up_ne1 (by omega))
    have h25 := moC_CM (z := 25) hcm
    have sm : Same [25, 26] (up M 0 8 ((σ.np - k : Nat) : Int)) (moC (up M 0 8 ((σ.np - k : Nat) : Int)) 25 (q (σ.np - k))) := moC_same
    generalize moC (up M 0 8 ((σ.np - k : Nat) : Int)) 25 (q (σ.np - k)) = N at h25 sm ⊢
    have e0 : N 0 8 = ((σ.np - k : Nat) : Int) := by rw [sm.at 0 8 (by (first | decide | (simp only [List.mem_cons, List.not_mem_nil, or_false, not_or, not_false_eq_true, and_true]; omega) | (simp [List.mem_cons]; done))), up_eq]
    have hf : DFr M N := ⟨fun x hx => by rw [sm x (by (first | decide | (simp only [List.mem_cons, List.not_mem_nil, or_false, not_or, not_false_eq_true, and_true]; omega) | (simp [List.mem_cons]; done)))]; funext y; exact up_ne1 (by omega), fun y hy => by rw [sm.at 0 y (by (first | decide | (simp only [List.mem_cons, List.not_mem_nil, or_false, not_or, not_false_eq_true, and_true]; omega) | (simp [List.mem_cons]; done))), up_ne2 hy]⟩
    simp only [wR, wB, wE0, wE1, wE2, wE3, g0, gS, s10, s11, s1S, s20, s21, s2S, kl0, kl1, kl2, kl3, sp0, sp1, sp2, sp3, cn1, cn2, cn3, cn4, cn5, cn6, jJa, lk0, lk1, jmS, jmN, s4_0, s4_1, s4_2, s4_3, s4_4, sw0, sw1, cKs, cKn, true_and, and_true, List.map_cons, List.map_nil, Nat.reduceAdd, Nat.zero_add, Int.reduceAdd, Nat.reduceEqDiff, reduceIte, Classical.not_not, b_H_undo, shH, e0]
    subst hQ
    rw [if_pos (by omega), if_pos (by omega), Int.toNat_natCast, ei]
    refine ⟨rfl, hR.upd hf h25 ⟨e0, by omega, q, fun i hi => ?_, hqi, fun i hi => ?_⟩, hf.hi⟩
    · rw [sm.at 29 _ (by (first | decide | (simp only [List.mem_cons, List.not_mem_nil, or_false, not_or, not_false_eq_true, and_true]; omega) | (simp [List.mem_cons]; done))), up_ne1 (by omega)]; exact hq i hi
    · have := hq i (by omega)
      refine (hc i (by omega)).eq ?_ ?_
      · rw [sm _ (by (first | decide | (simp only [List.mem_cons, List.not_mem_nil, or_false, not_or, not_false_eq_true, and_true]; omega) | (simp [List.mem_cons]; done)))]; funext y; exact up_ne1 (by omega)
      · rw [sm _ (by (first | decide | (simp only [List.mem_cons, List.not_mem_nil, or_false, not_or, not_false_eq_true, and_true]; omega) | (simp [List.mem_cons]; done)))]; funext y; exact up_ne1 (by omega)
end CF
