/-! chance, mean: the class -/
def aRC (σ : Sg) (t : Int) : Int := aRN σ t 6 0 ((2 ^ σ.h.P - 1 : Nat) : Int)
def toN (σ : Sg) (t : Int) (i : Nat) : Nat := ((σ.tr t.toNat).2.2 i).toNat
def exC (σ : Sg) (t : Int) (side : Nat) : Nat := Ex σ.h.P (cndF σ.h σ.m.sd σ.m.cold (sideS σ.m.sd σ.h.P side) σ.h.must (toN σ t)) (toF σ.h σ.m.sd σ.m.cold (toN σ t)) (fun _ => 1) (σ.tr t.toNat).2.1 0 (cod σ.m.st σ.h.P)
def exM (σ : Sg) (t : Int) : Nat := Ex σ.h.P (cndF σ.h σ.m.sd σ.m.cold 0 0 (toN σ t)) (toF σ.h σ.m.sd σ.m.cold (toN σ t)) sumS (σ.tr t.toNat).2.1 0 (cod σ.m.st σ.h.P)
def aChance (σ : Sg) (t side what : Int) : Int := if (side = 0 ∨ side = 1) ∧ 0 ≤ what ∧ what ≤ 1 then (if aRC σ t = 0 then (frc (exC σ t side.toNat) (10 ^ (σ.tr t.toNat).2.1) what : Int) else aRC σ t) else -2
def aMean (σ : Sg) (t what : Int) : Int := if 0 ≤ what ∧ what ≤ 1 then (if aRC σ t = 0 then (frc (exM σ t) (10 ^ (σ.tr t.toNat).2.1) what : Int) else aRC σ t) else -2
theorem aRC_0 {σ : Sg} {t : Int} (hP : σ.h.P ≤ 5) (h : aRC σ t = 0) : ∃ i : Nat, t = i ∧ i < 4 ∧ (σ.tr i).1 ≠ -1 ∧ 1 ≤ (σ.tr i).2.1 ∧ (σ.tr i).2.1 ≤ 6 ∧ ∀ k, k < (σ.tr i).2.1 → (σ.tr i).2.2 k = toN σ i k ∧ toN σ i k < 2 ^ σ.h.P := by
  obtain ⟨i, rfl, h1, h2, h3, h4, h5⟩ := aRN_0 h
  refine ⟨i, rfl, h1, h2, h3, by omega, fun k hk => ?_⟩
  have := h5 k hk
  have hp : 0 < 2 ^ σ.h.P := Nat.pow_pos (by omega)
  unfold toN
  rw [Int.toNat_natCast]
  omega
theorem p10 {n : Nat} (h : n ≤ 6) : 1 ≤ 10 ^ n ∧ 10 ^ n ≤ 1000000 := by
  have h1 : (10 : Nat) ^ n ≤ 10 ^ 6 := Nat.pow_le_pow_right (by omega) h
  have h2 : 0 < 10 ^ n := Nat.pow_pos (by omega)
  omega
section CHA
variable {G : AG} {d : Nat} {M : AM}
theorem c_fall {j B own must : Nat} {σ : Sg} {M1 : AM} (hd : 15 ≤ d) (ok : SgOK B σ) (hR : CR M σ) (hj : j < 4) (hne : (σ.tr j).1 ≠ -1) (h6 : (σ.tr j).2.1 ≤ 6) (htl : ∀ k, k < (σ.tr j).2.1 → (σ.tr j).2.2 k = toN σ j k ∧ toN σ j k < 2 ^ σ.h.P) (u1 : StOK M1 σ.h σ.m.sd σ.m.cold (2 ^ σ.h.P - 1)) (u2 : Scr M M1) (hown : own < 32) :
    MS G d mi_Ro_fall [vr 56, vr 33, vi (cod σ.m.st σ.h.P), vr (87 + 2 * (j : Int)), vi own, vi must] M1 (fun r M' => r = some (vl ((10 ^ (σ.tr j).2.1 : Nat) : Int)) ∧ (∃ a b F, RwT M' a b F FS.nil ∧ (∀ g, F.val g = Ex σ.h.P (cndF σ.h σ.m.sd σ.m.cold own must (toN σ j)) (toF σ.h σ.m.sd σ.m.cold (toN σ j)) g (σ.tr j).2.1 0 (cod σ.m.st σ.h.P)) ∧ F.val (fun _ => 1) ≤ 10 ^ 6) ∧ CR M' σ ∧ Hi M M') := by
  obtain ⟨z, hs, hM, hp, hT⟩ := hR.z
  have hok := ok.2.2.1
  have mok := ok.2.2.2.1.1
  have ho := tr_O j hj
  obtain ⟨t1, t2, t3, t4⟩ := (hT j hj).eq (N := M1) (u2 _ (by omega)) (u2 _ (by omega)) (u2 _ (by omega))
  obtain ⟨t5, t6⟩ := t4 hne
  rw [if_neg hne] at t2
  refine (c_Ro_fall (d := d) (told := toN σ j) (by omega) hok u1 (hR.rw.eq (fun x hx => u2 x (by omega))) (cod_5P (fun p => (mok.1 p).2)) ho (by omega) t2 h6 hown (fun i hi => ⟨by rw [show (87 : Int) + 2 * j + 1 = 88 + 2 * j by omega, t6 i hi]; exact (htl i hi).1, (htl i hi).2⟩)).mono ?_
  rintro r N okN ⟨rfl, ⟨a, b, F, v1, v2, v3, v4⟩, v5, v6⟩
  obtain ⟨c1, c2⟩ := hR.rows mok u2 v6 v5 v1.inv
  have h10 : (10 : Nat) ^ (σ.tr j).2.1 ≤ 10 ^ 6 := Nat.pow_le_pow_right (by omega) h6
  exact ⟨rfl, ⟨a, b, F, v1, v3, by omega⟩, c1, c2⟩
theorem c_H_chance {t side what : Int} {B : Nat} {σ : Sg} (hd : 20 ≤ d) (ok : SgOK B σ) (hR : CR M σ) : MS G d mi_H_chance [vr 0, vi t, vi side, vi what] M (fun r M' => r = some (vi (aChance σ t side what)) ∧ CR M' σ ∧ Hi M M') := by
  obtain ⟨z, hs, hM, hp, hT⟩ := hR.z
  have hok := ok.2.2.1
  have hP := hok.1
  have mok := ok.2.2.2.1.1
  have hz := hs.z
  refine MS.by ck_H_chance [some (vr 0), some (vi t), some (vi side), some (vi what), none, none, none, none] fun _ _ => ?_
  generalize hQ : (fun (r : Option AV) (M' : AM) => r = some (vi (aChance σ t side what)) ∧ CR M' σ ∧ Hi M M') = Q
  unfold aChance at hQ
  have a16 : ¬ ((side = 0 ∨ side = 1) ∧ 0 ≤ what ∧ what ≤ 1) → AW G d mi_H_chance Q 16 [some (vr 0), some (vi t), some (vi side), some (vi what), none, none, none, none] [] M := by
    intro q
    refine AW.run ck_H_chance [] 10 16 ?_
    simp only [wR, wB, wE0, wE1, wE2, wE3, g0, gS, s10, s11, s1S, s20, s21, s2S, kl0, kl1, kl2, kl3, sp0, sp1, sp2, sp3, cn1, cn2, cn3, cn4, cn5, cn6, jJa, lk0, lk1, jmS, jmN, s4_0, s4_1, s4_2, s4_3, s4_4, sw0, sw1, cKs, cKn, true_and, and_true, List.map_cons, List.map_nil, Nat.reduceAdd, Nat.zero_add, Int.reduceAdd, Nat.reduceEqDiff, reduceIte, Classical.not_not, b_H_chance]
    rw [if_neg q] at hQ
    subst hQ
    exact ⟨rfl, hR, Hi.refl⟩
  refine AW.run ck_H_chance [16, 19] 10 0 ?_
  simp only [wR, wB, wE0, wE1, wE2, wE3, g0, gS, s10, s11, s1S, s20, s21, s2S, kl0, kl1, kl2, kl3, sp0, sp1, sp2, sp3, cn1, cn2, cn3, cn4, cn5, cn6, jJa, lk0, lk1, jmS, jmN, s4_0, s4_1, s4_2, s4_3, s4_4, sw0, sw1, cKs, cKn, true_and, and_true, List.map_cons, List.map_nil, Nat.reduceAdd, Nat.zero_add, Int.reduceAdd, Nat.reduceEqDiff, reduceIte, Classical.not_not, b_H_chance, shH]
  refine ⟨by omega, MS.to c_H_isSide fun _ => ?_⟩
  simp only [wR, wB, wE0, wE1, wE2, wE3, g0, gS, s10, s11, s1S, s20, s21, s2S, kl0, kl1, kl2, kl3, sp0, sp1, sp2, sp3, cn1, cn2, cn3, cn4, cn5, cn6, jJa, lk0, lk1, jmS, jmN, s4_0, s4_1, s4_2, s4_3, s4_4, sw0, sw1, cKs, cKn, true_and, and_true, List.map_cons, List.map_nil, Nat.reduceAdd, Nat.zero_add, Int.reduceAdd, Nat.reduceEqDiff, reduceIte, Classical.not_not, b_H_chance, shH]
  by_cases q : side = 0 ∨ side = 1
  · rw [if_pos q]
    by_cases q2 : 0 ≤ what ∧ what ≤ 1
    · rw [if_pos ⟨q, q2⟩] at hQ
      obtain ⟨k, rfl, hk⟩ := side_n q
      rw [Int.toNat_natCast] at hQ
      have hW := sideS_lt (sd := σ.m.sd) (k := k) hP
      (repeat' (first | omega | (with_reducible exact True.intro) | exact ⟨by omega, by omega⟩ | (with_reducible exact Or.inr trivial) | (with_reducible exact Or.inl trivial) | (with_reducible assumption) | (with_reducible exact Same.refl) | (with_reducible rfl) | (with_reducible refine And.intro ?_ ?_) | (with_reducible intro _)))
      refine AW.run ck_H_chance [44] 10 19 ?_
      simp only [wR, wB, wE0, wE1, wE2, wE3, g0, gS, s10, s11, s1S, s20, s21, s2S, kl0, kl1, kl2, kl3, sp0, sp1, sp2, sp3, cn1, cn2, cn3, cn4, cn5, cn6, jJa, lk0, lk1, jmS, jmN, s4_0, s4_1, s4_2, s4_3, s4_4, sw0, sw1, cKs, cKn, true_and, and_true, List.map_cons, List.map_nil, Nat.reduceAdd, Nat.zero_add, Int.reduceAdd, Nat.reduceEqDiff, reduceIte, Classical.not_not, b_H_chance, shH, hs.1, hz]
      refine ⟨by omega, MS.to (c_Ha_everyone hz hs.2.2.2.2.2.1 hP) fun _ => ?_⟩
      simp only [wR, wB, wE0, wE1, wE2, wE3, g0, gS, s10, s11, s1S, s20, s21, s2S, kl0, kl1, kl2, kl3, sp0, sp1, sp2, sp3, cn1, cn2, cn3, cn4, cn5, cn6, jJa, lk0, lk1, jmS, jmN, s4_0, s4_1, s4_2, s4_3, s4_4, sw0, sw1, cKs, cKn, true_and, and_true, List.map_cons, List.map_nil, Nat.reduceAdd, Nat.zero_add, Int.reduceAdd, Nat.reduceEqDiff, reduceIte, Classical.not_not, b_H_chance, shH]
      refine ⟨by omega, MS.to (c_H_refusedNumbers (d := d - 1) (by omega) ok hR) fun _ => ?_⟩
      rw [show aRN σ t 6 0 ((2 ^ σ.h.P - 1 : Nat) : Int) = aRC σ t from rfl]
      simp only [wR, wB, wE0, wE1, wE2, wE3, g0, gS, s10, s11, s1S, s20, s21, s2S, kl0, kl1, kl2, kl3, sp0, sp1, sp2, sp3, cn1, cn2, cn3, cn4, cn5, cn6, jJa, lk0, lk1, jmS, jmN, s4_0, s4_1, s4_2, s4_3, s4_4, sw0, sw1, cKs, cKn, true_and, and_true, List.map_cons, List.map_nil, Nat.reduceAdd, Nat.zero_add, Int.reduceAdd, Nat.reduceEqDiff, reduceIte, Classical.not_not, b_H_chance, shH]
      by_cases q3 : aRC σ t = 0
      · rw [if_pos q3] at hQ
        obtain ⟨j, rfl, hj, hne, h1, h6, htl⟩ := aRC_0 hP q3
        rw [Int.toNat_natCast] at hQ
        have ho := tr_O j hj
        (repeat' (first | omega | (with_reducible exact True.intro) | exact ⟨by omega, by omega⟩ | (with_reducible exact Or.inr trivial) | (with_reducible exact Or.inl trivial) | (with_reducible assumption) | (with_reducible exact Same.refl) | (with_reducible rfl) | (with_reducible refine And.intro ?_ ?_) | (with_reducible intro _)))
        refine AW.run ck_H_chance [] 10 44 ?_
        simp only [wR, wB, wE0, wE1, wE2, wE3, g0, gS, s10, s11, s1S, s20, s21, s2S, kl0, kl1, kl2, kl3, sp0, sp1, sp2, sp3, cn1, cn2, cn3, cn4, cn5, cn6, jJa, lk0, lk1, jmS, jmN, s4_0, s4_1, s4_2, s4_3, s4_4, sw0, sw1, cKs, cKn, true_and, and_true, List.map_cons, List.map_nil, Nat.reduceAdd, Nat.zero_add, Int.reduceAdd, Nat.reduceEqDiff, reduceIte, Classical.not_not, b_H_chance, shH]
        refine ⟨by omega, (c_H_aimAtAll (d := d - 1) (by omega) ok hR).mono ?_⟩
        rintro r M1 okM1 ⟨rfl, u1, u2⟩
        have hs1 := CR.cz hs u2
        have hM1 := hM.eq (u2 _ (by omega)) (u2 _ (by omega))
        simp only [wR, wB, wE0, wE1, wE2, wE3, g0, gS, s10, s11, s1S, s20, s21, s2S, kl0, kl1, kl2, kl3, sp0, sp1, sp2, sp3, cn1, cn2, cn3, cn4, cn5, cn6, jJa, lk0, lk1, jmS, jmN, s4_0, s4_1, s4_2, s4_3, s4_4, sw0, sw1, cKs, cKn, true_and, and_true, List.map_cons, List.map_nil, Nat.reduceAdd, Nat.zero_add, Int.reduceAdd, Nat.reduceEqDiff, reduceIte, Classical.not_not, b_H_chance, shH, hs1.1, hs1.z, hM1.1]
        refine ⟨by omega, MS.to (c_Ha_ofSide (d := d - 1) (by omega) hs1.z hs1.2.2.2.2.2.1 hP hk (fun p _ => (mok.1 p).1)) fun _ => ?_⟩
        simp only [wR, wB, wE0, wE1, wE2, wE3, g0, gS, s10, s11, s1S, s20, s21, s2S, kl0, kl1, kl2, kl3, sp0, sp1, sp2, sp3, cn1, cn2, cn3, cn4, cn5, cn6, jJa, lk0, lk1, jmS, jmN, s4_0, s4_1, s4_2, s4_3, s4_4, sw0, sw1, cKs, cKn, true_and, and_true, List.map_cons, List.map_nil, Nat.reduceAdd, Nat.zero_add, Int.reduceAdd, Nat.reduceEqDiff, reduceIte, Classical.not_not, b_H_chance, shH]
        refine ⟨by omega, MS.to (c_H_nowCode (d := d - 1) (by omega) hs1 hM1 hP mok) fun _ => ?_⟩
        have t1 : M1 30 (j : Int) = 87 + 2 * (j : Int) := by rw [u2 30 (by omega)]; exact (hT j hj).1
        simp only [wR, wB, wE0, wE1, wE2, wE3, g0, gS, s10, s11, s1S, s20, s21, s2S, kl0, kl1, kl2, kl3, sp0, sp1, sp2, sp3, cn1, cn2, cn3, cn4, cn5, cn6, jJa, lk0, lk1, jmS, jmN, s4_0, s4_1, s4_2, s4_3, s4_4, sw0, sw1, cKs, cKn, true_and, and_true, List.map_cons, List.map_nil, Nat.reduceAdd, Nat.zero_add, Int.reduceAdd, Nat.reduceEqDiff, reduceIte, Classical.not_not, b_H_chance, shH, shR0, l30, t1, ho, hs1.1, hs1.z, hs1.2.2.2.2.1]
        (repeat' (first | omega | (with_reducible exact True.intro) | exact ⟨by omega, by omega⟩ | (with_reducible exact Or.inr trivial) | (with_reducible exact Or.inl trivial) | (with_reducible assumption) | (with_reducible exact Same.refl) | (with_reducible rfl) | (with_reducible refine And.intro ?_ ?_) | (with_reducible intro _)))
        refine (c_fall (d := d - 1) (own := sideS σ.m.sd σ.h.P k) (must := σ.h.must) (by omega) ok hR hj hne h6 htl u1 u2 hW).mono ?_
        rintro r N okN ⟨rfl, ⟨a, b, F, v1, v2, v3⟩, c1, c2⟩
        have h10 := p10 h6
        simp only [wR, wB, wE0, wE1, wE2, wE3, g0, gS, s10, s11, s1S, s20, s21, s2S, kl0, kl1, kl2, kl3, sp0, sp1, sp2, sp3, cn1, cn2, cn3, cn4, cn5, cn6, jJa, lk0, lk1, jmS, jmN, s4_0, s4_1, s4_2, s4_3, s4_4, sw0, sw1, cKs, cKn, true_and, and_true, List.map_cons, List.map_nil, Nat.reduceAdd, Nat.zero_add, Int.reduceAdd, Nat.reduceEqDiff, reduceIte, Classical.not_not, b_H_chance, shH]
        refine ⟨by omega, MS.to (c_Ro_total v1 (by omega)) fun _ => ?_⟩
        have e1 : F.val (fun _ => 1) = exC σ j k := by rw [v2]; unfold exC; rw [Int.toNat_natCast]
        rw [e1] at v3 ⊢
        simp only [wR, wB, wE0, wE1, wE2, wE3, g0, gS, s10, s11, s1S, s20, s21, s2S, kl0, kl1, kl2, kl3, sp0, sp1, sp2, sp3, cn1, cn2, cn3, cn4, cn5, cn6, jJa, lk0, lk1, jmS, jmN, s4_0, s4_1, s4_2, s4_3, s4_4, sw0, sw1, cKs, cKn, true_and, and_true, List.map_cons, List.map_nil, Nat.reduceAdd, Nat.zero_add, Int.reduceAdd, Nat.reduceEqDiff, reduceIte, Classical.not_not, b_H_chance, shH]
        refine ⟨by omega, MS.to (c_H_ofFraction (by omega) h10.1 (by omega)) fun _ => ?_⟩
        simp only [wR, wB, wE0, wE1, wE2, wE3, g0, gS, s10, s11, s1S, s20, s21, s2S, kl0, kl1, kl2, kl3, sp0, sp1, sp2, sp3, cn1, cn2, cn3, cn4, cn5, cn6, jJa, lk0, lk1, jmS, jmN, s4_0, s4_1, s4_2, s4_3, s4_4, sw0, sw1, cKs, cKn, true_and, and_true, List.map_cons, List.map_nil, Nat.reduceAdd, Nat.zero_add, Int.reduceAdd, Nat.reduceEqDiff, reduceIte, Classical.not_not, b_H_chance]
        subst hQ
        exact ⟨rfl, c1, c2⟩
      · rw [if_neg q3] at hQ
        subst hQ
        have := Hi.refl (M := M)
        (repeat' (first | omega | (with_reducible exact True.intro) | exact ⟨by omega, by omega⟩ | (with_reducible exact Or.inr trivial) | (with_reducible exact Or.inl trivial) | (with_reducible assumption) | (with_reducible exact Same.refl) | (with_reducible rfl) | (with_reducible refine And.intro ?_ ?_) | (with_reducible intro _)))
    · have := a16 (fun h => q2 h.2)
      (repeat' (first | omega | (with_reducible exact True.intro) | exact ⟨by omega, by omega⟩ | (with_reducible exact Or.inr trivial) | (with_reducible exact Or.inl trivial) | (with_reducible assumption) | (with_reducible exact Same.refl) | (with_reducible rfl) | (with_reducible refine And.intro ?_ ?_) | (with_reducible intro _)))
  · rw [if_neg q]
    have := a16 (fun h => q h.1)
    (repeat' (first | omega | (with_reducible exact True.intro) | exact ⟨by omega, by omega⟩ | (with_reducible exact Or.inr trivial) | (with_reducible exact Or.inl trivial) | (with_reducible assumption) | (with_reducible exact Same.refl) | (with_reducible rfl) | (with_reducible refine And.intro ?_ ?_) | (with_reducible intro _)))
theorem c_H_mean {t what : Int} {B : Nat} {σ : Sg} (hd : 20 ≤ d) (ok : SgOK B σ) (hR : CR M σ) : MS G d mi_H_mean [vr 0, vi t, vi what] M (fun r M' => r = some (vi (aMean σ t what)) ∧ CR M' σ ∧ Hi M M') := by
  obtain ⟨z, hs, hM, hp, hT⟩ := hR.z
  have hok := ok.2.2.1
  have hP := hok.1
  have mok := ok.2.2.2.1.1
  have hz := hs.z
  refine MS.by ck_H_mean [some (vr 0), some (vi t), some (vi what), none, none, none] fun _ _ => ?_
  generalize hQ : (fun (r : Option AV) (M' : AM) => r = some (vi (aMean σ t what)) ∧ CR M' σ ∧ Hi M M') = Q
  unfold aMean at hQ
  have a9 : ¬ (0 ≤ what ∧ what ≤ 1) → AW G d mi_H_mean Q 9 [some (vr 0), some (vi t), some (vi what), none, none, none] [] M := by
    intro q
    refine AW.run ck_H_mean [] 10 9 ?_
    simp only [wR, wB, wE0, wE1, wE2, wE3, g0, gS, s10, s11, s1S, s20, s21, s2S, kl0, kl1, kl2, kl3, sp0, sp1, sp2, sp3, cn1, cn2, cn3, cn4, cn5, cn6, jJa, lk0, lk1, jmS, jmN, s4_0, s4_1, s4_2, s4_3, s4_4, sw0, sw1, cKs, cKn, true_and, and_true, List.map_cons, List.map_nil, Nat.reduceAdd, Nat.zero_add, Int.reduceAdd, Nat.reduceEqDiff, reduceIte, Classical.not_not, b_H_mean]
    rw [if_neg q] at hQ
    subst hQ
    exact ⟨rfl, hR, Hi.refl⟩
  refine AW.run ck_H_mean [9, 12] 10 0 ?_
  simp only [wR, wB, wE0, wE1, wE2, wE3, g0, gS, s10, s11, s1S, s20, s21, s2S, kl0, kl1, kl2, kl3, sp0, sp1, sp2, sp3, cn1, cn2, cn3, cn4, cn5, cn6, jJa, lk0, lk1, jmS, jmN, s4_0, s4_1, s4_2, s4_3, s4_4, sw0, sw1, cKs, cKn, true_and, and_true, List.map_cons, List.map_nil, Nat.reduceAdd, Nat.zero_add, Int.reduceAdd, Nat.reduceEqDiff, reduceIte, Classical.not_not, b_H_mean, shH]
  by_cases q2 : 0 ≤ what ∧ what ≤ 1
  · rw [if_pos q2] at hQ
    (repeat' (first | omega | (with_reducible exact True.intro) | exact ⟨by omega, by omega⟩ | (with_reducible exact Or.inr trivial) | (with_reducible exact Or.inl trivial) | (with_reducible assumption) | (with_reducible exact Same.refl) | (with_reducible rfl) | (with_reducible refine And.intro ?_ ?_) | (with_reducible intro _)))
    refine AW.run ck_H_mean [34] 10 12 ?_
    simp only [wR, wB, wE0, wE1, wE2, wE3, g0, gS, s10, s11, s1S, s20, s21, s2S, kl0, kl1, kl2, kl3, sp0, sp1, sp2, sp3, cn1, cn2, cn3, cn4, cn5, cn6, jJa, lk0, lk1, jmS, jmN, s4_0, s4_1, s4_2, s4_3, s4_4, sw0, sw1, cKs, cKn, true_and, and_true, List.map_cons, List.map_nil, Nat.reduceAdd, Nat.zero_add, Int.reduceAdd, Nat.reduceEqDiff, reduceIte, Classical.not_not, b_H_mean, shH, hs.1, hz]
    refine ⟨by omega, MS.to (c_Ha_everyone hz hs.2.2.2.2.2.1 hP) fun _ => ?_⟩
    simp only [wR, wB, wE0, wE1, wE2, wE3, g0, gS, s10, s11, s1S, s20, s21, s2S, kl0, kl1, kl2, kl3, sp0, sp1, sp2, sp3, cn1, cn2, cn3, cn4, cn5, cn6, jJa, lk0, lk1, jmS, jmN, s4_0, s4_1, s4_2, s4_3, s4_4, sw0, sw1, cKs, cKn, true_and, and_true, List.map_cons, List.map_nil, Nat.reduceAdd, Nat.zero_add, Int.reduceAdd, Nat.reduceEqDiff, reduceIte, Classical.not_not, b_H_mean, shH]
    refine ⟨by omega, MS.to (c_H_refusedNumbers (d := d - 1) (by omega) ok hR) fun _ => ?_⟩
    rw [show aRN σ t 6 0 ((2 ^ σ.h.P - 1 : Nat) : Int) = aRC σ t from rfl]
    simp only [wR, wB, wE0, wE1, wE2, wE3, g0, gS, s10, s11, s1S, s20, s21, s2S, kl0, kl1, kl2, kl3, sp0, sp1, sp2, sp3, cn1, cn2, cn3, cn4, cn5, cn6, jJa, lk0, lk1, jmS, jmN, s4_0, s4_1, s4_2, s4_3, s4_4, sw0, sw1, cKs, cKn, true_and, and_true, List.map_cons, List.map_nil, Nat.reduceAdd, Nat.zero_add, Int.reduceAdd, Nat.reduceEqDiff, reduceIte, Classical.not_not, b_H_mean, shH]
    by_cases q3 : aRC σ t = 0
    · rw [if_pos q3] at hQ
      obtain ⟨j, rfl, hj, hne, h1, h6, htl⟩ := aRC_0 hP q3
      rw [Int.toNat_natCast] at hQ
      have ho := tr_O j hj
      (repeat' (first | omega | (with_reducible exact True.intro) | exact ⟨by omega, by omega⟩ | (with_reducible exact Or.inr trivial) | (with_reducible exact Or.inl trivial) | (with_reducible assumption) | (with_reducible exact Same.refl) | (with_reducible rfl) | (with_reducible refine And.intro ?_ ?_) | (with_reducible intro _)))
      refine AW.run ck_H_mean [] 10 34 ?_
      simp only [wR, wB, wE0, wE1, wE2, wE3, g0, gS, s10, s11, s1S, s20, s21, s2S, kl0, kl1, kl2, kl3, sp0, sp1, sp2, sp3, cn1, cn2, cn3, cn4, cn5, cn6, jJa, lk0, lk1, jmS, jmN, s4_0, s4_1, s4_2, s4_3, s4_4, sw0, sw1, cKs, cKn, true_and, and_true, List.map_cons, List.map_nil, Nat.reduceAdd, Nat.zero_add, Int.reduceAdd, Nat.reduceEqDiff, reduceIte, Classical.not_not, b_H_mean, shH]
      refine ⟨by omega, (c_H_aimAtAll (d := d - 1) (by omega) ok hR).mono ?_⟩
      rintro r M1 okM1 ⟨rfl, u1, u2⟩
      have hs1 := CR.cz hs u2
      have hM1 := hM.eq (u2 _ (by omega)) (u2 _ (by omega))
      simp only [wR, wB, wE0, wE1, wE2, wE3, g0, gS, s10, s11, s1S, s20, s21, s2S, kl0, kl1, kl2, kl3, sp0, sp1, sp2, sp3, cn1, cn2, cn3, cn4, cn5, cn6, jJa, lk0, lk1, jmS, jmN, s4_0, s4_1, s4_2, s4_3, s4_4, sw0, sw1, cKs, cKn, true_and, and_true, List.map_cons, List.map_nil, Nat.reduceAdd, Nat.zero_add, Int.reduceAdd, Nat.reduceEqDiff, reduceIte, Classical.not_not, b_H_mean, shH]
      refine ⟨by omega, MS.to (c_H_nowCode (d := d - 1) (by omega) hs1 hM1 hP mok) fun _ => ?_⟩
      have t1 : M1 30 (j : Int) = 87 + 2 * (j : Int) := by rw [u2 30 (by omega)]; exact (hT j hj).1
      simp only [wR, wB, wE0, wE1, wE2, wE3, g0, gS, s10, s11, s1S, s20, s21, s2S, kl0, kl1, kl2, kl3, sp0, sp1, sp2, sp3, cn1, cn2, cn3, cn4, cn5, cn6, jJa, lk0, lk1, jmS, jmN, s4_0, s4_1, s4_2, s4_3, s4_4, sw0, sw1, cKs, cKn, true_and, and_true, List.map_cons, List.map_nil, Nat.reduceAdd, Nat.zero_add, Int.reduceAdd, Nat.reduceEqDiff, reduceIte, Classical.not_not, b_H_mean, shH, shR0, l30, t1, ho]
      (repeat' (first | omega | (with_reducible exact True.intro) | exact ⟨by omega, by omega⟩ | (with_reducible exact Or.inr trivial) | (with_reducible exact Or.inl trivial) | (with_reducible assumption) | (with_reducible exact Same.refl) | (with_reducible rfl) | (with_reducible refine And.intro ?_ ?_) | (with_reducible intro _)))
      refine (c_fall (d := d - 1) (own := 0) (must := 0) (by omega) ok hR hj hne h6 htl u1 u2 (by omega)).mono ?_
      rintro r N okN ⟨rfl, ⟨a, b, F, v1, v2, v3⟩, c1, c2⟩
      have h10 := p10 h6
      have hvl := val_le (F := F) (g := sumS) (c := 20) sumS_le
      simp only [wR, wB, wE0, wE1, wE2, wE3, g0, gS, s10, s11, s1S, s20, s21, s2S, kl0, kl1, kl2, kl3, sp0, sp1, sp2, sp3, cn1, cn2, cn3, cn4, cn5, cn6, jJa, lk0, lk1, jmS, jmN, s4_0, s4_1, s4_2, s4_3, s4_4, sw0, sw1, cKs, cKn, true_and, and_true, List.map_cons, List.map_nil, Nat.reduceAdd, Nat.zero_add, Int.reduceAdd, Nat.reduceEqDiff, reduceIte, Classical.not_not, b_H_mean, shH]
      refine ⟨by omega, MS.to (c_Ro_strengthsInAll (d := d - 1) (by omega) v1 v3) fun _ => ?_⟩
      have e1 : F.val sumS = exM σ j := by rw [v2]; unfold exM; rw [Int.toNat_natCast]
      rw [e1] at hvl ⊢
      simp only [wR, wB, wE0, wE1, wE2, wE3, g0, gS, s10, s11, s1S, s20, s21, s2S, kl0, kl1, kl2, kl3, sp0, sp1, sp2, sp3, cn1, cn2, cn3, cn4, cn5, cn6, jJa, lk0, lk1, jmS, jmN, s4_0, s4_1, s4_2, s4_3, s4_4, sw0, sw1, cKs, cKn, true_and, and_true, List.map_cons, List.map_nil, Nat.reduceAdd, Nat.zero_add, Int.reduceAdd, Nat.reduceEqDiff, reduceIte, Classical.not_not, b_H_mean, shH]
      refine ⟨by omega, MS.to (c_H_ofFraction (by omega) h10.1 (by omega)) fun _ => ?_⟩
      simp only [wR, wB, wE0, wE1, wE2, wE3, g0, gS, s10, s11, s1S, s20, s21, s2S, kl0, kl1, kl2, kl3, sp0, sp1, sp2, sp3, cn1, cn2, cn3, cn4, cn5, cn6, jJa, lk0, lk1, jmS, jmN, s4_0, s4_1, s4_2, s4_3, s4_4, sw0, sw1, cKs, cKn, true_and, and_true, List.map_cons, List.map_nil, Nat.reduceAdd, Nat.zero_add, Int.reduceAdd, Nat.reduceEqDiff, reduceIte, Classical.not_not, b_H_mean]
      subst hQ
      exact ⟨rfl, c1, c2⟩
    · rw [if_neg q3] at hQ
      subst hQ
      have := Hi.refl (M := M)
      (repeat' (first | omega | (with_reducible exact True.intro) | exact ⟨by omega, by omega⟩ | (with_reducible exact Or.inr trivial) | (with_reducible exact Or.inl trivial) | (with_reducible assumption) | (with_reducible exact Same.refl) | (with_reducible rfl) | (with_reducible refine And.intro ?_ ?_) | (with_reducible intro _)))
  · have := a9 q2
    (repeat' (first | omega | (with_reducible exact True.intro) | exact ⟨by omega, by omega⟩ | (with_reducible exact Or.inr trivial) | (with_reducible exact Or.inl trivial) | (with_reducible assumption) | (with_reducible exact Same.refl) | (with_reducible rfl) | (with_reducible refine And.intro ?_ ?_) | (with_reducible intro _)))
end CHA
