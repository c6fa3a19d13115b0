/-! what the class answers of people and sets -/
theorem Chs.z {M : AM} {z : Int} {σ : Sg} (h : Chs M z σ) : isO z 2 := by
  rcases h.2.2.1 with q | q <;> rw [q]
  · exact shO0.2.2.1
  · exact shO0.2.2.2.2.2.1
def aWhy (σ : Sg) (v : Int) : Int := whyS σ.h.P σ.m.st v
/-- a refused set -/
def aRS (σ : Sg) (v : Int) : Int := if aWhy σ v = 1 then -3 else if aWhy σ v = 2 then -5 else 0
theorem aRS_set {σ : Sg} {v : Int} (h : aRS σ v = 0) : 0 ≤ v ∧ v < ((2 ^ σ.h.P : Nat) : Int) := by
  unfold aRS aWhy whyS at h
  by_cases q : 0 ≤ v ∧ v < ((2 ^ σ.h.P : Nat) : Int)
  · exact q
  · rw [if_neg q, if_pos rfl] at h; omega
theorem CR.inv {M : AM} {σ : Sg} (h : CR M σ) : StInv M σ.h := by
  obtain ⟨_, _, _, _, _, _, _, _, j⟩ := h
  exact j.1
theorem CR.rw {M : AM} {σ : Sg} (h : CR M σ) : RwInv M := by
  obtain ⟨_, _, _, _, _, _, _, _, j⟩ := h
  exact j.2
theorem CR.z78 {M N : AM} {z : Int} {σ : Sg} (h : CR M σ) (hz : z = 7 ∨ z = 16) (hs : Same [z + 7, z + 8] M N) : CR N σ ∧ Hi M N := by
  have hsc : Scr M N := hs.scr (by intro x hx; simp only [List.mem_cons, List.not_mem_nil, or_false] at hx; omega)
  exact ⟨h.scr hsc (h.inv.eq (fun x h1 h2 => hs x (by (first | decide | (simp only [List.mem_cons, List.not_mem_nil, or_false, not_or, not_false_eq_true, and_true]; omega) | (simp [List.mem_cons]; done))))), hsc.hi⟩
section CQ
variable {G : AG} {d : Nat} {M : AM}
theorem c_H_isPerson {z p : Int} {σ : Sg} (hs : Chs M z σ) : MS G d mi_H_isPerson [vr 0, vi p] M (fun r M' => r = some (vi (if 0 ≤ p ∧ p < σ.h.P then 1 else 0)) ∧ M' = M) := by
  have hz := hs.z
  refine MS.run ck_H_isPerson [some (vr 0), some (vi p)] [] 10 fun _ _ => ?_
  simp only [wR, wB, wE0, wE1, wE2, wE3, g0, gS, s10, s11, s1S, s20, s21, s2S, kl0, kl1, kl2, kl3, sp0, sp1, sp2, sp3, cn1, cn2, cn3, cn4, cn5, cn6, jJa, lk0, lk1, jmS, jmN, s4_0, s4_1, s4_2, s4_3, s4_4, sw0, sw1, cKs, cKn, true_and, and_true, List.map_cons, List.map_nil, Nat.reduceAdd, Nat.zero_add, Int.reduceAdd, Nat.reduceEqDiff, reduceIte, Classical.not_not, b_H_isPerson, shH, hs.1, hz, hs.2.2.2.2.2.1]
  (repeat' (first | omega | exact ⟨by omega, by omega⟩ | (with_reducible exact Or.inr trivial) | (with_reducible exact Or.inl trivial) | (with_reducible assumption) | (with_reducible exact Same.refl) | (with_reducible rfl) | (with_reducible refine And.intro ?_ ?_) | (with_reducible intro _)))
  all_goals first | rw [if_pos (by omega)] | rw [if_neg (by omega)]
theorem c_H_isSide {s : Int} : MS G d mi_H_isSide [vi s] M (fun r M' => r = some (vi (if s = 0 ∨ s = 1 then 1 else 0)) ∧ M' = M) := by
  refine MS.run ck_H_isSide [some (vi s)] [] 10 fun _ _ => ?_
  simp only [wR, wB, wE0, wE1, wE2, wE3, g0, gS, s10, s11, s1S, s20, s21, s2S, kl0, kl1, kl2, kl3, sp0, sp1, sp2, sp3, cn1, cn2, cn3, cn4, cn5, cn6, jJa, lk0, lk1, jmS, jmN, s4_0, s4_1, s4_2, s4_3, s4_4, sw0, sw1, cKs, cKn, true_and, and_true, List.map_cons, List.map_nil, Nat.reduceAdd, Nat.zero_add, Int.reduceAdd, Nat.reduceEqDiff, reduceIte, Classical.not_not, b_H_isSide]
  (repeat' (first | omega | exact ⟨by omega, by omega⟩ | (with_reducible exact Or.inr trivial) | (with_reducible exact Or.inl trivial) | (with_reducible assumption) | (with_reducible exact Same.refl) | (with_reducible rfl) | (with_reducible refine And.intro ?_ ?_) | (with_reducible intro _)))
  all_goals first | rw [if_pos (by omega)] | rw [if_neg (by omega)]
theorem c_H_isTray {s : Int} : MS G d mi_H_isTray [vi s] M (fun r M' => r = some (vi (if 0 ≤ s ∧ s < 4 then 1 else 0)) ∧ M' = M) := by
  refine MS.run ck_H_isTray [some (vi s)] [] 10 fun _ _ => ?_
  simp only [wR, wB, wE0, wE1, wE2, wE3, g0, gS, s10, s11, s1S, s20, s21, s2S, kl0, kl1, kl2, kl3, sp0, sp1, sp2, sp3, cn1, cn2, cn3, cn4, cn5, cn6, jJa, lk0, lk1, jmS, jmN, s4_0, s4_1, s4_2, s4_3, s4_4, sw0, sw1, cKs, cKn, true_and, and_true, List.map_cons, List.map_nil, Nat.reduceAdd, Nat.zero_add, Int.reduceAdd, Nat.reduceEqDiff, reduceIte, Classical.not_not, b_H_isTray]
  (repeat' (first | omega | exact ⟨by omega, by omega⟩ | (with_reducible exact Or.inr trivial) | (with_reducible exact Or.inl trivial) | (with_reducible assumption) | (with_reducible exact Same.refl) | (with_reducible rfl) | (with_reducible refine And.intro ?_ ?_) | (with_reducible intro _)))
  all_goals first | rw [if_pos (by omega)] | rw [if_neg (by omega)]
theorem c_H_isSet {z v : Int} {σ : Sg} (hd : 1 ≤ d) (hs : Chs M z σ) (hP : σ.h.P ≤ 5) (hv : inI v) : MS G d mi_H_isSet [vr 0, vi v] M (fun r M' => r = some (vi (if 0 ≤ v ∧ v < ((2 ^ σ.h.P : Nat) : Int) then 1 else 0)) ∧ M' = M) := by
  have hz := hs.z
  refine MS.run ck_H_isSet [some (vr 0), some (vi v)] [] 10 fun _ _ => ?_
  simp only [wR, wB, wE0, wE1, wE2, wE3, g0, gS, s10, s11, s1S, s20, s21, s2S, kl0, kl1, kl2, kl3, sp0, sp1, sp2, sp3, cn1, cn2, cn3, cn4, cn5, cn6, jJa, lk0, lk1, jmS, jmN, s4_0, s4_1, s4_2, s4_3, s4_4, sw0, sw1, cKs, cKn, true_and, and_true, List.map_cons, List.map_nil, Nat.reduceAdd, Nat.zero_add, Int.reduceAdd, Nat.reduceEqDiff, reduceIte, Classical.not_not, b_H_isSet, shH, hs.1, hz]
  refine ⟨by omega, MS.to (c_Ha_everyone hz hs.2.2.2.2.2.1 hP) fun _ => ?_⟩
  have e := set_iff hv hP
  simp only [wR, wB, wE0, wE1, wE2, wE3, g0, gS, s10, s11, s1S, s20, s21, s2S, kl0, kl1, kl2, kl3, sp0, sp1, sp2, sp3, cn1, cn2, cn3, cn4, cn5, cn6, jJa, lk0, lk1, jmS, jmN, s4_0, s4_1, s4_2, s4_3, s4_4, sw0, sw1, cKs, cKn, true_and, and_true, List.map_cons, List.map_nil, Nat.reduceAdd, Nat.zero_add, Int.reduceAdd, Nat.reduceEqDiff, reduceIte, Classical.not_not, b_H_isSet, e]
  (repeat' (first | omega | exact ⟨by omega, by omega⟩ | (with_reducible exact Or.inr trivial) | (with_reducible exact Or.inl trivial) | (with_reducible assumption) | (with_reducible exact Same.refl) | (with_reducible rfl) | (with_reducible refine And.intro ?_ ?_) | (with_reducible intro _)))
  all_goals first | rw [if_pos (by omega)] | rw [if_neg (by omega)]
theorem c_H_refusedSet {z v : Int} {σ : Sg} (hd : 2 ≤ d) (hs : Chs M z σ) (hM : CM M 25 σ.h.P σ.m) (hP : σ.h.P ≤ 5) (hv : inI v) : MS G d mi_H_refusedSet [vr 0, vi v] M (fun r M' => r = some (vi (aRS σ v)) ∧ M' = M) := by
  have hz := hs.z
  have h32 := p2_32 hP
  refine MS.run ck_H_refusedSet [some (vr 0), some (vi v)] [] 10 fun _ _ => ?_
  simp only [wR, wB, wE0, wE1, wE2, wE3, g0, gS, s10, s11, s1S, s20, s21, s2S, kl0, kl1, kl2, kl3, sp0, sp1, sp2, sp3, cn1, cn2, cn3, cn4, cn5, cn6, jJa, lk0, lk1, jmS, jmN, s4_0, s4_1, s4_2, s4_3, s4_4, sw0, sw1, cKs, cKn, true_and, and_true, List.map_cons, List.map_nil, Nat.reduceAdd, Nat.zero_add, Int.reduceAdd, Nat.reduceEqDiff, reduceIte, Classical.not_not, b_H_refusedSet, shH]
  refine ⟨by omega, MS.to (c_H_isSet (by omega) hs hP hv) fun _ => ?_⟩
  simp only [wR, wB, wE0, wE1, wE2, wE3, g0, gS, s10, s11, s1S, s20, s21, s2S, kl0, kl1, kl2, kl3, sp0, sp1, sp2, sp3, cn1, cn2, cn3, cn4, cn5, cn6, jJa, lk0, lk1, jmS, jmN, s4_0, s4_1, s4_2, s4_3, s4_4, sw0, sw1, cKs, cKn, true_and, and_true, List.map_cons, List.map_nil, Nat.reduceAdd, Nat.zero_add, Int.reduceAdd, Nat.reduceEqDiff, reduceIte, Classical.not_not, b_H_refusedSet, shH]
  unfold aRS aWhy whyS
  by_cases q : 0 ≤ v ∧ v < ((2 ^ σ.h.P : Nat) : Int)
  · rw [if_pos q, if_pos q]
    obtain ⟨n, rfl⟩ := Int.eq_ofNat_of_zero_le q.1
    (repeat' (first | omega | exact ⟨by omega, by omega⟩ | (with_reducible exact Or.inr trivial) | (with_reducible exact Or.inl trivial) | (with_reducible assumption) | (with_reducible exact Same.refl) | (with_reducible rfl) | (with_reducible refine And.intro ?_ ?_) | (with_reducible intro _)))
    refine MS.to (c_Mo_able shH.2.2.2.1) fun _ => ?_
    rw [hM.able hP]
    simp only [wR, wB, wE0, wE1, wE2, wE3, g0, gS, s10, s11, s1S, s20, s21, s2S, kl0, kl1, kl2, kl3, sp0, sp1, sp2, sp3, cn1, cn2, cn3, cn4, cn5, cn6, jJa, lk0, lk1, jmS, jmN, s4_0, s4_1, s4_2, s4_3, s4_4, sw0, sw1, cKs, cKn, true_and, and_true, List.map_cons, List.map_nil, Nat.reduceAdd, Nat.zero_add, Int.reduceAdd, Nat.reduceEqDiff, reduceIte, Classical.not_not, b_H_refusedSet, bAndN_n (show n < 32 by omega) (ablM_lt (st := σ.m.st) hP), Int.toNat_natCast]
    by_cases q2 : n &&& (31 ^^^ ablM σ.h.P σ.m.st) = 0
    · simp [q2]
    · simp [q2]
  · rw [if_neg q, if_neg q]
    (repeat' (first | omega | exact ⟨by omega, by omega⟩ | (with_reducible exact Or.inr trivial) | (with_reducible exact Or.inl trivial) | (with_reducible assumption) | (with_reducible exact Same.refl) | (with_reducible rfl) | (with_reducible refine And.intro ?_ ?_) | (with_reducible intro _)))
    rfl
def aPerson (σ : Sg) (p what : Int) : Int := if ¬ (0 ≤ p ∧ p < (σ.h.P : Int)) ∨ what < 0 ∨ 4 < what then -2 else if what = 0 then σ.m.sd p.toNat else if what = 1 then σ.m.st p.toNat else if what = 2 then σ.h.wt p.toNat else if what = 3 then σ.h.rd p.toNat else if cnts σ.h σ.m.sd σ.m.cold p.toNat (σ.m.st p.toNat) = true then 1 else 0
theorem CM.st {M : AM} {z : Int} {P : Nat} {m : Mo} (h : CM M z P m) (hP : P ≤ 5) {p : Nat} (hp : p < P) : M (z + 1) p = m.st p := by
  rw [h.2.2.2 p (by omega), if_pos hp]
theorem c_H_person {p what : Int} {B : Nat} {σ : Sg} (hd : 20 ≤ d) (ok : SgOK B σ) (hR : CR M σ) : MS G d mi_H_person [vr 0, vi p, vi what] M (fun r M' => r = some (vi (aPerson σ p what)) ∧ CR M' σ ∧ Hi M M') := by
  obtain ⟨z, hs, hR2⟩ := id hR
  have hz := hs.z
  have hzz := hs.2.2.1
  have hM := hR2.2.2.1
  have hP := ok.2.2.1.1
  have mok := ok.2.2.2.1.1
  refine MS.by ck_H_person [some (vr 0), some (vi p), some (vi what)] fun _ _ => ?_
  refine AW.run ck_H_person [17, 20] 10 0 ?_
  have a17 : (¬ (0 ≤ p ∧ p < (σ.h.P : Int)) ∨ what < 0 ∨ 4 < what) → AW G d mi_H_person (fun r M' => r = some (vi (aPerson σ p what)) ∧ CR M' σ ∧ Hi M M') 17 [some (vr 0), some (vi p), some (vi what)] [] M := by
    intro h
    refine AW.run ck_H_person [] 10 17 ?_
    simp only [wR, wB, wE0, wE1, wE2, wE3, g0, gS, s10, s11, s1S, s20, s21, s2S, kl0, kl1, kl2, kl3, sp0, sp1, sp2, sp3, cn1, cn2, cn3, cn4, cn5, cn6, jJa, lk0, lk1, jmS, jmN, s4_0, s4_1, s4_2, s4_3, s4_4, sw0, sw1, cKs, cKn, true_and, and_true, List.map_cons, List.map_nil, Nat.reduceAdd, Nat.zero_add, Int.reduceAdd, Nat.reduceEqDiff, reduceIte, Classical.not_not, b_H_person]
    unfold aPerson
    rw [if_pos h]
    exact ⟨rfl, hR, Hi.refl⟩
  simp only [wR, wB, wE0, wE1, wE2, wE3, g0, gS, s10, s11, s1S, s20, s21, s2S, kl0, kl1, kl2, kl3, sp0, sp1, sp2, sp3, cn1, cn2, cn3, cn4, cn5, cn6, jJa, lk0, lk1, jmS, jmN, s4_0, s4_1, s4_2, s4_3, s4_4, sw0, sw1, cKs, cKn, true_and, and_true, List.map_cons, List.map_nil, Nat.reduceAdd, Nat.zero_add, Int.reduceAdd, Nat.reduceEqDiff, reduceIte, Classical.not_not, b_H_person, shH]
  refine ⟨by omega, MS.to (c_H_isPerson hs) fun _ => ?_⟩
  simp only [wR, wB, wE0, wE1, wE2, wE3, g0, gS, s10, s11, s1S, s20, s21, s2S, kl0, kl1, kl2, kl3, sp0, sp1, sp2, sp3, cn1, cn2, cn3, cn4, cn5, cn6, jJa, lk0, lk1, jmS, jmN, s4_0, s4_1, s4_2, s4_3, s4_4, sw0, sw1, cKs, cKn, true_and, and_true, List.map_cons, List.map_nil, Nat.reduceAdd, Nat.zero_add, Int.reduceAdd, Nat.reduceEqDiff, reduceIte, Classical.not_not, b_H_person, shH]
  by_cases hp : 0 ≤ p ∧ p < σ.h.P
  · rw [if_pos hp]
    obtain ⟨n, rfl⟩ := Int.eq_ofNat_of_zero_le hp.1
    have hn : n < σ.h.P := by omega
    (repeat' (first | omega | exact ⟨by omega, by omega⟩ | (with_reducible exact Or.inr trivial) | (with_reducible exact Or.inl trivial) | (with_reducible assumption) | (with_reducible exact Same.refl) | (with_reducible rfl) | (with_reducible refine And.intro ?_ ?_) | (with_reducible intro _)))
    · exact a17 (by omega)
    · refine AW.run ck_H_person [] 10 20 ?_
      have e1 : bAnd (bShr ((sdB σ.m.sd σ.h.P : Nat) : Int) (n : Int)) 1 = σ.m.sd n := bit1 hP hn (mok.1 n).1
      have e2 := bit1 (g := σ.h.rd) hP hn (ok.2.2.1.2.2.1 n).2
      have est : (if 0 ≤ (n : Int) ∧ (n : Int) < 5 then M 26 n else 0) = σ.m.st n := by
        rw [if_pos (by omega)]; exact hM.st hP hn
      have hw : what = 0 ∨ what = 1 ∨ what = 2 ∨ what = 3 ∨ what = 4 := by omega
      have ea : aPerson σ n what = if what = 0 then (σ.m.sd n : Int) else if what = 1 then (σ.m.st n : Int) else if what = 2 then (σ.h.wt n : Int) else if what = 3 then (σ.h.rd n : Int) else if cnts σ.h σ.m.sd σ.m.cold n (σ.m.st n) = true then 1 else 0 := by
        unfold aPerson
        rw [if_neg (by omega), Int.toNat_natCast]
      rw [ea]
      rcases hw with rfl | rfl | rfl | rfl | rfl
      · simp only [wR, wB, wE0, wE1, wE2, wE3, g0, gS, s10, s11, s1S, s20, s21, s2S, kl0, kl1, kl2, kl3, sp0, sp1, sp2, sp3, cn1, cn2, cn3, cn4, cn5, cn6, jJa, lk0, lk1, jmS, jmN, s4_0, s4_1, s4_2, s4_3, s4_4, sw0, sw1, cKs, cKn, true_and, and_true, List.map_cons, List.map_nil, Nat.reduceAdd, Nat.zero_add, Int.reduceAdd, Nat.reduceEqDiff, reduceIte, Classical.not_not, b_H_person, shH, up_rd, Int.reduceEq, and_false, false_and, and_self, reduceIte, not_true_eq_false, not_false_eq_true, false_imp_iff, true_imp_iff, true_or, or_true, hM.1, e1]
        exact ⟨hR, Hi.refl⟩
      · simp only [wR, wB, wE0, wE1, wE2, wE3, g0, gS, s10, s11, s1S, s20, s21, s2S, kl0, kl1, kl2, kl3, sp0, sp1, sp2, sp3, cn1, cn2, cn3, cn4, cn5, cn6, jJa, lk0, lk1, jmS, jmN, s4_0, s4_1, s4_2, s4_3, s4_4, sw0, sw1, cKs, cKn, true_and, and_true, List.map_cons, List.map_nil, Nat.reduceAdd, Nat.zero_add, Int.reduceAdd, Nat.reduceEqDiff, reduceIte, Classical.not_not, b_H_person, shH, up_rd, Int.reduceEq, and_false, false_and, and_self, reduceIte, not_true_eq_false, not_false_eq_true, false_imp_iff, true_imp_iff, true_or, or_true]
        refine ⟨by omega, MS.to (c_Mo_strengthOf shH.2.2.2.1) fun _ => ?_⟩
        simp only [wR, wB, wE0, wE1, wE2, wE3, g0, gS, s10, s11, s1S, s20, s21, s2S, kl0, kl1, kl2, kl3, sp0, sp1, sp2, sp3, cn1, cn2, cn3, cn4, cn5, cn6, jJa, lk0, lk1, jmS, jmN, s4_0, s4_1, s4_2, s4_3, s4_4, sw0, sw1, cKs, cKn, true_and, and_true, List.map_cons, List.map_nil, Nat.reduceAdd, Nat.zero_add, Int.reduceAdd, Nat.reduceEqDiff, reduceIte, Classical.not_not, b_H_person, est]
        exact ⟨hR, Hi.refl⟩
      · simp only [wR, wB, wE0, wE1, wE2, wE3, g0, gS, s10, s11, s1S, s20, s21, s2S, kl0, kl1, kl2, kl3, sp0, sp1, sp2, sp3, cn1, cn2, cn3, cn4, cn5, cn6, jJa, lk0, lk1, jmS, jmN, s4_0, s4_1, s4_2, s4_3, s4_4, sw0, sw1, cKs, cKn, true_and, and_true, List.map_cons, List.map_nil, Nat.reduceAdd, Nat.zero_add, Int.reduceAdd, Nat.reduceEqDiff, reduceIte, Classical.not_not, b_H_person, shH, up_rd, Int.reduceEq, and_false, false_and, and_self, reduceIte, not_true_eq_false, not_false_eq_true, false_imp_iff, true_imp_iff, true_or, or_true, hs.1, hz]
        refine ⟨by omega, MS.to (c_Ha_weightOf hz (by omega)) fun _ => ?_⟩
        simp only [wR, wB, wE0, wE1, wE2, wE3, g0, gS, s10, s11, s1S, s20, s21, s2S, kl0, kl1, kl2, kl3, sp0, sp1, sp2, sp3, cn1, cn2, cn3, cn4, cn5, cn6, jJa, lk0, lk1, jmS, jmN, s4_0, s4_1, s4_2, s4_3, s4_4, sw0, sw1, cKs, cKn, true_and, and_true, List.map_cons, List.map_nil, Nat.reduceAdd, Nat.zero_add, Int.reduceAdd, Nat.reduceEqDiff, reduceIte, Classical.not_not, b_H_person, hs.2.2.2.2.2.2.2.1 n hn]
        exact ⟨hR, Hi.refl⟩
      · simp only [wR, wB, wE0, wE1, wE2, wE3, g0, gS, s10, s11, s1S, s20, s21, s2S, kl0, kl1, kl2, kl3, sp0, sp1, sp2, sp3, cn1, cn2, cn3, cn4, cn5, cn6, jJa, lk0, lk1, jmS, jmN, s4_0, s4_1, s4_2, s4_3, s4_4, sw0, sw1, cKs, cKn, true_and, and_true, List.map_cons, List.map_nil, Nat.reduceAdd, Nat.zero_add, Int.reduceAdd, Nat.reduceEqDiff, reduceIte, Classical.not_not, b_H_person, shH, up_rd, Int.reduceEq, and_false, false_and, and_self, reduceIte, not_true_eq_false, not_false_eq_true, false_imp_iff, true_imp_iff, true_or, or_true, hs.1, hz, hs.2.2.2.2.2.2.1, e2]
        exact ⟨hR, Hi.refl⟩
      · simp only [wR, wB, wE0, wE1, wE2, wE3, g0, gS, s10, s11, s1S, s20, s21, s2S, kl0, kl1, kl2, kl3, sp0, sp1, sp2, sp3, cn1, cn2, cn3, cn4, cn5, cn6, jJa, lk0, lk1, jmS, jmN, s4_0, s4_1, s4_2, s4_3, s4_4, sw0, sw1, cKs, cKn, true_and, and_true, List.map_cons, List.map_nil, Nat.reduceAdd, Nat.zero_add, Int.reduceAdd, Nat.reduceEqDiff, reduceIte, Classical.not_not, b_H_person, shH, up_rd, Int.reduceEq, and_false, false_and, and_self, reduceIte, not_true_eq_false, not_false_eq_true, false_imp_iff, true_imp_iff, true_or, or_true, hs.1, hz]
        refine ⟨by omega, MS.to (c_Mo_strengthOf shH.2.2.2.1) fun _ => ?_⟩
        simp only [wR, wB, wE0, wE1, wE2, wE3, g0, gS, s10, s11, s1S, s20, s21, s2S, kl0, kl1, kl2, kl3, sp0, sp1, sp2, sp3, cn1, cn2, cn3, cn4, cn5, cn6, jJa, lk0, lk1, jmS, jmN, s4_0, s4_1, s4_2, s4_3, s4_4, sw0, sw1, cKs, cKn, true_and, and_true, List.map_cons, List.map_nil, Nat.reduceAdd, Nat.zero_add, Int.reduceAdd, Nat.reduceEqDiff, reduceIte, Classical.not_not, b_H_person, shH, est, hM.1, hM.2.1, hz]
        refine ⟨by omega, (c_Ha_counting (sd := σ.m.sd) (by omega) hz ok.2.2.1 hs.2.2.2 hn (fun p _ => (mok.1 p).1) (mok.1 n).2 mok.2).mono ?_⟩
        rintro r M' okM' ⟨rfl, hs2⟩
        simp only [wR, wB, wE0, wE1, wE2, wE3, g0, gS, s10, s11, s1S, s20, s21, s2S, kl0, kl1, kl2, kl3, sp0, sp1, sp2, sp3, cn1, cn2, cn3, cn4, cn5, cn6, jJa, lk0, lk1, jmS, jmN, s4_0, s4_1, s4_2, s4_3, s4_4, sw0, sw1, cKs, cKn, true_and, and_true, List.map_cons, List.map_nil, Nat.reduceAdd, Nat.zero_add, Int.reduceAdd, Nat.reduceEqDiff, reduceIte, Classical.not_not, b_H_person]
        have hsc : Scr M M' := hs2.scr (by intro x hx; simp only [List.mem_cons, List.not_mem_nil, or_false] at hx; omega)
        have hcr : CR M' σ := hR.scr hsc (StInv.eq hR.inv (fun x h1 h2 => hs2 x (by (first | decide | (simp only [List.mem_cons, List.not_mem_nil, or_false, not_or, not_false_eq_true, and_true]; omega) | (simp [List.mem_cons]; done)))))
        by_cases q : cnts σ.h σ.m.sd σ.m.cold n (σ.m.st n) = true
        · simp only [if_pos q]
          exact ⟨fun h => absurd h (by omega), fun _ => ⟨trivial, hcr, hsc.hi⟩⟩
        · simp only [if_neg q]
          exact ⟨fun _ => ⟨trivial, hcr, hsc.hi⟩, fun h => absurd trivial h⟩
    · exact a17 (by omega)
  · rw [if_neg hp]
    (repeat' (first | omega | exact ⟨by omega, by omega⟩ | (with_reducible exact Or.inr trivial) | (with_reducible exact Or.inl trivial) | (with_reducible assumption) | (with_reducible exact Same.refl) | (with_reducible rfl) | (with_reducible refine And.intro ?_ ?_) | (with_reducible intro _)))
    exact a17 (Or.inl hp)
def aBy (σ : Sg) (set p : Int) : Int := if 0 ≤ p ∧ p < (σ.h.P : Int) then (if aRS σ set = 0 then (tired σ.h σ.m.sd σ.m.cold set.toNat p.toNat (σ.m.st p.toNat) : Int) else aRS σ set) else -2
theorem c_H_by {set p : Int} {B : Nat} {σ : Sg} (hd : 20 ≤ d) (ok : SgOK B σ) (hR : CR M σ) (hset : inI set) : MS G d mi_H_by [vr 0, vi set, vi p] M (fun r M' => r = some (vi (aBy σ set p)) ∧ CR M' σ ∧ Hi M M') := by
  obtain ⟨z, hs, hR2⟩ := id hR
  have hz := hs.z
  have hM := hR2.2.2.1
  have hP := ok.2.2.1.1
  have h32 := p2_32 hP
  have mok := ok.2.2.2.1.1
  refine MS.run ck_H_by [some (vr 0), some (vi set), some (vi p), none] [] 10 fun _ _ => ?_
  unfold aBy
  simp only [wR, wB, wE0, wE1, wE2, wE3, g0, gS, s10, s11, s1S, s20, s21, s2S, kl0, kl1, kl2, kl3, sp0, sp1, sp2, sp3, cn1, cn2, cn3, cn4, cn5, cn6, jJa, lk0, lk1, jmS, jmN, s4_0, s4_1, s4_2, s4_3, s4_4, sw0, sw1, cKs, cKn, true_and, and_true, List.map_cons, List.map_nil, Nat.reduceAdd, Nat.zero_add, Int.reduceAdd, Nat.reduceEqDiff, reduceIte, Classical.not_not, b_H_by, shH]
  refine ⟨by omega, MS.to (c_H_isPerson hs) fun _ => ?_⟩
  simp only [wR, wB, wE0, wE1, wE2, wE3, g0, gS, s10, s11, s1S, s20, s21, s2S, kl0, kl1, kl2, kl3, sp0, sp1, sp2, sp3, cn1, cn2, cn3, cn4, cn5, cn6, jJa, lk0, lk1, jmS, jmN, s4_0, s4_1, s4_2, s4_3, s4_4, sw0, sw1, cKs, cKn, true_and, and_true, List.map_cons, List.map_nil, Nat.reduceAdd, Nat.zero_add, Int.reduceAdd, Nat.reduceEqDiff, reduceIte, Classical.not_not, b_H_by, shH]
  by_cases hp : 0 ≤ p ∧ p < σ.h.P
  · rw [if_pos hp, if_pos hp]
    obtain ⟨n, rfl⟩ := Int.eq_ofNat_of_zero_le hp.1
    have hn : n < σ.h.P := by omega
    have est : (if 0 ≤ (n : Int) ∧ (n : Int) < 5 then M 26 n else 0) = σ.m.st n := by
      rw [if_pos (by omega)]; exact hM.st hP hn
    (repeat' (first | omega | exact ⟨by omega, by omega⟩ | (with_reducible exact Or.inr trivial) | (with_reducible exact Or.inl trivial) | (with_reducible assumption) | (with_reducible exact Same.refl) | (with_reducible rfl) | (with_reducible refine And.intro ?_ ?_) | (with_reducible intro _)))
    refine MS.to (c_H_refusedSet (by omega) hs hM hP hset) fun _ => ?_
    simp only [wR, wB, wE0, wE1, wE2, wE3, g0, gS, s10, s11, s1S, s20, s21, s2S, kl0, kl1, kl2, kl3, sp0, sp1, sp2, sp3, cn1, cn2, cn3, cn4, cn5, cn6, jJa, lk0, lk1, jmS, jmN, s4_0, s4_1, s4_2, s4_3, s4_4, sw0, sw1, cKs, cKn, true_and, and_true, List.map_cons, List.map_nil, Nat.reduceAdd, Nat.zero_add, Int.reduceAdd, Nat.reduceEqDiff, reduceIte, Classical.not_not, b_H_by, shH, hs.1]
    by_cases q : aRS σ set = 0
    · have hset2 := aRS_set q
      obtain ⟨k, rfl⟩ := Int.eq_ofNat_of_zero_le hset2.1
      rw [if_pos q]
      (repeat' (first | omega | exact ⟨by omega, by omega⟩ | (with_reducible exact Or.inr trivial) | (with_reducible exact Or.inl trivial) | (with_reducible assumption) | (with_reducible exact Same.refl) | (with_reducible rfl) | (with_reducible refine And.intro ?_ ?_) | (with_reducible intro _)))
      refine MS.to (c_Mo_strengthOf shH.2.2.2.1) fun _ => ?_
      simp only [wR, wB, wE0, wE1, wE2, wE3, g0, gS, s10, s11, s1S, s20, s21, s2S, kl0, kl1, kl2, kl3, sp0, sp1, sp2, sp3, cn1, cn2, cn3, cn4, cn5, cn6, jJa, lk0, lk1, jmS, jmN, s4_0, s4_1, s4_2, s4_3, s4_4, sw0, sw1, cKs, cKn, true_and, and_true, List.map_cons, List.map_nil, Nat.reduceAdd, Nat.zero_add, Int.reduceAdd, Nat.reduceEqDiff, reduceIte, Classical.not_not, b_H_by, shH, est, hM.1, hM.2.1, hz]
      refine ⟨by omega, (c_Ha_tiredTo (sd := σ.m.sd) (by omega) hz ok.2.2.1 hs.2.2.2 hn (fun p _ => (mok.1 p).1) (mok.1 n).2 mok.2 (by omega)).mono ?_⟩
      rintro r M' okM' ⟨rfl, hs2⟩
      simp only [wR, wB, wE0, wE1, wE2, wE3, g0, gS, s10, s11, s1S, s20, s21, s2S, kl0, kl1, kl2, kl3, sp0, sp1, sp2, sp3, cn1, cn2, cn3, cn4, cn5, cn6, jJa, lk0, lk1, jmS, jmN, s4_0, s4_1, s4_2, s4_3, s4_4, sw0, sw1, cKs, cKn, true_and, and_true, List.map_cons, List.map_nil, Nat.reduceAdd, Nat.zero_add, Int.reduceAdd, Nat.reduceEqDiff, reduceIte, Classical.not_not, b_H_by, Int.toNat_natCast]
      exact hR.z78 hs.2.2.1 hs2
    · rw [if_neg q]
      (repeat' (first | omega | exact ⟨by omega, by omega⟩ | (with_reducible exact Or.inr trivial) | (with_reducible exact Or.inl trivial) | (with_reducible assumption) | (with_reducible exact Same.refl) | (with_reducible rfl) | (with_reducible refine And.intro ?_ ?_) | (with_reducible intro _)))
      exact Hi.refl
  · rw [if_neg hp, if_neg hp]
    (repeat' (first | omega | exact ⟨by omega, by omega⟩ | (with_reducible exact Or.inr trivial) | (with_reducible exact Or.inl trivial) | (with_reducible assumption) | (with_reducible exact Same.refl) | (with_reducible rfl) | (with_reducible refine And.intro ?_ ?_) | (with_reducible intro _)))
    exact Hi.refl
def aCounted (σ : Sg) (set side : Int) : Int := if side = 0 ∨ side = 1 then (if aRS σ set = 0 then (handsM σ.h σ.m set.toNat side.toNat : Int) else aRS σ set) else -2
theorem c_H_counted {set side : Int} {B : Nat} {σ : Sg} (hd : 20 ≤ d) (ok : SgOK B σ) (hR : CR M σ) (hset : inI set) : MS G d mi_H_counted [vr 0, vi set, vi side] M (fun r M' => r = some (vi (aCounted σ set side)) ∧ CR M' σ ∧ Hi M M') := by
  obtain ⟨z, hs, hR2⟩ := id hR
  have hz := hs.z
  have hM := hR2.2.2.1
  have hP := ok.2.2.1.1
  have h32 := p2_32 hP
  have mok := ok.2.2.2.1.1
  refine MS.run ck_H_counted [some (vr 0), some (vi set), some (vi side), none] [] 10 fun _ _ => ?_
  unfold aCounted
  simp only [wR, wB, wE0, wE1, wE2, wE3, g0, gS, s10, s11, s1S, s20, s21, s2S, kl0, kl1, kl2, kl3, sp0, sp1, sp2, sp3, cn1, cn2, cn3, cn4, cn5, cn6, jJa, lk0, lk1, jmS, jmN, s4_0, s4_1, s4_2, s4_3, s4_4, sw0, sw1, cKs, cKn, true_and, and_true, List.map_cons, List.map_nil, Nat.reduceAdd, Nat.zero_add, Int.reduceAdd, Nat.reduceEqDiff, reduceIte, Classical.not_not, b_H_counted, shH]
  refine ⟨by omega, MS.to c_H_isSide fun _ => ?_⟩
  simp only [wR, wB, wE0, wE1, wE2, wE3, g0, gS, s10, s11, s1S, s20, s21, s2S, kl0, kl1, kl2, kl3, sp0, sp1, sp2, sp3, cn1, cn2, cn3, cn4, cn5, cn6, jJa, lk0, lk1, jmS, jmN, s4_0, s4_1, s4_2, s4_3, s4_4, sw0, sw1, cKs, cKn, true_and, and_true, List.map_cons, List.map_nil, Nat.reduceAdd, Nat.zero_add, Int.reduceAdd, Nat.reduceEqDiff, reduceIte, Classical.not_not, b_H_counted, shH]
  by_cases hp : side = 0 ∨ side = 1
  · rw [if_pos hp, if_pos hp]
    obtain ⟨n, rfl⟩ := Int.eq_ofNat_of_zero_le (show 0 ≤ side by omega)
    (repeat' (first | omega | exact ⟨by omega, by omega⟩ | (with_reducible exact Or.inr trivial) | (with_reducible exact Or.inl trivial) | (with_reducible assumption) | (with_reducible exact Same.refl) | (with_reducible rfl) | (with_reducible refine And.intro ?_ ?_) | (with_reducible intro _)))
    refine MS.to (c_H_refusedSet (by omega) hs hM hP hset) fun _ => ?_
    simp only [wR, wB, wE0, wE1, wE2, wE3, g0, gS, s10, s11, s1S, s20, s21, s2S, kl0, kl1, kl2, kl3, sp0, sp1, sp2, sp3, cn1, cn2, cn3, cn4, cn5, cn6, jJa, lk0, lk1, jmS, jmN, s4_0, s4_1, s4_2, s4_3, s4_4, sw0, sw1, cKs, cKn, true_and, and_true, List.map_cons, List.map_nil, Nat.reduceAdd, Nat.zero_add, Int.reduceAdd, Nat.reduceEqDiff, reduceIte, Classical.not_not, b_H_counted, shH, hs.1, hz]
    by_cases q : aRS σ set = 0
    · have hset2 := aRS_set q
      obtain ⟨k, rfl⟩ := Int.eq_ofNat_of_zero_le hset2.1
      rw [if_pos q]
      (repeat' (first | omega | exact ⟨by omega, by omega⟩ | (with_reducible exact Or.inr trivial) | (with_reducible exact Or.inl trivial) | (with_reducible assumption) | (with_reducible exact Same.refl) | (with_reducible rfl) | (with_reducible refine And.intro ?_ ?_) | (with_reducible intro _)))
      refine (c_Ha_hands (by omega) hz shH.2.2.2.1 ok.2.2.1 hs.2.2.2 mok hM (by omega) (by omega)).mono ?_
      rintro r M' okM' ⟨rfl, hs2⟩
      simp only [wR, wB, wE0, wE1, wE2, wE3, g0, gS, s10, s11, s1S, s20, s21, s2S, kl0, kl1, kl2, kl3, sp0, sp1, sp2, sp3, cn1, cn2, cn3, cn4, cn5, cn6, jJa, lk0, lk1, jmS, jmN, s4_0, s4_1, s4_2, s4_3, s4_4, sw0, sw1, cKs, cKn, true_and, and_true, List.map_cons, List.map_nil, Nat.reduceAdd, Nat.zero_add, Int.reduceAdd, Nat.reduceEqDiff, reduceIte, Classical.not_not, b_H_counted, Int.toNat_natCast]
      exact hR.z78 hs.2.2.1 hs2
    · rw [if_neg q]
      (repeat' (first | omega | exact ⟨by omega, by omega⟩ | (with_reducible exact Or.inr trivial) | (with_reducible exact Or.inl trivial) | (with_reducible assumption) | (with_reducible exact Same.refl) | (with_reducible rfl) | (with_reducible refine And.intro ?_ ?_) | (with_reducible intro _)))
      exact Hi.refl
  · rw [if_neg hp, if_neg hp]
    (repeat' (first | omega | exact ⟨by omega, by omega⟩ | (with_reducible exact Or.inr trivial) | (with_reducible exact Or.inl trivial) | (with_reducible assumption) | (with_reducible exact Same.refl) | (with_reducible rfl) | (with_reducible refine And.intro ?_ ?_) | (with_reducible intro _)))
    exact Hi.refl
end CQ
