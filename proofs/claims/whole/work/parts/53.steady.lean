/-! steady; Steps aimed at all -/
theorem wb_all {P p : Nat} (hP : P ≤ 5) (hp : p < 5) : wb (2 ^ P - 1) p = decide (p < P) := by
  have key : ∀ (P : Fin 6) (p : Fin 5), wb (2 ^ P.val - 1) p.val = decide (p.val < P.val) := by decide +kernel
  exact key ⟨P, by omega⟩ ⟨p, hp⟩
theorem all_lt {P : Nat} (hP : P ≤ 5) : 2 ^ P - 1 < 32 := by have := p2_32 hP; omega
theorem nxW_all {h : Hl} {sd : Nat → Nat} {cold s set : Nat} (hP : h.P ≤ 5) : nxW h sd cold (2 ^ h.P - 1) s set = nxt h sd cold s set := by
  unfold nxW nxt
  refine cod_congr (fun p hp => ?_)
  rw [wb_all hP (by omega), if_pos (by simpa using hp)]
theorem abW_all {P s : Nat} (hP : P ≤ 5) : abW P (2 ^ P - 1) s = ablS P s := by
  unfold abW ablS
  refine bitsP_congr P (fun p hp => ?_)
  rw [wb_all hP (by omega)]
  simp [hp]
theorem ctW_all {h : Hl} {sd : Nat → Nat} {cold s : Nat} (hP : h.P ≤ 5) : ctW h sd cold (2 ^ h.P - 1) s = bitsP (fun p => cnts h sd cold p (dig s p)) h.P := by
  unfold ctW
  refine bitsP_congr _ (fun p hp => ?_)
  rw [wb_all hP (by omega)]
  simp [hp]
/-- a set within another one, by bits -/
theorem sub_iff {a b : Nat} (ha : a < 32) (hb : b < 32) : a &&& (31 ^^^ b) = 0 ↔ sub a b := by
  have key : ∀ a b : Fin 32, a.val &&& (31 ^^^ b.val) = 0 ↔ ∀ p : Fin 5, a.val / 2 ^ p.val % 2 = 1 → b.val / 2 ^ p.val % 2 = 1 := by decide +kernel
  rw [key ⟨a, ha⟩ ⟨b, hb⟩]
  unfold sub
  refine ⟨fun h p hp => ?_, fun h p hp => h p.val hp⟩
  by_cases q : p < 5
  · exact h ⟨p, q⟩ hp
  · have : (2 : Nat) ^ 5 ≤ 2 ^ p := Nat.pow_le_pow_right (by omega) (by omega)
    rw [Nat.div_eq_of_lt (by omega)] at hp
    omega
theorem codN_sum {W : Nat} {f : Nat → Int} {g : Nat → Nat} : ∀ n, (∀ p, p < n → f p = (g p : Int)) → codN W f n = ((sumN (fun i => (if wb W i = true then g i else 0) * 5 ^ i) n : Nat) : Int)
  | 0, _ => rfl
  | n + 1, h => by
    simp only [codN, sumN]
    rw [codN_sum n (fun p hp => h p (by omega)), h n (by omega)]
    by_cases q : W / 2 ^ n % 2 = 1
    · rw [if_pos q, if_pos (wb_iff.mpr q), Int.natCast_add, Int.natCast_mul, Int.mul_comm]
    · rw [if_neg q, if_neg (fun h => q (wb_iff.mp h)), Nat.zero_mul]; rfl
theorem sumN_0 {f : Nat → Nat} : ∀ n, (∀ p, p < n → f p = 0) → sumN f n = 0
  | 0, _ => rfl
  | n + 1, h => by simp only [sumN, sumN_0 n (fun p hp => h p (by omega)), h n (by omega)]
theorem codN_cod {M : AM} {z : Int} {P W : Nat} {m : Mo} (h : CM M z P m) (hP : P ≤ 5) : codN W (fun p => M (z + 1) p) 5 = ((cod (fun p => if wb W p = true then m.st p else 0) P : Nat) : Int) := by
  rw [codN_sum (g := fun p => if p < P then m.st p else 0) 5 (fun p hp => h.2.2.2 p hp), cod_sum]
  congr 1
  have e := sumN_split (fun i => (if wb W i = true then (if i < P then m.st i else 0) else 0) * 5 ^ i) P (5 - P)
  rw [show P + (5 - P) = 5 by omega] at e
  rw [e, sumN_0 (f := fun i => (if wb W (P + i) = true then (if P + i < P then m.st (P + i) else 0) else 0) * 5 ^ (P + i)) (5 - P) (fun p _ => by rw [if_neg (show ¬ P + p < P by omega)]; simp), Nat.add_zero]
  refine sumN_congr P (fun p hp => ?_)
  rw [if_pos hp]
theorem cod_all {P : Nat} {st : Nat → Nat} (hP : P ≤ 5) : cod (fun p => if wb (2 ^ P - 1) p = true then st p else 0) P = cod st P := cod_congr (fun p hp => by rw [wb_all hP (by omega), if_pos (by simpa using hp)])
theorem cod_5P {P : Nat} {st : Nat → Nat} (h : ∀ p, st p ≤ 4) : cod st P < 5 ^ P := codT_lt _ 0 (fun p _ _ => h p)
/-- only the class's working places and Steps have changed -/
theorem CR.aim {M N : AM} {σ : Sg} {W cold : Nat} {sd : Nat → Nat} (h : CR M σ) (hs : Scr M N) (hsd : ∀ p, p < σ.h.P → sd p ≤ 1) (hS : StOK N σ.h sd cold W) : CR N σ := h.scr hs (hS.inv hsd)
section SD
variable {G : AG} {d : Nat} {M : AM}
theorem c_H_aimAtAll {B : Nat} {σ : Sg} (hd : 10 ≤ d) (ok : SgOK B σ) (hR : CR M σ) : MS G d mi_H_aimAtAll [vr 0] M (fun r M' => r = none ∧ StOK M' σ.h σ.m.sd σ.m.cold (2 ^ σ.h.P - 1) ∧ Scr M M') := by
  obtain ⟨z, hs, hM, hp, hT⟩ := hR.z
  have hz := hs.z
  have hzz := hs.2.2.1
  have hP := ok.2.2.1.1
  refine MS.run ck_H_aimAtAll [some (vr 0)] [] 10 fun _ _ => ?_
  simp only [wR, wB, wE0, wE1, wE2, wE3, g0, gS, s10, s11, s1S, s20, s21, s2S, kl0, kl1, kl2, kl3, sp0, sp1, sp2, sp3, cn1, cn2, cn3, cn4, cn5, cn6, jJa, lk0, lk1, jmS, jmN, s4_0, s4_1, s4_2, s4_3, s4_4, sw0, sw1, cKs, cKn, true_and, and_true, List.map_cons, List.map_nil, Nat.reduceAdd, Nat.zero_add, Int.reduceAdd, Nat.reduceEqDiff, reduceIte, Classical.not_not, b_H_aimAtAll, shH, hs.1, hz]
  refine ⟨by omega, MS.to (c_Ha_everyone hz hs.2.2.2.2.2.1 hP) fun _ => ?_⟩
  simp only [wR, wB, wE0, wE1, wE2, wE3, g0, gS, s10, s11, s1S, s20, s21, s2S, kl0, kl1, kl2, kl3, sp0, sp1, sp2, sp3, cn1, cn2, cn3, cn4, cn5, cn6, jJa, lk0, lk1, jmS, jmN, s4_0, s4_1, s4_2, s4_3, s4_4, sw0, sw1, cKs, cKn, true_and, and_true, List.map_cons, List.map_nil, Nat.reduceAdd, Nat.zero_add, Int.reduceAdd, Nat.reduceEqDiff, reduceIte, Classical.not_not, b_H_aimAtAll, shH]
  refine ⟨by omega, (c_St_aim (d := d - 1) (by omega) hz ok.2.2.1 ok.2.2.2.1.1 hs.2.2.2 hM hR.inv (all_lt hP)).mono ?_⟩
  rintro r M1 okM1 ⟨rfl, u1, u2⟩
  simp only [wR, wB, wE0, wE1, wE2, wE3, g0, gS, s10, s11, s1S, s20, s21, s2S, kl0, kl1, kl2, kl3, sp0, sp1, sp2, sp3, cn1, cn2, cn3, cn4, cn5, cn6, jJa, lk0, lk1, jmS, jmN, s4_0, s4_1, s4_2, s4_3, s4_4, sw0, sw1, cKs, cKn, true_and, and_true, List.map_cons, List.map_nil, Nat.reduceAdd, Nat.zero_add, Int.reduceAdd, Nat.reduceEqDiff, reduceIte, Classical.not_not, b_H_aimAtAll]
  exact ⟨u1, u2.scr (by intro x hx; simp only [List.mem_cons, List.not_mem_nil, or_false] at hx; omega)⟩
theorem c_H_nowCode {z : Int} {σ : Sg} (hd : 2 ≤ d) (hs : Chs M z σ) (hM : CM M 25 σ.h.P σ.m) (hP : σ.h.P ≤ 5) (mok : MoOK σ.m) : MS G d mi_H_nowCode [vr 0] M (fun r M' => r = some (vi (cod σ.m.st σ.h.P)) ∧ M' = M) := by
  have hz := hs.z
  refine MS.run ck_H_nowCode [some (vr 0)] [] 10 fun _ _ => ?_
  simp only [wR, wB, wE0, wE1, wE2, wE3, g0, gS, s10, s11, s1S, s20, s21, s2S, kl0, kl1, kl2, kl3, sp0, sp1, sp2, sp3, cn1, cn2, cn3, cn4, cn5, cn6, jJa, lk0, lk1, jmS, jmN, s4_0, s4_1, s4_2, s4_3, s4_4, sw0, sw1, cKs, cKn, true_and, and_true, List.map_cons, List.map_nil, Nat.reduceAdd, Nat.zero_add, Int.reduceAdd, Nat.reduceEqDiff, reduceIte, Classical.not_not, b_H_nowCode, shH, hs.1, hz]
  refine ⟨by omega, MS.to (c_Ha_everyone hz hs.2.2.2.2.2.1 hP) fun _ => ?_⟩
  simp only [wR, wB, wE0, wE1, wE2, wE3, g0, gS, s10, s11, s1S, s20, s21, s2S, kl0, kl1, kl2, kl3, sp0, sp1, sp2, sp3, cn1, cn2, cn3, cn4, cn5, cn6, jJa, lk0, lk1, jmS, jmN, s4_0, s4_1, s4_2, s4_3, s4_4, sw0, sw1, cKs, cKn, true_and, and_true, List.map_cons, List.map_nil, Nat.reduceAdd, Nat.zero_add, Int.reduceAdd, Nat.reduceEqDiff, reduceIte, Classical.not_not, b_H_nowCode, shH]
  refine ⟨by omega, MS.to (c_Mo_code o25 (all_lt hP) (fun p hp => hM.b5 mok p (by omega) (by omega))) fun _ => ?_⟩
  rw [codN_cod hM hP, cod_all hP]
  simp only [wR, wB, wE0, wE1, wE2, wE3, g0, gS, s10, s11, s1S, s20, s21, s2S, kl0, kl1, kl2, kl3, sp0, sp1, sp2, sp3, cn1, cn2, cn3, cn4, cn5, cn6, jJa, lk0, lk1, jmS, jmN, s4_0, s4_1, s4_2, s4_3, s4_4, sw0, sw1, cKs, cKn, true_and, and_true, List.map_cons, List.map_nil, Nat.reduceAdd, Nat.zero_add, Int.reduceAdd, Nat.reduceEqDiff, reduceIte, Classical.not_not, b_H_nowCode]
def aSteady (σ : Sg) : Nat := cntP (fun set => decide (set &&& (31 ^^^ ablM σ.h.P σ.m.st) = 0) && decide (codA σ set σ.m.cold = cod σ.m.st σ.h.P)) (2 ^ σ.h.P)
theorem CR.cz {M N : AM} {σ : Sg} {z : Int} (h : Chs M z σ) (hs : Scr M N) : Chs N z σ := h.eq (fun x hx => hs x (by omega))
theorem c_H_steady {B : Nat} {σ : Sg} (hd : 20 ≤ d) (ok : SgOK B σ) (hR : CR M σ) : MS G d mi_H_steady [vr 0] M (fun r M' => r = some (vi (aSteady σ)) ∧ CR M' σ ∧ Hi M M') := by
  obtain ⟨z, hs, hM, hp, hT⟩ := hR.z
  have hok := ok.2.2.1
  have hP := hok.1
  have h32 := p2_32 hP
  have mok := ok.2.2.2.1.1
  refine MS.by ck_H_steady [some (vr 0), none, none, none] fun _ _ => ?_
  refine AW.run ck_H_steady [21] 10 0 ?_
  simp only [wR, wB, wE0, wE1, wE2, wE3, g0, gS, s10, s11, s1S, s20, s21, s2S, kl0, kl1, kl2, kl3, sp0, sp1, sp2, sp3, cn1, cn2, cn3, cn4, cn5, cn6, jJa, lk0, lk1, jmS, jmN, s4_0, s4_1, s4_2, s4_3, s4_4, sw0, sw1, cKs, cKn, true_and, and_true, List.map_cons, List.map_nil, Nat.reduceAdd, Nat.zero_add, Int.reduceAdd, Nat.reduceEqDiff, reduceIte, Classical.not_not, b_H_steady, shH]
  refine ⟨by omega, (c_H_aimAtAll (d := d - 1) (by omega) ok hR).mono ?_⟩
  rintro r M1 okM1 ⟨rfl, u1, u2⟩
  simp only [wR, wB, wE0, wE1, wE2, wE3, g0, gS, s10, s11, s1S, s20, s21, s2S, kl0, kl1, kl2, kl3, sp0, sp1, sp2, sp3, cn1, cn2, cn3, cn4, cn5, cn6, jJa, lk0, lk1, jmS, jmN, s4_0, s4_1, s4_2, s4_3, s4_4, sw0, sw1, cKs, cKn, true_and, and_true, List.map_cons, List.map_nil, Nat.reduceAdd, Nat.zero_add, Int.reduceAdd, Nat.reduceEqDiff, reduceIte, Classical.not_not, b_H_steady, shH]
  refine ⟨by omega, MS.to (c_H_nowCode (d := d - 1) (by omega) (CR.cz hs u2) (hM.eq (u2 _ (by omega)) (u2 _ (by omega))) hP mok) fun _ => ?_⟩
  simp only [wR, wB, wE0, wE1, wE2, wE3, g0, gS, s10, s11, s1S, s20, s21, s2S, kl0, kl1, kl2, kl3, sp0, sp1, sp2, sp3, cn1, cn2, cn3, cn4, cn5, cn6, jJa, lk0, lk1, jmS, jmN, s4_0, s4_1, s4_2, s4_3, s4_4, sw0, sw1, cKs, cKn, true_and, and_true, List.map_cons, List.map_nil, Nat.reduceAdd, Nat.zero_add, Int.reduceAdd, Nat.reduceEqDiff, reduceIte, Classical.not_not, b_H_steady, shH]
  have hs5 : cod σ.m.st σ.h.P < 5 ^ σ.h.P := cod_5P (fun p => (mok.1 p).2)
  refine ⟨by omega, (c_St_standAt hok u1 hs5).mono ?_⟩
  rintro r M2 okM2 ⟨rfl, v1, v2⟩
  simp only [wR, wB, wE0, wE1, wE2, wE3, g0, gS, s10, s11, s1S, s20, s21, s2S, kl0, kl1, kl2, kl3, sp0, sp1, sp2, sp3, cn1, cn2, cn3, cn4, cn5, cn6, jJa, lk0, lk1, jmS, jmN, s4_0, s4_1, s4_2, s4_3, s4_4, sw0, sw1, cKs, cKn, true_and, and_true, List.map_cons, List.map_nil, Nat.reduceAdd, Nat.zero_add, Int.reduceAdd, Nat.reduceEqDiff, reduceIte, Classical.not_not, b_H_steady, shH]
  have hcr : CR M2 σ ∧ Hi M M2 := by
    have hsc : Scr M M2 := u2.trans (v2.scr (by intro x hx; simp only [List.mem_cons, List.not_mem_nil, or_false] at hx; omega))
    exact ⟨hR.aim hsc (fun p _ => (mok.1 p).1) v1.1, hsc.hi⟩
  generalize hQ : (fun (r : Option AV) (M' : AM) => r = some (vi (aSteady σ)) ∧ CR M' σ ∧ Hi M M') = Q
  generalize hF : (fun set => decide (set &&& (31 ^^^ ablM σ.h.P σ.m.st) = 0) && decide (codA σ set σ.m.cold = cod σ.m.st σ.h.P)) = F
  have e2 : M2 33 2 = ((2 ^ σ.h.P : Nat) : Int) := v1.1.2.2.1.2.1
  have e6 : M2 33 6 = ((ablM σ.h.P σ.m.st : Nat) : Int) := by rw [v1.2.1, abW_all hP, ablS_cod (fun p _ => (mok.1 p).2)]
  have hab := ablM_lt (st := σ.m.st) hP
  have loop : ∀ (r s : Nat), s + r = 2 ^ σ.h.P → AW G d mi_H_steady Q 21 [some (vr 0), some (vi (cod σ.m.st σ.h.P)), some (vi (cntP F s)), some (vi s)] [] M2 := by
    intro r
    induction r with
    | zero =>
      intro s hs'
      refine AW.run ck_H_steady [62] 10 21 ?_
      simp only [wR, wB, wE0, wE1, wE2, wE3, g0, gS, s10, s11, s1S, s20, s21, s2S, kl0, kl1, kl2, kl3, sp0, sp1, sp2, sp3, cn1, cn2, cn3, cn4, cn5, cn6, jJa, lk0, lk1, jmS, jmN, s4_0, s4_1, s4_2, s4_3, s4_4, sw0, sw1, cKs, cKn, true_and, and_true, List.map_cons, List.map_nil, Nat.reduceAdd, Nat.zero_add, Int.reduceAdd, Nat.reduceEqDiff, reduceIte, Classical.not_not, b_H_steady, shH, e2]
      subst hQ
      obtain ⟨c1, c2⟩ := hcr
      (repeat' (first | omega | exact ⟨by omega, by omega⟩ | (with_reducible exact Or.inr trivial) | (with_reducible exact Or.inl trivial) | (with_reducible assumption) | (with_reducible exact Same.refl) | (with_reducible rfl) | (with_reducible refine And.intro ?_ ?_) | (with_reducible intro _)))
      rw [show s = 2 ^ σ.h.P by omega, ← hF]; rfl
    | succ r ih =>
      intro s hs'
      have hle := cntP_le F s
      have hFs : F s = (decide (s &&& (31 ^^^ ablM σ.h.P σ.m.st) = 0) && decide (codA σ s σ.m.cold = cod σ.m.st σ.h.P)) := by rw [← hF]
      have a62 : ∀ x : Nat, x = cntP F (s + 1) → AW G d mi_H_steady Q 62 [some (vr 0), some (vi (cod σ.m.st σ.h.P)), some (vi x), some (vi s)] [] M2 := by
        intro x hx
        refine AW.run ck_H_steady [21] 10 62 ?_
        simp only [wR, wB, wE0, wE1, wE2, wE3, g0, gS, s10, s11, s1S, s20, s21, s2S, kl0, kl1, kl2, kl3, sp0, sp1, sp2, sp3, cn1, cn2, cn3, cn4, cn5, cn6, jJa, lk0, lk1, jmS, jmN, s4_0, s4_1, s4_2, s4_3, s4_4, sw0, sw1, cKs, cKn, true_and, and_true, List.map_cons, List.map_nil, Nat.reduceAdd, Nat.zero_add, Int.reduceAdd, Nat.reduceEqDiff, reduceIte, Classical.not_not, b_H_steady, ce]
        (repeat' (first | omega | exact ⟨by omega, by omega⟩ | (with_reducible exact Or.inr trivial) | (with_reducible exact Or.inl trivial) | (with_reducible assumption) | (with_reducible exact Same.refl) | (with_reducible rfl) | (with_reducible refine And.intro ?_ ?_) | (with_reducible intro _)))
        rw [hx]
        exact ih (s + 1) (by omega)
      simp only [cntP, hFs] at a62
      refine AW.run ck_H_steady [62] 10 21 ?_
      simp only [wR, wB, wE0, wE1, wE2, wE3, g0, gS, s10, s11, s1S, s20, s21, s2S, kl0, kl1, kl2, kl3, sp0, sp1, sp2, sp3, cn1, cn2, cn3, cn4, cn5, cn6, jJa, lk0, lk1, jmS, jmN, s4_0, s4_1, s4_2, s4_3, s4_4, sw0, sw1, cKs, cKn, true_and, and_true, List.map_cons, List.map_nil, Nat.reduceAdd, Nat.zero_add, Int.reduceAdd, Nat.reduceEqDiff, reduceIte, Classical.not_not, b_H_steady, shH, shSt, e2, e6, bAndN_n (show s < 32 by omega) hab]
      by_cases q : s &&& (31 ^^^ ablM σ.h.P σ.m.st) = 0
      · (repeat' (first | omega | exact ⟨by omega, by omega⟩ | (with_reducible exact Or.inr trivial) | (with_reducible exact Or.inl trivial) | (with_reducible assumption) | (with_reducible exact Same.refl) | (with_reducible rfl) | (with_reducible refine And.intro ?_ ?_) | (with_reducible intro _)))
        have hsub : sub s (abW σ.h.P (2 ^ σ.h.P - 1) (cod σ.m.st σ.h.P)) := by
          rw [abW_all hP, ablS_cod (fun p _ => (mok.1 p).2)]
          exact (sub_iff (by omega) hab).mp q
        refine MS.to (c_St_to hok v1 (by omega) hsub) fun _ => ?_
        rw [nxW_all hP, codA_nxt mok]
        simp only [wR, wB, wE0, wE1, wE2, wE3, g0, gS, s10, s11, s1S, s20, s21, s2S, kl0, kl1, kl2, kl3, sp0, sp1, sp2, sp3, cn1, cn2, cn3, cn4, cn5, cn6, jJa, lk0, lk1, jmS, jmN, s4_0, s4_1, s4_2, s4_3, s4_4, sw0, sw1, cKs, cKn, true_and, and_true, List.map_cons, List.map_nil, Nat.reduceAdd, Nat.zero_add, Int.reduceAdd, Nat.reduceEqDiff, reduceIte, Classical.not_not, b_H_steady]
        by_cases q2 : codA σ s σ.m.cold = cod σ.m.st σ.h.P
        · have := a62 (cntP F s + 1) (by simp [q, q2])
          rw [show ((cntP F s + 1 : Nat) : Int) = (cntP F s : Int) + 1 by omega] at this
          (repeat' (first | omega | exact ⟨by omega, by omega⟩ | (with_reducible exact Or.inr trivial) | (with_reducible exact Or.inl trivial) | (with_reducible assumption) | (with_reducible exact Same.refl) | (with_reducible rfl) | (with_reducible refine And.intro ?_ ?_) | (with_reducible intro _)))
        · have := a62 (cntP F s) (by simp [q2])
          (repeat' (first | omega | exact ⟨by omega, by omega⟩ | (with_reducible exact Or.inr trivial) | (with_reducible exact Or.inl trivial) | (with_reducible assumption) | (with_reducible exact Same.refl) | (with_reducible rfl) | (with_reducible refine And.intro ?_ ?_) | (with_reducible intro _)))
      · have := a62 (cntP F s) (by simp [q])
        (repeat' (first | omega | exact ⟨by omega, by omega⟩ | (with_reducible exact Or.inr trivial) | (with_reducible exact Or.inl trivial) | (with_reducible assumption) | (with_reducible exact Same.refl) | (with_reducible rfl) | (with_reducible refine And.intro ?_ ?_) | (with_reducible intro _)))
  exact loop (2 ^ σ.h.P) 0 (by omega)
theorem c_Md_steady {B : Nat} {σ : Sg} (hd : 20 ≤ d) (ok : SgOK B σ) (hR : MR M σ) : MS G d mi_Md_steady [vr 117] M (fun r M' => r = some (vi (aSteady σ)) ∧ MR M' σ ∧ Lo M M') := by
  have hR' := hR.thr
  have hok := ok.2.2.1
  have hP := hok.1
  have h32 := p2_32 hP
  have mok := ok.2.2.2.1.1
  have hlt := cod_100k hok mok
  refine MS.by ck_Md_steady [some (vr 117), none, none] fun _ _ => ?_
  refine AW.run ck_Md_steady [9] 10 0 ?_
  simp only [wR, wB, wE0, wE1, wE2, wE3, g0, gS, s10, s11, s1S, s20, s21, s2S, kl0, kl1, kl2, kl3, sp0, sp1, sp2, sp3, cn1, cn2, cn3, cn4, cn5, cn6, jJa, lk0, lk1, jmS, jmN, s4_0, s4_1, s4_2, s4_3, s4_4, sw0, sw1, cKs, cKn, true_and, and_true, List.map_cons, List.map_nil, Nat.reduceAdd, Nat.zero_add, Int.reduceAdd, Nat.reduceEqDiff, reduceIte, Classical.not_not, b_Md_steady, shMd]
  have hlo : Lo M (up M 117 0 0) := thr_lo
  generalize up M 117 0 0 = N at hR' hlo ⊢
  obtain ⟨hH, hm, -⟩ := hR'.past
  have hsd := hm.sd mok
  have hst := hm.st mok
  have hcold : N 118 29 = σ.m.cold := hm.2.1
  generalize hQ : (fun (r : Option AV) (M' : AM) => r = some (vi (aSteady σ)) ∧ MR M' σ ∧ Lo M M') = Q
  generalize hF : (fun set => decide (set &&& (31 ^^^ ablM σ.h.P σ.m.st) = 0) && decide (codA σ set σ.m.cold = cod σ.m.st σ.h.P)) = F
  have e2p : bShl 1 (σ.h.P : Int) = ((2 ^ σ.h.P : Nat) : Int) := by rw [show (1 : Int) = ((1 : Nat) : Int) from rfl, bShl_n (by omega) (by omega), Nat.one_mul]
  have loop : ∀ (r s : Nat) (K : AM), s + r = 2 ^ σ.h.P → Same [122, 123] N K → AW G d mi_Md_steady Q 9 [some (vr 117), some (vi (cntP F s)), some (vi s)] [] K := by
    intro r
    induction r with
    | zero =>
      intro s K hs' hK
      have k118 : K 118 = N 118 := hK 118 (by (first | decide | (simp only [List.mem_cons, List.not_mem_nil, or_false, not_or, not_false_eq_true, and_true]; omega) | (simp [List.mem_cons]; done)))
      refine AW.run ck_Md_steady [58, 59] 10 9 ?_
      simp only [wR, wB, wE0, wE1, wE2, wE3, g0, gS, s10, s11, s1S, s20, s21, s2S, kl0, kl1, kl2, kl3, sp0, sp1, sp2, sp3, cn1, cn2, cn3, cn4, cn5, cn6, jJa, lk0, lk1, jmS, jmN, s4_0, s4_1, s4_2, s4_3, s4_4, sw0, sw1, cKs, cKn, true_and, and_true, List.map_cons, List.map_nil, Nat.reduceAdd, Nat.zero_add, Int.reduceAdd, Nat.reduceEqDiff, reduceIte, Classical.not_not, b_Md_steady, shMd, k118, hH.2.1, e2p]
      subst hQ
      have c1 := hR'.ww hK
      have c2 := hlo.trans (ww_lo hK)
      (repeat' (first | omega | exact ⟨by omega, by omega⟩ | (with_reducible exact Or.inr trivial) | (with_reducible exact Or.inl trivial) | (with_reducible assumption) | (with_reducible exact Same.refl) | (with_reducible rfl) | (with_reducible refine And.intro ?_ ?_) | (with_reducible intro _)))
      rw [show s = 2 ^ σ.h.P by omega, ← hF]; rfl
    | succ r ih =>
      intro s K hs' hK
      have hle := cntP_le F s
      have k118 : K 118 = N 118 := hK 118 (by (first | decide | (simp only [List.mem_cons, List.not_mem_nil, or_false, not_or, not_false_eq_true, and_true]; omega) | (simp [List.mem_cons]; done)))
      have hFs : F s = (decide (s &&& (31 ^^^ ablM σ.h.P σ.m.st) = 0) && decide (codA σ s σ.m.cold = cod σ.m.st σ.h.P)) := by rw [← hF]
      have a59 : ∀ (K' : AM) (x : Nat), x = (if F s = true then 1 else 0) → Same [122, 123] N K' → AW G d mi_Md_steady Q 59 [some (vr 117), some (vi (cntP F s)), some (vi s)] [vi x, vi (cntP F s)] K' := by
        intro K' x hx hK'
        have key := ih (s + 1) K' (by omega) hK'
        simp only [cntP] at key
        rw [← hx, show ((cntP F s + x : Nat) : Int) = (cntP F s : Int) + (x : Int) by omega] at key
        have hx1 : x ≤ 1 := by rw [hx]; split <;> omega
        refine AW.run ck_Md_steady [9] 10 59 ?_
        simp only [wR, wB, wE0, wE1, wE2, wE3, g0, gS, s10, s11, s1S, s20, s21, s2S, kl0, kl1, kl2, kl3, sp0, sp1, sp2, sp3, cn1, cn2, cn3, cn4, cn5, cn6, jJa, lk0, lk1, jmS, jmN, s4_0, s4_1, s4_2, s4_3, s4_4, sw0, sw1, cKs, cKn, true_and, and_true, List.map_cons, List.map_nil, Nat.reduceAdd, Nat.zero_add, Int.reduceAdd, Nat.reduceEqDiff, reduceIte, Classical.not_not, b_Md_steady, ce]
        (repeat' (first | omega | exact ⟨by omega, by omega⟩ | (with_reducible exact Or.inr trivial) | (with_reducible exact Or.inl trivial) | (with_reducible assumption) | (with_reducible exact Same.refl) | (with_reducible rfl) | (with_reducible refine And.intro ?_ ?_) | (with_reducible intro _)))
      have a58 : ∀ (K' : AM), ¬ F s = true → Same [122, 123] N K' → AW G d mi_Md_steady Q 58 [some (vr 117), some (vi (cntP F s)), some (vi s)] [vi (cntP F s)] K' := by
        intro K' hx hK'
        refine AW.run ck_Md_steady [59] 10 58 ?_
        simp only [wR, wB, wE0, wE1, wE2, wE3, g0, gS, s10, s11, s1S, s20, s21, s2S, kl0, kl1, kl2, kl3, sp0, sp1, sp2, sp3, cn1, cn2, cn3, cn4, cn5, cn6, jJa, lk0, lk1, jmS, jmN, s4_0, s4_1, s4_2, s4_3, s4_4, sw0, sw1, cKs, cKn, true_and, and_true, List.map_cons, List.map_nil, Nat.reduceAdd, Nat.zero_add, Int.reduceAdd, Nat.reduceEqDiff, reduceIte, Classical.not_not, b_Md_steady]
        exact a59 K' 0 (by rw [if_neg hx]) hK'
      refine AW.run ck_Md_steady [58, 59] 10 9 ?_
      simp only [wR, wB, wE0, wE1, wE2, wE3, g0, gS, s10, s11, s1S, s20, s21, s2S, kl0, kl1, kl2, kl3, sp0, sp1, sp2, sp3, cn1, cn2, cn3, cn4, cn5, cn6, jJa, lk0, lk1, jmS, jmN, s4_0, s4_1, s4_2, s4_3, s4_4, sw0, sw1, cKs, cKn, true_and, and_true, List.map_cons, List.map_nil, Nat.reduceAdd, Nat.zero_add, Int.reduceAdd, Nat.reduceEqDiff, reduceIte, Classical.not_not, b_Md_steady, shMd, k118, hH.2.1, e2p]
      (repeat' (first | omega | exact ⟨by omega, by omega⟩ | (with_reducible exact Or.inr trivial) | (with_reducible exact Or.inl trivial) | (with_reducible assumption) | (with_reducible exact Same.refl) | (with_reducible rfl) | (with_reducible refine And.intro ?_ ?_) | (with_reducible intro _)))
      refine MS.to (c_Md_whySet (d := d - 1) (st := σ.m.st) (by omega) (by rw [k118]; exact hH.2.1) hP (by rw [k118]; exact hst)) fun _ => ?_
      have ew : whyS σ.h.P σ.m.st s = if s &&& (31 ^^^ ablM σ.h.P σ.m.st) = 0 then 0 else 2 := by
        unfold whyS
        rw [if_pos (by omega), Int.toNat_natCast]
      rw [ew]
      simp only [wR, wB, wE0, wE1, wE2, wE3, g0, gS, s10, s11, s1S, s20, s21, s2S, kl0, kl1, kl2, kl3, sp0, sp1, sp2, sp3, cn1, cn2, cn3, cn4, cn5, cn6, jJa, lk0, lk1, jmS, jmN, s4_0, s4_1, s4_2, s4_3, s4_4, sw0, sw1, cKs, cKn, true_and, and_true, List.map_cons, List.map_nil, Nat.reduceAdd, Nat.zero_add, Int.reduceAdd, Nat.reduceEqDiff, reduceIte, Classical.not_not, b_Md_steady, shMd]
      by_cases q : s &&& (31 ^^^ ablM σ.h.P σ.m.st) = 0
      · rw [if_pos q]
        (repeat' (first | omega | exact ⟨by omega, by omega⟩ | (with_reducible exact Or.inr trivial) | (with_reducible exact Or.inl trivial) | (with_reducible assumption) | (with_reducible exact Same.refl) | (with_reducible rfl) | (with_reducible refine And.intro ?_ ?_) | (with_reducible intro _)))
        refine MS.to (c_Md_standNow (by rw [k118]; exact hH.2.1) hP (by rw [k118]; exact hst)) fun _ => ?_
        simp only [wR, wB, wE0, wE1, wE2, wE3, g0, gS, s10, s11, s1S, s20, s21, s2S, kl0, kl1, kl2, kl3, sp0, sp1, sp2, sp3, cn1, cn2, cn3, cn4, cn5, cn6, jJa, lk0, lk1, jmS, jmN, s4_0, s4_1, s4_2, s4_3, s4_4, sw0, sw1, cKs, cKn, true_and, and_true, List.map_cons, List.map_nil, Nat.reduceAdd, Nat.zero_add, Int.reduceAdd, Nat.reduceEqDiff, reduceIte, Classical.not_not, b_Md_steady, shMd, k118, hcold]
        (repeat' (first | omega | exact ⟨by omega, by omega⟩ | (with_reducible exact Or.inr trivial) | (with_reducible exact Or.inl trivial) | (with_reducible assumption) | (with_reducible exact Same.refl) | (with_reducible rfl) | (with_reducible refine And.intro ?_ ?_) | (with_reducible intro _)))
        refine (c_Md_hourTo (d := d - 1) (sd := σ.m.sd) (by omega) hok (by rw [k118]; exact hH) (by rw [k118]; exact hsd) (by omega) (by omega) mok.2).mono ?_
        rintro r' M1 okM1 ⟨rfl, u1⟩
        rw [codA_nxt mok]
        have hK1 := hK.trans u1
        have m118 : M1 118 = N 118 := hK1 118 (by (first | decide | (simp only [List.mem_cons, List.not_mem_nil, or_false, not_or, not_false_eq_true, and_true]; omega) | (simp [List.mem_cons]; done)))
        simp only [wR, wB, wE0, wE1, wE2, wE3, g0, gS, s10, s11, s1S, s20, s21, s2S, kl0, kl1, kl2, kl3, sp0, sp1, sp2, sp3, cn1, cn2, cn3, cn4, cn5, cn6, jJa, lk0, lk1, jmS, jmN, s4_0, s4_1, s4_2, s4_3, s4_4, sw0, sw1, cKs, cKn, true_and, and_true, List.map_cons, List.map_nil, Nat.reduceAdd, Nat.zero_add, Int.reduceAdd, Nat.reduceEqDiff, reduceIte, Classical.not_not, b_Md_steady, shMd]
        (repeat' (first | omega | exact ⟨by omega, by omega⟩ | (with_reducible exact Or.inr trivial) | (with_reducible exact Or.inl trivial) | (with_reducible assumption) | (with_reducible exact Same.refl) | (with_reducible rfl) | (with_reducible refine And.intro ?_ ?_) | (with_reducible intro _)))
        refine MS.to (c_Md_standNow (by rw [m118]; exact hH.2.1) hP (by rw [m118]; exact hst)) fun _ => ?_
        simp only [wR, wB, wE0, wE1, wE2, wE3, g0, gS, s10, s11, s1S, s20, s21, s2S, kl0, kl1, kl2, kl3, sp0, sp1, sp2, sp3, cn1, cn2, cn3, cn4, cn5, cn6, jJa, lk0, lk1, jmS, jmN, s4_0, s4_1, s4_2, s4_3, s4_4, sw0, sw1, cKs, cKn, true_and, and_true, List.map_cons, List.map_nil, Nat.reduceAdd, Nat.zero_add, Int.reduceAdd, Nat.reduceEqDiff, reduceIte, Classical.not_not, b_Md_steady]
        by_cases q2 : codA σ s σ.m.cold = cod σ.m.st σ.h.P
        · have := a59 M1 1 (by rw [if_pos (by rw [hFs]; simp [q, q2])]) hK1
          (repeat' (first | omega | exact ⟨by omega, by omega⟩ | (with_reducible exact Or.inr trivial) | (with_reducible exact Or.inl trivial) | (with_reducible assumption) | (with_reducible exact Same.refl) | (with_reducible rfl) | (with_reducible refine And.intro ?_ ?_) | (with_reducible intro _)))
        · have := a58 M1 (by rw [hFs]; simp [q2]) hK1
          (repeat' (first | omega | exact ⟨by omega, by omega⟩ | (with_reducible exact Or.inr trivial) | (with_reducible exact Or.inl trivial) | (with_reducible assumption) | (with_reducible exact Same.refl) | (with_reducible rfl) | (with_reducible refine And.intro ?_ ?_) | (with_reducible intro _)))
      · rw [if_neg q]
        have := a58 K (by rw [hFs]; simp [q]) hK
        (repeat' (first | omega | exact ⟨by omega, by omega⟩ | (with_reducible exact Or.inr trivial) | (with_reducible exact Or.inl trivial) | (with_reducible assumption) | (with_reducible exact Same.refl) | (with_reducible rfl) | (with_reducible refine And.intro ?_ ?_) | (with_reducible intro _)))
  exact loop (2 ^ σ.h.P) 0 N (by omega) Same.refl
end SD
