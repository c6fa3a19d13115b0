/-! Moment, Tray, Law, Front: the small classes -/
/-- who has a strength, among the first n -/
def ablN (f : Nat → Int) : Nat → Nat
  | 0 => 0
  | n + 1 => ablN f n + (if 0 < f n then 2 ^ n else 0)
theorem ablN_lt (f : Nat → Int) : ∀ n, ablN f n < 2 ^ n
  | 0 => by simp [ablN]
  | n + 1 => by
    have := ablN_lt f n
    have e : (2 : Nat) ^ (n + 1) = 2 ^ n + 2 ^ n := by rw [Nat.pow_succ]; omega
    simp only [ablN]
    split <;> omega
/-- a new bit above -/
theorem or_new {a n : Nat} (h : a < 2 ^ n) (hn : n < 30) : bOr (a : Int) (bShl 1 (n : Int)) = ((a + 2 ^ n : Nat) : Int) := by
  have h30 : (2 : Nat) ^ n < 2 ^ 30 := Nat.pow_lt_pow_right (by omega) hn
  rw [show (1 : Int) = ((1 : Nat) : Int) from rfl, bShl_n (by omega) (by omega), bOr_n (by omega) (by omega), Nat.one_mul, Nat.or_comm]
  have := Nat.two_pow_add_eq_or_of_lt h 1
  rw [Nat.mul_one] at this
  rw [← this]
  congr 1
  omega
/-- the strengths of some as one number, among the first n -/
def codN (who : Nat) (f : Nat → Int) : Nat → Int
  | 0 => 0
  | n + 1 => codN who f n + (if who / 2 ^ n % 2 = 1 then ((5 ^ n : Nat) : Int) * f n else 0)
theorem romP {p : Nat} (h : p < 6) : romA (-2) (p : Int) = ((5 ^ p : Nat) : Int) := by
  have key : ∀ p : Fin 6, romA (-2) (p.val : Int) = ((5 ^ p.val : Nat) : Int) := by decide +kernel
  exact key ⟨p, h⟩
theorem codN_in {who : Nat} {f : Nat → Int} : ∀ n, n ≤ 5 → (∀ p, p < n → 0 ≤ f p ∧ f p ≤ 4) → 0 ≤ codN who f n ∧ codN who f n < ((5 ^ n : Nat) : Int)
  | 0, _, _ => by simp [codN]
  | n + 1, hn, h => by
    have ih := codN_in (who := who) n (by omega) (fun p hp => h p (by omega))
    have hf := h n (by omega)
    have e : ((5 ^ (n + 1) : Nat) : Int) = ((5 ^ n : Nat) : Int) * 5 := by rw [Nat.pow_succ]; omega
    have hp : 0 < ((5 ^ n : Nat) : Int) := by have : 0 < 5 ^ n := Nat.pow_pos (by omega); omega
    have h1 : ((5 ^ n : Nat) : Int) * f n ≤ ((5 ^ n : Nat) : Int) * 4 := Int.mul_le_mul_of_nonneg_left hf.2 (by omega)
    have h2 : 0 ≤ ((5 ^ n : Nat) : Int) * f n := Int.mul_nonneg (by omega) hf.1
    simp only [codN]
    rw [e]
    split <;> omega
section SM
variable {G : AG} {d : Nat} {M : AM}
theorem c_Mo_strengthOf {z p : Int} (hz : isO z 4) : MS G d mi_Mo_strengthOf [vr z, vi p] M (fun r M' => r = some (vi (if 0 ≤ p ∧ p < 5 then M (z + 1) p else 0)) ∧ M' = M) := by
  refine MS.run ck_Mo_strengthOf [some (vr z), some (vi p)] [] 10 fun _ _ => ?_
  simp only [wR, wB, wE0, wE1, wE2, wE3, g0, gS, s10, s11, s1S, s20, s21, s2S, kl0, kl1, kl2, kl3, sp0, sp1, sp2, sp3, cn1, cn2, cn3, cn4, cn5, cn6, jJa, lk0, lk1, jmS, jmN, s4_0, s4_1, s4_2, s4_3, s4_4, sw0, sw1, cKs, cKn, true_and, and_true, List.map_cons, List.map_nil, Nat.reduceAdd, Nat.zero_add, Int.reduceAdd, Nat.reduceEqDiff, reduceIte, Classical.not_not, b_Mo_strengthOf, hz, (sh_Mo hz).1, (sh_Mo hz).2]
  refine ⟨fun h => ?_, fun h => ⟨fun h2 => ?_, fun h2 => ⟨⟨by omega, by omega⟩, ?_⟩⟩⟩
  · rw [if_neg (by omega)]
  · rw [if_neg (by omega)]
  · rw [if_pos (by omega)]
theorem c_Mo_able {z : Int} (hz : isO z 4) : MS G d mi_Mo_able [vr z] M (fun r M' => r = some (vi (ablN (fun p => M (z + 1) p) 5)) ∧ M' = M) := by
  refine MS.by ck_Mo_able [some (vr z), none, none] fun _ _ => ?_
  have loop : ∀ (m i : Nat), i + m = 5 → AW G d mi_Mo_able (fun r M' => r = some (vi (ablN (fun p => M (z + 1) p) 5)) ∧ M' = M) 4 [some (vr z), some (vi (ablN (fun p => M (z + 1) p) i)), some (vi i)] [] M := by
    intro m
    induction m with
    | zero =>
      intro i hi
      refine AW.run ck_Mo_able [4] 8 4 ?_
      simp only [wR, wB, wE0, wE1, wE2, wE3, g0, gS, s10, s11, s1S, s20, s21, s2S, kl0, kl1, kl2, kl3, sp0, sp1, sp2, sp3, cn1, cn2, cn3, cn4, cn5, cn6, jJa, lk0, lk1, jmS, jmN, s4_0, s4_1, s4_2, s4_3, s4_4, sw0, sw1, cKs, cKn, true_and, and_true, List.map_cons, List.map_nil, Nat.reduceAdd, Nat.zero_add, Int.reduceAdd, Nat.reduceEqDiff, reduceIte, Classical.not_not, b_Mo_able, hz, (sh_Mo hz).1, (sh_Mo hz).2]
      refine ⟨fun _ => ?_, fun h => absurd (by omega) h⟩
      rw [show i = 5 by omega]
    | succ m ih =>
      intro i hi
      have hl := ablN_lt (fun p => M (z + 1) p) i
      have key := ih (i + 1) (by omega)
      refine AW.run ck_Mo_able [4] 8 4 ?_
      simp only [wR, wB, wE0, wE1, wE2, wE3, g0, gS, s10, s11, s1S, s20, s21, s2S, kl0, kl1, kl2, kl3, sp0, sp1, sp2, sp3, cn1, cn2, cn3, cn4, cn5, cn6, jJa, lk0, lk1, jmS, jmN, s4_0, s4_1, s4_2, s4_3, s4_4, sw0, sw1, cKs, cKn, true_and, and_true, List.map_cons, List.map_nil, Nat.reduceAdd, Nat.zero_add, Int.reduceAdd, Nat.reduceEqDiff, reduceIte, Classical.not_not, b_Mo_able, hz, (sh_Mo hz).1, (sh_Mo hz).2]
      refine ⟨fun h => absurd h (by omega), fun _ => ⟨⟨by omega, by omega⟩, fun h0 => ⟨⟨by omega, by omega⟩, ?_⟩, fun h0 => ⟨⟨by omega, by omega⟩, ?_⟩⟩⟩
      · simp only [ablN, if_neg (show ¬ 0 < M (z + 1) i by omega), Nat.add_zero] at key
        exact key
      · rw [or_new hl (by omega)]
        simp only [ablN, if_pos (show 0 < M (z + 1) i by omega)] at key
        exact key
  refine AW.run ck_Mo_able [4] 8 0 ?_
  simp only [wR, wB, wE0, wE1, wE2, wE3, g0, gS, s10, s11, s1S, s20, s21, s2S, kl0, kl1, kl2, kl3, sp0, sp1, sp2, sp3, cn1, cn2, cn3, cn4, cn5, cn6, jJa, lk0, lk1, jmS, jmN, s4_0, s4_1, s4_2, s4_3, s4_4, sw0, sw1, cKs, cKn, true_and, and_true, List.map_cons, List.map_nil, Nat.reduceAdd, Nat.zero_add, Int.reduceAdd, Nat.reduceEqDiff, reduceIte, Classical.not_not, b_Mo_able]
  exact loop 5 0 (by omega)
set_option maxRecDepth 20000 in
theorem c_Mo_together {z : Int} (hz : isO z 4) (hb : ∀ p : Int, 0 ≤ p → p < 5 → 0 ≤ M (z + 1) p ∧ M (z + 1) p ≤ 4) : MS G d mi_Mo_together [vr z] M (fun r M' => r = some (vi (M (z + 1) 0 + M (z + 1) 1 + M (z + 1) 2 + M (z + 1) 3 + M (z + 1) 4)) ∧ M' = M) := by
  have h0 := hb 0 (by omega) (by omega)
  have h1 := hb 1 (by omega) (by omega)
  have h2 := hb 2 (by omega) (by omega)
  have h3 := hb 3 (by omega) (by omega)
  have h4 := hb 4 (by omega) (by omega)
  refine MS.run ck_Mo_together [some (vr z), none, none] [] 20 fun _ _ => ?_
  simp only [wR, wB, wE0, wE1, wE2, wE3, g0, gS, s10, s11, s1S, s20, s21, s2S, kl0, kl1, kl2, kl3, sp0, sp1, sp2, sp3, cn1, cn2, cn3, cn4, cn5, cn6, jJa, lk0, lk1, jmS, jmN, s4_0, s4_1, s4_2, s4_3, s4_4, sw0, sw1, cKs, cKn, true_and, and_true, List.map_cons, List.map_nil, Nat.reduceAdd, Nat.zero_add, Int.reduceAdd, Nat.reduceEqDiff, reduceIte, Classical.not_not, b_Mo_together, hz, (sh_Mo hz).1, (sh_Mo hz).2, Int.reduceAdd, Int.zero_add, Int.reduceLE, Int.reduceLT, not_true_eq_false, false_imp_iff, not_false_eq_true, true_imp_iff]
  simp only [inI]
  exact ⟨⟨by omega, by omega⟩, ⟨by omega, by omega⟩, ⟨by omega, by omega⟩, ⟨by omega, by omega⟩, ⟨by omega, by omega⟩, ⟨by omega, by omega⟩⟩
theorem c_Mo_code {z : Int} {who : Nat} (hz : isO z 4) (hw : who < 32) (hb : ∀ p : Nat, p < 5 → 0 ≤ M (z + 1) p ∧ M (z + 1) p ≤ 4) : MS G d mi_Mo_code [vr z, vi who] M (fun r M' => r = some (vi (codN who (fun p => M (z + 1) p) 5)) ∧ M' = M) := by
  refine MS.by ck_Mo_code [some (vr z), some (vi who), none, none] fun _ _ => ?_
  have loop : ∀ (m i : Nat), i + m = 5 → AW G d mi_Mo_code (fun r M' => r = some (vi (codN who (fun p => M (z + 1) p) 5)) ∧ M' = M) 4 [some (vr z), some (vi who), some (vi (codN who (fun p => M (z + 1) p) i)), some (vi i)] [] M := by
    intro m
    induction m with
    | zero =>
      intro i hi
      refine AW.run ck_Mo_code [4] 8 4 ?_
      simp only [wR, wB, wE0, wE1, wE2, wE3, g0, gS, s10, s11, s1S, s20, s21, s2S, kl0, kl1, kl2, kl3, sp0, sp1, sp2, sp3, cn1, cn2, cn3, cn4, cn5, cn6, jJa, lk0, lk1, jmS, jmN, s4_0, s4_1, s4_2, s4_3, s4_4, sw0, sw1, cKs, cKn, true_and, and_true, List.map_cons, List.map_nil, Nat.reduceAdd, Nat.zero_add, Int.reduceAdd, Nat.reduceEqDiff, reduceIte, Classical.not_not, b_Mo_code, hz, (sh_Mo hz).1, (sh_Mo hz).2]
      refine ⟨fun _ => ?_, fun h => absurd (by omega) h⟩
      rw [show i = 5 by omega]
    | succ m ih =>
      intro i hi
      have key := ih (i + 1) (by omega)
      have c0 := codN_in (who := who) (f := fun p => M (z + 1) p) i (by omega) (fun p hp => hb p (by omega))
      have c1 := codN_in (who := who) (f := fun p => M (z + 1) p) (i + 1) (by omega) (fun p hp => hb p (by omega))
      refine AW.run ck_Mo_code [4] 8 4 ?_
      simp only [wR, wB, wE0, wE1, wE2, wE3, g0, gS, s10, s11, s1S, s20, s21, s2S, kl0, kl1, kl2, kl3, sp0, sp1, sp2, sp3, cn1, cn2, cn3, cn4, cn5, cn6, jJa, lk0, lk1, jmS, jmN, s4_0, s4_1, s4_2, s4_3, s4_4, sw0, sw1, cKs, cKn, true_and, and_true, List.map_cons, List.map_nil, Nat.reduceAdd, Nat.zero_add, Int.reduceAdd, Nat.reduceEqDiff, reduceIte, Classical.not_not, b_Mo_code, hz, (sh_Mo hz).1, (sh_Mo hz).2, bit_n (show who < 2 ^ 31 by omega) (show i < 32 by omega), romP (show i < 6 by omega), ce]
      have h5 : ((5 ^ i : Nat) : Int) ≤ 625 := by
        have : 5 ^ i ≤ 5 ^ 4 := Nat.pow_le_pow_right (by omega) (by omega)
        omega
      have h5' : ((5 ^ (i + 1) : Nat) : Int) ≤ 3125 := by
        have : 5 ^ (i + 1) ≤ 5 ^ 5 := Nat.pow_le_pow_right (by omega) (by omega)
        omega
      have hbi := hb i (by omega)
      have m1 : ((5 ^ i : Nat) : Int) * M (z + 1) i ≤ ((5 ^ i : Nat) : Int) * 4 := Int.mul_le_mul_of_nonneg_left hbi.2 (by omega)
      have m2 : 0 ≤ ((5 ^ i : Nat) : Int) * M (z + 1) i := Int.mul_nonneg (by omega) hbi.1
      refine ⟨fun h => absurd h (by omega), fun _ => ⟨fun hb0 => ⟨⟨by omega, by omega⟩, ?_⟩, fun hb1 => ⟨⟨by omega, by omega⟩, ⟨by omega, by omega⟩, ⟨by omega, by omega⟩, ⟨by omega, by omega⟩, ⟨by omega, by omega⟩, ?_⟩⟩⟩
      · simp only [codN, if_neg (show ¬ who / 2 ^ i % 2 = 1 by omega), Int.add_zero] at key
        exact key
      · simp only [codN, if_pos (show who / 2 ^ i % 2 = 1 by omega)] at key
        exact key
  refine AW.run ck_Mo_code [4] 8 0 ?_
  simp only [wR, wB, wE0, wE1, wE2, wE3, g0, gS, s10, s11, s1S, s20, s21, s2S, kl0, kl1, kl2, kl3, sp0, sp1, sp2, sp3, cn1, cn2, cn3, cn4, cn5, cn6, jJa, lk0, lk1, jmS, jmN, s4_0, s4_1, s4_2, s4_3, s4_4, sw0, sw1, cKs, cKn, true_and, and_true, List.map_cons, List.map_nil, Nat.reduceAdd, Nat.zero_add, Int.reduceAdd, Nat.reduceEqDiff, reduceIte, Classical.not_not, b_Mo_code]
  exact loop 5 0 (by omega)
theorem isO_arT {z w : Int} {ci : Nat} {ty : FieldType} (h : isO z ci) (h2 : arT w ty) : z ≠ w := by
  intro e
  subst e
  obtain ⟨n, h2⟩ := h2
  unfold isO at h
  rw [h] at h2
  cases h2
/-- a moment copied: from o to z -/
def moC (M : AM) (z o : Int) : AM := fun x y => if x = z ∧ 0 ≤ y ∧ y ≤ 2 then M o y else if x = z + 1 ∧ 0 ≤ y ∧ y < 5 then M (o + 1) y else M x y
theorem c_Mo_copy {z o : Int} (hd : 1 ≤ d) (hz : isO z 4) (ho : isO o 4) : MS G d mi_Mo_copy [vr z, vr o] M (fun r M' => r = none ∧ M' = moC M z o) := by
  refine MS.run ck_Mo_copy [some (vr z), some (vr o)] [] 20 fun _ _ => ?_
  simp only [wR, wB, wE0, wE1, wE2, wE3, g0, gS, s10, s11, s1S, s20, s21, s2S, kl0, kl1, kl2, kl3, sp0, sp1, sp2, sp3, cn1, cn2, cn3, cn4, cn5, cn6, jJa, lk0, lk1, jmS, jmN, s4_0, s4_1, s4_2, s4_3, s4_4, sw0, sw1, cKs, cKn, true_and, and_true, List.map_cons, List.map_nil, Nat.reduceAdd, Nat.zero_add, Int.reduceAdd, Nat.reduceEqDiff, reduceIte, Classical.not_not, b_Mo_copy, hz, ho, (sh_Mo hz).1, (sh_Mo hz).2, (sh_Mo ho).1, (sh_Mo ho).2]
  have h1 := isO_arT ho (sh_Mo hz).1
  have h2 := isO_arT hz (sh_Mo ho).1
  refine ⟨hd, ⟨by omega, by omega, by omega, by omega, by omega⟩, ?_⟩
  funext x y
  simp only [cpy, up, moC]
  repeat' split
  all_goals first | rfl | (exfalso; omega) | (congr 1 <;> omega)
/-- a moment begun with the hall h, its first n strengths laid -/
def moB (M : AM) (z h P n : Int) : AM := fun x y => if x = z ∧ y = 0 then M h 4 else if x = z ∧ y = 1 then M h 3 else if x = z ∧ y = 2 then 0 else if x = z + 1 ∧ 0 ≤ y ∧ y < n then (if y < P then M (h + 1) y else 0) else M x y
theorem c_Mo_begin {z h P : Int} (hz : isO z 4) (hh : isO h 2) (hP : M h 2 = P) (hP5 : P ≤ 5) : MS G d mi_Mo_begin [vr z, vr h] M (fun r M' => r = none ∧ M' = moB M z h P 5) := by
  have e1 := isO_arT hh (sh_Mo hz).1
  have e2 := isO_arT hz (sh_Mo hz).1
  have e3 := isO_arT hz (sh_Ha hh).1.1
  have e4 : ¬ z = h := by
    intro e; subst e; unfold isO at hz hh; rw [hz] at hh; cases hh
  have e5 : ¬ z + 1 = h + 1 := by omega
  have hb : ∀ n : Int, moB M z h P n h 2 = P := by
    intro n
    unfold moB
    rw [if_neg (by omega), if_neg (by omega), if_neg (by omega), if_neg (by omega), hP]
  have hs : ∀ n y : Int, moB M z h P n (h + 1) y = M (h + 1) y := by
    intro n y
    unfold moB
    rw [if_neg (by omega), if_neg (by omega), if_neg (by omega), if_neg (by omega)]
  refine MS.by ck_Mo_begin [some (vr z), some (vr h), none] fun _ _ => ?_
  have loop : ∀ (m : Nat) (i : Int), 0 ≤ i → i + m = 5 → AW G d mi_Mo_begin (fun r M' => r = none ∧ M' = moB M z h P 5) 23 [some (vr z), some (vr h), some (vi i)] [] (moB M z h P i) := by
    intro m
    induction m with
    | zero =>
      intro i h0 hi
      refine AW.run ck_Mo_begin [23] 8 23 ?_
      simp only [wR, wB, wE0, wE1, wE2, wE3, g0, gS, s10, s11, s1S, s20, s21, s2S, kl0, kl1, kl2, kl3, sp0, sp1, sp2, sp3, cn1, cn2, cn3, cn4, cn5, cn6, jJa, lk0, lk1, jmS, jmN, s4_0, s4_1, s4_2, s4_3, s4_4, sw0, sw1, cKs, cKn, true_and, and_true, List.map_cons, List.map_nil, Nat.reduceAdd, Nat.zero_add, Int.reduceAdd, Nat.reduceEqDiff, reduceIte, Classical.not_not, b_Mo_begin, hz, hh, (sh_Mo hz).1, (sh_Mo hz).2]
      refine ⟨fun _ => ?_, fun h => absurd (by omega) h⟩
      rw [show i = 5 by omega]
    | succ m ih =>
      intro i h0 hi
      have key := ih (i + 1) (by omega) (by omega)
      have up1 : ∀ v : Int, v = (if i < P then M (h + 1) i else 0) → up (moB M z h P i) (z + 1) i v = moB M z h P (i + 1) := by
        intro v hv
        funext x y
        simp only [up, moB]
        by_cases hx : x = z + 1 ∧ y = i
        · rw [if_pos hx, if_neg (by omega), if_neg (by omega), if_neg (by omega), if_pos (by omega), hx.2, hv]
        · rw [if_neg hx]
          repeat' split
          all_goals first | rfl | (exfalso; omega)
      refine AW.run ck_Mo_begin [23] 8 23 ?_
      simp only [wR, wB, wE0, wE1, wE2, wE3, g0, gS, s10, s11, s1S, s20, s21, s2S, kl0, kl1, kl2, kl3, sp0, sp1, sp2, sp3, cn1, cn2, cn3, cn4, cn5, cn6, jJa, lk0, lk1, jmS, jmN, s4_0, s4_1, s4_2, s4_3, s4_4, sw0, sw1, cKs, cKn, true_and, and_true, List.map_cons, List.map_nil, Nat.reduceAdd, Nat.zero_add, Int.reduceAdd, Nat.reduceEqDiff, reduceIte, Classical.not_not, b_Mo_begin, hz, hh, (sh_Mo hz).1, (sh_Mo hz).2, (sh_Ha hh).1, hb, hs]
      refine ⟨fun h => absurd h (by omega), fun _ => ⟨fun hp => ⟨⟨by omega, by omega⟩, ⟨by omega, by omega⟩, ?_⟩, fun hp => ⟨⟨by omega, by omega⟩, ⟨by omega, by omega⟩, ⟨by omega, by omega⟩, ?_⟩⟩⟩
      · rw [up1 0 (by rw [if_neg (by omega)])]
        exact key
      · rw [up1 _ (by rw [if_pos (by omega)])]
        exact key
  refine AW.run ck_Mo_begin [23] 8 0 ?_
  simp only [wR, wB, wE0, wE1, wE2, wE3, g0, gS, s10, s11, s1S, s20, s21, s2S, kl0, kl1, kl2, kl3, sp0, sp1, sp2, sp3, cn1, cn2, cn3, cn4, cn5, cn6, jJa, lk0, lk1, jmS, jmN, s4_0, s4_1, s4_2, s4_3, s4_4, sw0, sw1, cKs, cKn, true_and, and_true, List.map_cons, List.map_nil, Nat.reduceAdd, Nat.zero_add, Int.reduceAdd, Nat.reduceEqDiff, reduceIte, Classical.not_not, b_Mo_begin, hz, hh]
  have := loop 5 0 (by omega) (by omega)
  have e6 : moB M z h P 0 = up (up (up M z 0 (M h 4)) z 1 (up M z 0 (M h 4) h 3)) z 2 0 := by
    funext x y
    simp only [up, moB]
    repeat' split
    all_goals first | rfl | (exfalso; omega)
  rw [← e6]
  exact this
/-! Tray -/
def cutv (sort v : Int) : Int := if sort = 0 then w8 (w3 v) else if sort = 1 then w16 (w3 v) else if sort = 2 then w3 v else v
theorem c_Tr_at {z i : Int} (hz : isO z 11) : MS G d mi_Tr_at [vr z, vi i] M (fun r M' => r = some (vl (if 0 ≤ i ∧ i < 40 then M (z + 1) i else 0)) ∧ M' = M) := by
  refine MS.run ck_Tr_at [some (vr z), some (vi i)] [] 10 fun _ _ => ?_
  simp only [wR, wB, wE0, wE1, wE2, wE3, g0, gS, s10, s11, s1S, s20, s21, s2S, kl0, kl1, kl2, kl3, sp0, sp1, sp2, sp3, cn1, cn2, cn3, cn4, cn5, cn6, jJa, lk0, lk1, jmS, jmN, s4_0, s4_1, s4_2, s4_3, s4_4, sw0, sw1, cKs, cKn, true_and, and_true, List.map_cons, List.map_nil, Nat.reduceAdd, Nat.zero_add, Int.reduceAdd, Nat.reduceEqDiff, reduceIte, Classical.not_not, b_Tr_at, hz, (sh_Tr hz).1, (sh_Tr hz).2]
  refine ⟨fun h => ?_, fun h => ⟨fun h2 => ?_, fun h2 => ⟨⟨by omega, by omega⟩, ?_⟩⟩⟩
  · rw [if_neg (by omega)]
  · rw [if_neg (by omega)]
  · rw [if_pos (by omega)]
theorem c_Tr_cut {z v : Int} (hz : isO z 11) (h0 : 0 ≤ M z 1) : MS G d mi_Tr_cut [vr z, vl v] M (fun r M' => r = some (vl (cutv (M z 1) v)) ∧ M' = M) := by
  refine MS.run ck_Tr_cut [some (vr z), some (vl v), none] [] 10 fun _ _ => ?_
  simp only [wR, wB, wE0, wE1, wE2, wE3, g0, gS, s10, s11, s1S, s20, s21, s2S, kl0, kl1, kl2, kl3, sp0, sp1, sp2, sp3, cn1, cn2, cn3, cn4, cn5, cn6, jJa, lk0, lk1, jmS, jmN, s4_0, s4_1, s4_2, s4_3, s4_4, sw0, sw1, cKs, cKn, true_and, and_true, List.map_cons, List.map_nil, Nat.reduceAdd, Nat.zero_add, Int.reduceAdd, Nat.reduceEqDiff, reduceIte, Classical.not_not, b_Tr_cut, hz]
  unfold cutv
  refine ⟨fun h => ?_, fun h => ?_, fun h => ?_, fun h => ?_⟩
  · have h : M z 1 < 0 ∨ 3 ≤ M z 1 := h
    rw [if_neg (by omega), if_neg (by omega), if_neg (by omega)]
  · rw [if_pos h]
  · rw [if_neg (by omega), if_pos (by omega)]
  · rw [if_neg (by omega), if_neg (by omega), if_pos (by omega)]
theorem c_Tr_put {z i v : Int} (hd : 1 ≤ d) (hz : isO z 11) (h0 : 0 ≤ M z 1) (hn : M z 0 ≤ 40) : MS G d mi_Tr_put [vr z, vi i, vl v] M (fun r M' => r = none ∧ M' = if 0 ≤ i ∧ i < M z 0 then up M (z + 1) i (cutv (M z 1) v) else M) := by
  refine MS.run ck_Tr_put [some (vr z), some (vi i), some (vl v), none] [] 10 fun _ _ => ?_
  simp only [wR, wB, wE0, wE1, wE2, wE3, g0, gS, s10, s11, s1S, s20, s21, s2S, kl0, kl1, kl2, kl3, sp0, sp1, sp2, sp3, cn1, cn2, cn3, cn4, cn5, cn6, jJa, lk0, lk1, jmS, jmN, s4_0, s4_1, s4_2, s4_3, s4_4, sw0, sw1, cKs, cKn, true_and, and_true, List.map_cons, List.map_nil, Nat.reduceAdd, Nat.zero_add, Int.reduceAdd, Nat.reduceEqDiff, reduceIte, Classical.not_not, b_Tr_put, hz, (sh_Tr hz).1, (sh_Tr hz).2]
  refine ⟨fun h => ?_, fun h => ⟨fun h2 => ?_, fun h2 => ⟨hd, MS.to (c_Tr_cut hz h0) fun _ => ?_⟩⟩⟩
  · rw [if_neg (by omega)]
  · rw [if_neg (by omega)]
  · simp only [wR, wB, wE0, wE1, wE2, wE3, g0, gS, s10, s11, s1S, s20, s21, s2S, kl0, kl1, kl2, kl3, sp0, sp1, sp2, sp3, cn1, cn2, cn3, cn4, cn5, cn6, jJa, lk0, lk1, jmS, jmN, s4_0, s4_1, s4_2, s4_3, s4_4, sw0, sw1, cKs, cKn, true_and, and_true, List.map_cons, List.map_nil, Nat.reduceAdd, Nat.zero_add, Int.reduceAdd, Nat.reduceEqDiff, reduceIte, Classical.not_not, b_Tr_put, hz, (sh_Tr hz).1, (sh_Tr hz).2]
    refine ⟨⟨by omega, by omega⟩, ?_⟩
    rw [if_pos (by omega)]
theorem c_Tr_begin {z s n : Int} (hd : 1 ≤ d) (hz : isO z 11) (hn : n ≤ 40) : MS G d mi_Tr_begin [vr z, vi s, vi n] M (fun r M' => r = none ∧ M' = fil (up (up M z 1 s) z 0 n) (z + 1) 0 40 0) := by
  refine MS.run ck_Tr_begin [some (vr z), some (vi s), some (vi n)] [] 10 fun _ _ => ?_
  simp only [wR, wB, wE0, wE1, wE2, wE3, g0, gS, s10, s11, s1S, s20, s21, s2S, kl0, kl1, kl2, kl3, sp0, sp1, sp2, sp3, cn1, cn2, cn3, cn4, cn5, cn6, jJa, lk0, lk1, jmS, jmN, s4_0, s4_1, s4_2, s4_3, s4_4, sw0, sw1, cKs, cKn, true_and, and_true, List.map_cons, List.map_nil, Nat.reduceAdd, Nat.zero_add, Int.reduceAdd, Nat.reduceEqDiff, reduceIte, Classical.not_not, b_Tr_begin, hz, (sh_Tr hz).1, (sh_Tr hz).2]
  refine ⟨hd, hd, MS.to (c_JA_fill3 (sh_Tr hz).1) fun _ => ?_⟩
  simp only [wR, wB, wE0, wE1, wE2, wE3, g0, gS, s10, s11, s1S, s20, s21, s2S, kl0, kl1, kl2, kl3, sp0, sp1, sp2, sp3, cn1, cn2, cn3, cn4, cn5, cn6, jJa, lk0, lk1, jmS, jmN, s4_0, s4_1, s4_2, s4_3, s4_4, sw0, sw1, cKs, cKn, true_and, and_true, List.map_cons, List.map_nil, Nat.reduceAdd, Nat.zero_add, Int.reduceAdd, Nat.reduceEqDiff, reduceIte, Classical.not_not, b_Tr_begin]
  rw [(sh_Tr hz).2, if_neg (by omega)]
theorem c_Tr_within {z lo top : Int} (hz : isO z 11) (hn : M z 0 ≤ 40) : MS G d mi_Tr_within [vr z, vi lo, vi top] M (fun r M' => (∃ x, r = some (vi x) ∧ (x = 0 ∨ x = 1) ∧ (x = 1 ↔ ∀ i : Int, 0 ≤ i → i < M z 0 → lo ≤ M (z + 1) i ∧ M (z + 1) i ≤ top)) ∧ M' = M) := by
  refine MS.by ck_Tr_within [some (vr z), some (vi lo), some (vi top), none] fun _ _ => ?_
  have loop : ∀ (m : Nat) (i : Int), 0 ≤ i → i + m = max (M z 0) 0 → (∀ j : Int, 0 ≤ j → j < i → lo ≤ M (z + 1) j ∧ M (z + 1) j ≤ top) → AW G d mi_Tr_within (fun r M' => (∃ x, r = some (vi x) ∧ (x = 0 ∨ x = 1) ∧ (x = 1 ↔ ∀ i : Int, 0 ≤ i → i < M z 0 → lo ≤ M (z + 1) i ∧ M (z + 1) i ≤ top)) ∧ M' = M) 2 [some (vr z), some (vi lo), some (vi top), some (vi i)] [] M := by
    intro m
    induction m with
    | zero =>
      intro i h0 hi hj
      refine AW.run ck_Tr_within [2] 8 2 ?_
      simp only [wR, wB, wE0, wE1, wE2, wE3, g0, gS, s10, s11, s1S, s20, s21, s2S, kl0, kl1, kl2, kl3, sp0, sp1, sp2, sp3, cn1, cn2, cn3, cn4, cn5, cn6, jJa, lk0, lk1, jmS, jmN, s4_0, s4_1, s4_2, s4_3, s4_4, sw0, sw1, cKs, cKn, true_and, and_true, List.map_cons, List.map_nil, Nat.reduceAdd, Nat.zero_add, Int.reduceAdd, Nat.reduceEqDiff, reduceIte, Classical.not_not, b_Tr_within, hz]
      refine ⟨fun _ => ⟨Or.inr trivial, 1, rfl, by omega, ⟨fun _ j a b => hj j a (by omega), fun _ => rfl⟩⟩, fun h => absurd (by omega) h⟩
    | succ m ih =>
      intro i h0 hi hj
      refine AW.run ck_Tr_within [2] 8 2 ?_
      simp only [wR, wB, wE0, wE1, wE2, wE3, g0, gS, s10, s11, s1S, s20, s21, s2S, kl0, kl1, kl2, kl3, sp0, sp1, sp2, sp3, cn1, cn2, cn3, cn4, cn5, cn6, jJa, lk0, lk1, jmS, jmN, s4_0, s4_1, s4_2, s4_3, s4_4, sw0, sw1, cKs, cKn, true_and, and_true, List.map_cons, List.map_nil, Nat.reduceAdd, Nat.zero_add, Int.reduceAdd, Nat.reduceEqDiff, reduceIte, Classical.not_not, b_Tr_within, hz, (sh_Tr hz).1, (sh_Tr hz).2, cmp3_lt, cmp3_le]
      have no : ∀ q : ¬ (lo ≤ M (z + 1) i ∧ M (z + 1) i ≤ top), ∃ x, some (vi 0) = some (vi x) ∧ (x = 0 ∨ x = 1) ∧ (x = 1 ↔ ∀ i : Int, 0 ≤ i → i < M z 0 → lo ≤ M (z + 1) i ∧ M (z + 1) i ≤ top) := fun q => ⟨0, rfl, by omega, ⟨fun h => absurd h (by omega), fun h => absurd (h i h0 (by omega)) q⟩⟩
      refine ⟨fun h => absurd h (by omega), fun _ => ⟨⟨h0, by omega⟩, fun h1 => ⟨by simp, no (by omega)⟩, fun h1 => ⟨⟨h0, by omega⟩, fun h2 => ⟨⟨by omega, by omega⟩, ih (i + 1) (by omega) (by omega) fun j a b => ?_⟩, fun h2 => ⟨by simp, no (by omega)⟩⟩⟩⟩
      by_cases hji : j = i
      · subst hji; exact ⟨by omega, h2⟩
      · exact hj j a (by omega)
  refine AW.run ck_Tr_within [2] 8 0 ?_
  simp only [wR, wB, wE0, wE1, wE2, wE3, g0, gS, s10, s11, s1S, s20, s21, s2S, kl0, kl1, kl2, kl3, sp0, sp1, sp2, sp3, cn1, cn2, cn3, cn4, cn5, cn6, jJa, lk0, lk1, jmS, jmN, s4_0, s4_1, s4_2, s4_3, s4_4, sw0, sw1, cKs, cKn, true_and, and_true, List.map_cons, List.map_nil, Nat.reduceAdd, Nat.zero_add, Int.reduceAdd, Nat.reduceEqDiff, reduceIte, Classical.not_not, b_Tr_within, hz]
  exact loop (max (M z 0) 0).toNat 0 (by omega) (by omega) (fun j a b => absurd b (by omega))
end SM
