/-! Moment, Tray, Law, Front: the small classes -/
/-- who has a strength, among the first n -/
def ablN (f : Nat → Int) : Nat → Nat
  | 0 => 0
  | n + 1 => ablN f n + (if 0 < f n then 2 ^ n else 0)
theorem ablN_lt (f : Nat → Int) : ∀ n, ablN f n < 2 ^ n
  | 0 => by decide
  | n + 1 => by
    have := ablN_lt f n
    have e : (2 : Nat) ^ (n + 1) = 2 ^ n + 2 ^ n := by rw [Nat.pow_succ]; omega
    simp only [ablN]
    split <;> omega
/-- a new bit above -/
theorem or_new {a n : Nat} (h : a < 2 ^ n) (hn : n < 30) : bOr (a : Int) (bShl 1 (n : Int)) = ((a + 2 ^ n : Nat) : Int) := by
  have h30 : (2 : Nat) ^ n < 2 ^ 30 := Nat.pow_lt_pow_right (by omega) hn
  rw [show (1 : Int) = ((1 : Nat) : Int) from rfl, bShl_n (by omega) (by omega), bOr_n (by omega) (by omega), Nat.one_mul, Nat.or_comm]
  have := Nat.two_pow_add_eq_or_of_lt h 1
  rw [Nat.mul_one] at this
  rw [← this]
  congr 1
  omega
/-- the strengths of some as one number, among the first n -/
def codN (who : Nat) (f : Nat → Int) : Nat → Int
  | 0 => 0
  | n + 1 => codN who f n + (if who / 2 ^ n % 2 = 1 then ((5 ^ n : Nat) : Int) * f n else 0)
theorem romP {p : Nat} (h : p < 6) : romA (-2) (p : Int) = ((5 ^ p : Nat) : Int) := by
  have key : ∀ p : Fin 6, romA (-2) (p.val : Int) = ((5 ^ p.val : Nat) : Int) := by decide +kernel
  exact key ⟨p, h⟩
theorem codN_in {who : Nat} {f : Nat → Int} : ∀ n, n ≤ 5 → (∀ p, p < n → 0 ≤ f p ∧ f p ≤ 4) → 0 ≤ codN who f n ∧ codN who f n < ((5 ^ n : Nat) : Int)
  | 0, _, _ => by decide
  | n + 1, hn, h => by
    have ih := codN_in n (by omega) (fun p hp => h p (by omega))
    have hf := h n (by omega)
    have e : ((5 ^ (n + 1) : Nat) : Int) = ((5 ^ n : Nat) : Int) * 5 := by rw [Nat.pow_succ]; omega
    have hp : 0 < ((5 ^ n : Nat) : Int) := by have : 0 < 5 ^ n := Nat.pow_pos (by omega); omega
    have h1 : ((5 ^ n : Nat) : Int) * f n ≤ ((5 ^ n : Nat) : Int) * 4 := Int.mul_le_mul_of_nonneg_left hf.2 (by omega)
    have h2 : 0 ≤ ((5 ^ n : Nat) : Int) * f n := Int.mul_nonneg (by omega) hf.1
    simp only [codN]
    rw [e]
    split <;> omega
section SM
variable {G : AG} {d : Nat} {M : AM}
theorem c_Mo_strengthOf {z p : Int} (hz : isO z 4) : MS G d mi_Mo_strengthOf [vr z, vi p] M (fun r M' => r = some (vi (if 0 ≤ p ∧ p < 5 then M (z + 1) p else 0)) ∧ M' = M) := by
  refine MS.run ck_Mo_strengthOf [some (vr z), some (vi p)] [] 10 fun _ _ => ?_
  simp only [wR, wB, wE0, wE1, wE2, wE3, g0, gS, s10, s11, s1S, s20, s21, s2S, kl0, kl1, kl2, kl3, sp0, sp1, sp2, sp3, cn1, cn2, cn3, cn4, cn5, cn6, jJa, lk0, lk1, jmS, jmN, s4_0, s4_1, s4_2, s4_3, s4_4, sw0, sw1, cKs, cKn, true_and, and_true, List.map_cons, List.map_nil, Nat.reduceEqDiff, reduceIte, Classical.not_not, b_Mo_strengthOf, hz, (sh_Mo hz).1, (sh_Mo hz).2]
  refine ⟨fun h => ?_, fun h => ⟨fun h2 => ?_, fun h2 => ⟨⟨by omega, by omega⟩, ?_⟩⟩⟩
  · rw [if_neg (by omega)]
  · rw [if_neg (by omega)]
  · rw [if_pos (by omega)]
theorem c_Mo_able {z : Int} (hz : isO z 4) : MS G d mi_Mo_able [vr z] M (fun r M' => r = some (vi (ablN (fun p => M (z + 1) p) 5)) ∧ M' = M) := by
  refine MS.by ck_Mo_able [some (vr z), none, none] fun _ _ => ?_
  have loop : ∀ (m i : Nat), i + m = 5 → AW G d mi_Mo_able (fun r M' => r = some (vi (ablN (fun p => M (z + 1) p) 5)) ∧ M' = M) 4 [some (vr z), some (vi (ablN (fun p => M (z + 1) p) i)), some (vi i)] [] M := by
    intro m
    induction m with
    | zero =>
      intro i hi
      refine AW.run ck_Mo_able [4] 8 4 ?_
      simp only [wR, wB, wE0, wE1, wE2, wE3, g0, gS, s10, s11, s1S, s20, s21, s2S, kl0, kl1, kl2, kl3, sp0, sp1, sp2, sp3, cn1, cn2, cn3, cn4, cn5, cn6, jJa, lk0, lk1, jmS, jmN, s4_0, s4_1, s4_2, s4_3, s4_4, sw0, sw1, cKs, cKn, true_and, and_true, List.map_cons, List.map_nil, Nat.reduceEqDiff, reduceIte, Classical.not_not, b_Mo_able, hz, (sh_Mo hz).1, (sh_Mo hz).2]
      refine ⟨fun _ => ?_, fun h => absurd (by omega) h⟩
      rw [show i = 5 by omega]
    | succ m ih =>
      intro i hi
      have hl := ablN_lt (fun p => M (z + 1) p) i
      have key := ih (i + 1) (by omega)
      refine AW.run ck_Mo_able [4] 8 4 ?_
      simp only [wR, wB, wE0, wE1, wE2, wE3, g0, gS, s10, s11, s1S, s20, s21, s2S, kl0, kl1, kl2, kl3, sp0, sp1, sp2, sp3, cn1, cn2, cn3, cn4, cn5, cn6, jJa, lk0, lk1, jmS, jmN, s4_0, s4_1, s4_2, s4_3, s4_4, sw0, sw1, cKs, cKn, true_and, and_true, List.map_cons, List.map_nil, Nat.reduceEqDiff, reduceIte, Classical.not_not, b_Mo_able, hz, (sh_Mo hz).1, (sh_Mo hz).2]
      trace_state
      sorry
  sorry
end SM
