/-! only the strengths of some -/
def prj (P W s : Nat) : Nat := cod (fun p => if wb W p = true then dig s p else 0) P
theorem dig_prj {P W s p : Nat} (hp : p < P) : dig (prj P W s) p = if wb W p = true then dig s p else 0 := by
  unfold prj
  rw [dig_cod0 (fun p _ => by have := dig_lt s p; split <;> omega), if_pos hp]
theorem wb_side {sd : Nat → Nat} {P side p : Nat} (hp : p < P) : wb (sideS sd P side) p = decide (sd p = side) := by
  unfold wb sideS
  rw [bitsP_bit]
  by_cases q3 : sd p = side <;> simp [q3, hp]
theorem ablS_prj {P W pe s : Nat} (hP : P ≤ 5) (hpe : sub pe W) (h32 : pe < 32) : ablS P (prj P W s) &&& pe = ablS P s &&& pe := by
  rw [Nat.and_comm, Nat.and_comm (ablS P s)]
  unfold ablS
  rw [bits_and h32 hP, bits_and h32 hP]
  refine bitsP_congr P (fun p hp => ?_)
  rw [dig_prj hp]
  by_cases q : pe / 2 ^ p % 2 = 1
  · rw [if_pos (wb_iff.mpr (hpe p q))]
  · simp [q]
theorem abW_pe {P W pe s : Nat} (hP : P ≤ 5) (hpe : sub pe W) (h32 : pe < 32) : abW P W s &&& pe = ablS P s &&& pe := by
  rw [Nat.and_comm, Nat.and_comm (ablS P s)]
  unfold ablS abW
  rw [bits_and h32 hP, bits_and h32 hP]
  refine bitsP_congr P (fun p hp => ?_)
  by_cases q : pe / 2 ^ p % 2 = 1
  · rw [wb_iff.mpr (hpe p q), Bool.true_and]
  · simp [q]
theorem okP_prj {P W pe s set : Nat} (hP : P ≤ 5) (hpe : sub pe W) (h32 : pe < 32) : okP P pe (prj P W s) set = okP P pe s set := by
  unfold okP
  rw [ablS_prj hP hpe h32]
theorem hands_prj {h : Hl} {sd : Nat → Nat} {cold s set side : Nat} : hands h sd cold (prj h.P (sideS sd h.P side) s) set side = hands h sd cold s set side := by
  unfold hands
  refine cntP_congr _ (fun p hp => ?_)
  rw [dig_prj hp, wb_side hp]
  by_cases q : sd p = side
  · simp [q]
  · simp [q]
theorem okH_prj {h : Hl} {sd : Nat → Nat} {cold side pe must : Nat} (hP : h.P ≤ 5) (hpe : sub pe (sideS sd h.P side)) (h32 : pe < 32) : ∀ s set, okH h sd cold side pe must (prj h.P (sideS sd h.P side) s) set = okH h sd cold side pe must s set := by
  intro s set
  unfold okH
  rw [okP_prj hP hpe h32, hands_prj]
theorem nxW_prj {h : Hl} {sd : Nat → Nat} {cold W : Nat} : ∀ s set, nxW h sd cold W (prj h.P W s) set = prj h.P W (nxt h sd cold s set) := by
  intro s set
  unfold nxW
  conv => rhs; unfold prj
  refine cod_congr (fun p hp => ?_)
  by_cases q : wb W p = true
  · rw [if_pos q, if_pos q, dig_prj hp, if_pos q]
    unfold nxt
    rw [dig_cod0 (fun p _ => tired_le _ _ _ _ _ _), if_pos hp]
  · rw [if_neg q, if_neg q]
theorem prj_cod {P W : Nat} {st : Nat → Nat} (h : ∀ p, st p ≤ 4) : cod (fun p => if wb W p = true then st p else 0) P = prj P W (cod st P) := by
  unfold prj
  refine cod_congr (fun p hp => ?_)
  rw [dig_cod0 (fun p _ => h p), if_pos hp]
theorem prj_lt {P W s : Nat} : prj P W s < 5 ^ P := codT_lt _ 0 (fun p _ _ => by
  have := dig_lt s p
  show (if wb W p = true then dig s p else 0) ≤ 4
  split <;> omega)
theorem okP_sub {P W pe s set : Nat} (hP : P ≤ 5) (hpe : sub pe W) (h32 : pe < 32) (hset : set < 32) (h : okP P pe s set = true) : sub set (abW P W s) := by
  unfold okP at h
  rw [decide_eq_true_eq, sub_iff hset (Nat.lt_of_le_of_lt Nat.and_le_right h32)] at h
  intro p hp
  have := and_bit.mp (h p hp)
  have h1 := this.1
  unfold ablS at h1
  rw [bitsP_bit] at h1
  unfold abW
  rw [bitsP_bit, wb_iff.mpr (hpe p this.2), Bool.true_and]
  exact h1
theorem okP_lt2 {P pe s set : Nat} (hset : set < 32) (h32 : pe < 32) (h : okP P pe s set = true) : set < 2 ^ P := by
  unfold okP at h
  rw [decide_eq_true_eq, sub_iff hset (Nat.lt_of_le_of_lt Nat.and_le_right h32)] at h
  rcases Nat.lt_or_ge set (2 ^ P) with q | q
  · exact q
  · exfalso
    have key : ∀ p : Nat, P ≤ p → set / 2 ^ p % 2 = 0 := by
      intro p hp
      have h0 : ¬ set / 2 ^ p % 2 = 1 := by
        intro e
        have := (and_bit.mp (h p e)).1
        unfold ablS at this
        rw [bitsP_bit, if_neg (by omega)] at this
        omega
      have := Nat.mod_two_eq_zero_or_one (set / 2 ^ p)
      omega
    have hb : ∀ (set P : Fin 32), (∀ p : Fin 5, P.val ≤ p.val → set.val / 2 ^ p.val % 2 = 0) → P.val ≤ 5 → set.val < 2 ^ P.val := by decide +kernel
    rcases Nat.lt_or_ge P 6 with hP | hP
    · have := hb ⟨set, hset⟩ ⟨P, by omega⟩ (fun p hp => key p.val hp) (by simp only; omega)
      simp only at this
      omega
    · have : (2 : Nat) ^ 6 ≤ 2 ^ P := Nat.pow_le_pow_right (by omega) hP
      omega
/-- the next subset of a mask -/
def nextN (a m : Nat) : Nat := (a + 32 - m) % 32 &&& m
theorem nextN_i {a m : Nat} (ha : a < 32) (hm : m < 32) : bAnd ((a : Int) - (m : Int)) (m : Int) = (nextN a m : Int) := by
  have key : ∀ a m : Fin 32, bAnd ((a.val : Int) - (m.val : Int)) (m.val : Int) = (nextN a.val m.val : Int) := by decide +kernel
  exact key ⟨a, ha⟩ ⟨m, hm⟩
theorem nextN_lt {a m : Nat} (hm : m < 32) : nextN a m < 32 := Nat.lt_of_le_of_lt Nat.and_le_right hm
theorem nextN_s {a m : Nat} (ha : a < 32) (hm : m < 32) (h : a &&& (31 ^^^ m) = 0) : (nextN a m = 0 → ∀ y, a < y → y < 32 → ¬ y &&& (31 ^^^ m) = 0) ∧ (nextN a m ≠ 0 → a < nextN a m ∧ nextN a m &&& (31 ^^^ m) = 0 ∧ ∀ y, a < y → y < nextN a m → ¬ y &&& (31 ^^^ m) = 0) := by
  have key : ∀ a m : Fin 32, a.val &&& (31 ^^^ m.val) = 0 → (nextN a.val m.val = 0 → ∀ y : Fin 32, a.val < y.val → ¬ y.val &&& (31 ^^^ m.val) = 0) ∧ (nextN a.val m.val ≠ 0 → a.val < nextN a.val m.val ∧ nextN a.val m.val &&& (31 ^^^ m.val) = 0 ∧ ∀ y : Fin 32, a.val < y.val → y.val < nextN a.val m.val → ¬ y.val &&& (31 ^^^ m.val) = 0) := by decide +kernel
  have := key ⟨a, ha⟩ ⟨m, hm⟩ h
  have hl := nextN_lt (a := a) hm
  refine ⟨fun e y h1 h2 => this.1 e ⟨y, h2⟩ h1, fun e => ⟨(this.2 e).1, (this.2 e).2.1, fun y h1 h2 => (this.2 e).2.2 ⟨y, by omega⟩ h1 h2⟩⟩
section NW
variable {G : AG} {d : Nat} {M : AM}
theorem c_H_nextWithin {a m : Nat} (ha : a < 32) (hm : m < 32) : MS G d mi_H_nextWithin [vi a, vi m] M (fun r M' => r = some (vi (nextN a m)) ∧ M' = M) := by
  refine MS.run ck_H_nextWithin [some (vi a), some (vi m)] [] 10 fun _ _ => ?_
  simp only [wR, wB, wE0, wE1, wE2, wE3, g0, gS, s10, s11, s1S, s20, s21, s2S, kl0, kl1, kl2, kl3, sp0, sp1, sp2, sp3, cn1, cn2, cn3, cn4, cn5, cn6, jJa, lk0, lk1, jmS, jmN, s4_0, s4_1, s4_2, s4_3, s4_4, sw0, sw1, cKs, cKn, true_and, and_true, List.map_cons, List.map_nil, Nat.reduceAdd, Nat.zero_add, Int.reduceAdd, Nat.reduceEqDiff, reduceIte, Classical.not_not, b_H_nextWithin, nextN_i ha hm]
  (repeat' (first | omega | exact ⟨by omega, by omega⟩ | (with_reducible exact Or.inr trivial) | (with_reducible exact Or.inl trivial) | (with_reducible assumption) | (with_reducible exact Same.refl) | (with_reducible rfl) | (with_reducible refine And.intro ?_ ?_) | (with_reducible intro _)))
end NW
