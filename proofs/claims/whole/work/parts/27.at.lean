/-! Steps standing at a state -/
theorem sumN_split (f : Nat → Nat) (a : Nat) : ∀ b, sumN f (a + b) = sumN f a + sumN (fun i => f (a + i)) b
  | 0 => rfl
  | b + 1 => by
    rw [← Nat.add_assoc]
    simp only [sumN, sumN_split f a b]
    omega
theorem bitsP_sum (f : Nat → Bool) : ∀ n, bitsP f n = sumN (fun i => if f i = true then 2 ^ i else 0) n
  | 0 => rfl
  | n + 1 => by simp only [bitsP, sumN, bitsP_sum f n]
theorem codT_sum (f : Nat → Nat) : ∀ n k, codT f k n = sumN (fun i => f (k + i) * 5 ^ i) n
  | 0, _ => rfl
  | n + 1, k => by
    have e := sumN_split (fun i => f (k + i) * 5 ^ i) 1 n
    rw [show n + 1 = 1 + n by omega, e]
    simp only [Nat.add_comm 1 n, codT, codT_sum f n (k + 1), sumN, Nat.zero_add, Nat.add_zero, Nat.pow_zero, Nat.mul_one]
    congr 1
    have : ∀ m, 5 * sumN (fun i => f (k + 1 + i) * 5 ^ i) m = sumN (fun i => f (k + (1 + i)) * 5 ^ (1 + i)) m := by
      intro m
      induction m with
      | zero => rfl
      | succ m ih =>
        simp only [sumN, Nat.mul_add, ih]
        congr 1
        rw [show k + 1 + m = k + (1 + m) by omega, show 1 + m = m + 1 by omega, Nat.pow_succ, ← Nat.mul_assoc, Nat.mul_comm 5, Nat.mul_assoc, Nat.mul_comm 5]
    exact this n
theorem cod_sum (f : Nat → Nat) (n : Nat) : cod f n = sumN (fun i => f i * 5 ^ i) n := by
  unfold cod
  rw [codT_sum]
  refine sumN_congr n (fun i _ => ?_)
  rw [Nat.zero_add]
/-- what an hour with a set makes of a state in which the people of W are told -/
def nxW (h : Hl) (sd : Nat → Nat) (cold W s set : Nat) : Nat := cod (fun p => if wb W p = true then tired h sd cold set p (dig s p) else 0) h.P
def abW (P W s : Nat) : Nat := bitsP (fun p => wb W p && decide (0 < dig s p)) P
def ctW (h : Hl) (sd : Nat → Nat) (cold W s : Nat) : Nat := bitsP (fun p => wb W p && cnts h sd cold p (dig s p)) h.P
theorem abW_lt {P W s : Nat} (h : P ≤ 5) : abW P W s < 32 := bitsP32 h
theorem ctW_lt {h : Hl} {sd : Nat → Nat} {cold W s : Nat} (ok : HlOK h) : ctW h sd cold W s < 32 := bitsP32 ok.1
theorem nxW_lt {h : Hl} {sd : Nat → Nat} {cold W s set : Nat} : nxW h sd cold W s set < 5 ^ h.P := codT_lt _ 0 (fun p _ _ => by
  split
  · exact tired_le _ _ _ _ _ _
  · omega)
theorem p5 {P : Nat} (h : P ≤ 5) : 5 ^ P ≤ 3125 := Nat.pow_le_pow_right (n := 5) (by omega) h
theorem dig_low {s i : Nat} (h : i < 3) : dig (s % 125) i = dig s i := by
  unfold dig
  match i, h with
  | 0, _ => simp <;> omega
  | 1, _ => simp <;> omega
  | 2, _ => simp <;> omega
theorem dig_high {s i : Nat} (h : i < 2) : dig (s / 125 % 25) i = dig s (3 + i) := by
  unfold dig
  match i, h with
  | 0, _ => simp <;> omega
  | 1, _ => simp <;> omega
theorem dig_0 {s P p : Nat} (hs : s < 5 ^ P) (hp : P ≤ p) : dig s p = 0 := by
  unfold dig
  rw [Nat.div_eq_of_lt (Nat.lt_of_lt_of_le hs (Nat.pow_le_pow_right (by omega) hp))]
theorem st_low {s P : Nat} (hP : P ≤ 5) (hs : s < 5 ^ P) : s % 125 < 5 ^ lowN P ∧ s / 125 % 25 < 5 ^ (P - 3) ∧ s / 125 < 25 := by
  unfold lowN
  match P, hP with
  | 0, _ => simp at hs ⊢; omega
  | 1, _ => simp at hs ⊢; omega
  | 2, _ => simp at hs ⊢; omega
  | 3, _ => simp at hs ⊢; omega
  | 4, _ => simp at hs ⊢; omega
  | 5, _ => simp at hs ⊢; omega
theorem split_P (f : Nat → Nat) (P : Nat) : sumN f P = sumN f (lowN P) + sumN (fun i => f (3 + i)) (P - 3) := by
  unfold lowN
  split
  · rw [show P - 3 = 0 by omega]; rfl
  · have := sumN_split f 3 (P - 3)
    rwa [show 3 + (P - 3) = P by omega] at this
theorem lowN3 (P : Nat) : lowN P ≤ 3 := by unfold lowN; split <;> omega
theorem lyA_both {P W s : Nat} (hP : P ≤ 5) : lyA W 0 (s % 125) (lowN P) + lyA W 3 (s / 125 % 25) (P - 3) = abW P W s := by
  unfold lyA abW
  rw [bitsP_sum, split_P (fun i => if (wb W i && decide (0 < dig s i)) = true then 2 ^ i else 0)]
  congr 1
  · refine sumN_congr _ (fun i hi => ?_)
    have := lowN3 P
    rw [dig_low (by omega), Nat.zero_add]
    simp only [Bool.and_eq_true, decide_eq_true_eq]
  · refine sumN_congr _ (fun i hi => ?_)
    rw [dig_high (by omega)]
    simp only [Bool.and_eq_true, decide_eq_true_eq]
theorem lyC_both {h : Hl} {sd : Nat → Nat} {cold W s : Nat} (hP : h.P ≤ 5) : lyC h sd cold W 0 (s % 125) (lowN h.P) + lyC h sd cold W 3 (s / 125 % 25) (h.P - 3) = ctW h sd cold W s := by
  unfold lyC ctW
  rw [bitsP_sum, split_P (fun i => if (wb W i && cnts h sd cold i (dig s i)) = true then 2 ^ i else 0)]
  congr 1
  · refine sumN_congr _ (fun i hi => ?_)
    have := lowN3 h.P
    rw [dig_low (by omega), Nat.zero_add]
    simp only [Bool.and_eq_true]
  · refine sumN_congr _ (fun i hi => ?_)
    rw [dig_high (by omega)]
    simp only [Bool.and_eq_true]
/-- a set of people who can hold -/
def sub (a b : Nat) : Prop := ∀ p, a / 2 ^ p % 2 = 1 → b / 2 ^ p % 2 = 1
theorem lyT_both {h : Hl} {sd : Nat → Nat} {cold W s set : Nat} (hP : h.P ≤ 5) (hset : sub set (abW h.P W s)) : lyT h sd cold W 0 (s % 125) set (lowN h.P) + lyT h sd cold W 3 (s / 125 % 25) set (h.P - 3) = nxW h sd cold W s set := by
  unfold lyT nxW
  rw [cod_sum, split_P (fun i => (if wb W i = true then tired h sd cold set i (dig s i) else 0) * 5 ^ i)]
  have key : ∀ p, p < h.P → (if wb W p = true then prt h sd cold set p (dig s p) * 5 ^ p else 0) = (if wb W p = true then tired h sd cold set p (dig s p) else 0) * 5 ^ p := by
    intro p hp
    by_cases q : wb W p = true
    · rw [if_pos q, if_pos q]
      unfold prt
      rw [if_neg]
      rintro ⟨a, b⟩
      have := hset p b
      unfold abW at this
      rw [bitsP_bit] at this
      simp [a] at this
    · rw [if_neg q, if_neg q, Nat.zero_mul]
  congr 1
  · refine sumN_congr _ (fun i hi => ?_)
    have := lowN3 h.P
    have : lowN h.P ≤ h.P := by unfold lowN; split <;> omega
    rw [dig_low (by omega), Nat.zero_add]
    exact key i (by omega)
  · refine sumN_congr _ (fun i hi => ?_)
    rw [dig_high (by omega)]
    exact key (3 + i) (by omega)
theorem sumN_8 {g : Nat → Nat} : ∀ n, (∀ i, i < n → g i = 0 ∨ g i = 2 ^ (3 + i)) → ∃ b, sumN g n = 8 * b ∧ b < 2 ^ n
  | 0, _ => ⟨0, rfl, by simp⟩
  | n + 1, h => by
    obtain ⟨b, e, hb⟩ := sumN_8 (g := g) n (fun i hi => h i (by omega))
    have e2 : (2 : Nat) ^ (n + 1) = 2 ^ n + 2 ^ n := by rw [Nat.pow_succ]; omega
    have e3 : (2 : Nat) ^ (3 + n) = 8 * 2 ^ n := by rw [Nat.pow_add]
    simp only [sumN, e]
    rcases h n (by omega) with q | q
    · exact ⟨b, by omega, by omega⟩
    · exact ⟨b + 2 ^ n, by omega, by omega⟩
theorem or_8 {a b : Nat} (ha : a < 8) (hb : b < 4) : bOr (a : Int) ((8 * b : Nat) : Int) = ((a + 8 * b : Nat) : Int) := by
  have key : ∀ a : Fin 8, ∀ b : Fin 4, bOr (a.val : Int) ((8 * b.val : Nat) : Int) = ((a.val + 8 * b.val : Nat) : Int) := by decide +kernel
  exact key ⟨a, ha⟩ ⟨b, hb⟩
theorem or_lh {a c n : Nat} {g : Nat → Nat} (ha : a < 2 ^ (0 + n)) (hn : n ≤ 3) (hc : ∃ b, c = 8 * b ∧ b < 4) : bOr (a : Int) (c : Int) = ((a + c : Nat) : Int) := by
  obtain ⟨b, rfl, hb⟩ := hc
  have : 2 ^ (0 + n) ≤ 2 ^ 3 := Nat.pow_le_pow_right (by omega) (by omega)
  exact or_8 (by omega) hb
/-- Steps ready, standing at s -/
def StAt (M : AM) (h : Hl) (sd : Nat → Nat) (cold W s : Nat) : Prop := StOK M h sd cold W ∧ M 33 6 = ((abW h.P W s : Nat) : Int) ∧ M 33 7 = ((ctW h sd cold W s : Nat) : Int) ∧ M 33 8 = ((s % 125 * 32 : Nat) : Int) ∧ M 33 9 = ((s / 125 % 25 * 32 : Nat) : Int) ∧ s < 5 ^ h.P
theorem StOK.same {M N : AM} {h : Hl} {sd : Nat → Nat} {cold W : Nat} {ps : List Int} (H : StOK M h sd cold W) (hs : Same ps M N) (hp : ∀ x : Int, 33 ≤ x → x ≤ 42 → x ∉ ps) : StOK N h sd cold W := by
  obtain ⟨a, b, ⟨b1, b2, b3, b4, b5, b6, b7, b8⟩, c, e⟩ := H
  have h3 := hs 33 (hp 33 (by omega) (by omega))
  have h4 := hs 34 (hp 34 (by omega) (by omega))
  exact ⟨by rw [h3]; exact a, by rw [h3]; exact b, ⟨by rw [h3]; exact b1, by rw [h3]; exact b2, by rw [h3]; exact b3, by rw [h3]; exact b4, by rw [h3]; exact b5, by rw [h4]; exact b6, by rw [h4]; exact b7, b8.same hs (hp _ (by omega) (by omega)) (hp _ (by omega) (by omega))⟩, c.same hs (hp _ (by omega) (by omega)) (hp _ (by omega) (by omega)) (hp _ (by omega) (by omega)), e.same hs (hp _ (by omega) (by omega)) (hp _ (by omega) (by omega)) (hp _ (by omega) (by omega))⟩
theorem StAt.same {M N : AM} {h : Hl} {sd : Nat → Nat} {cold W s : Nat} {ps : List Int} (H : StAt M h sd cold W s) (hs : Same ps M N) (hp : ∀ x : Int, 33 ≤ x → x ≤ 42 → x ∉ ps) : StAt N h sd cold W s := by
  obtain ⟨a, b, c, e, f, g⟩ := H
  have h3 := hs 33 (hp 33 (by omega) (by omega))
  exact ⟨a.same hs hp, by rw [h3]; exact b, by rw [h3]; exact c, by rw [h3]; exact e, by rw [h3]; exact f, g⟩
theorem StOK.fld {M N : AM} {h : Hl} {sd : Nat → Nat} {cold W : Nat} (H : StOK M h sd cold W) (hs : Same [33] M N) (hp : ∀ y : Int, y < 6 ∨ 10 ≤ y → N 33 y = M 33 y) : StOK N h sd cold W := by
  obtain ⟨a, b, ⟨b1, b2, b3, b4, b5, b6, b7, b8⟩, c, e⟩ := H
  have h4 := hs 34 (by (first | decide | (simp only [List.mem_cons, List.not_mem_nil, or_false, not_or, not_false_eq_true, and_true]; omega) | (simp [List.mem_cons]; done)))
  exact ⟨by rw [hp _ (by omega)]; exact a, by rw [hp _ (by omega)]; exact b, ⟨by rw [hp _ (by omega)]; exact b1, by rw [hp _ (by omega)]; exact b2, by rw [hp _ (by omega)]; exact b3, by rw [hp _ (by omega)]; exact b4, by rw [hp _ (by omega)]; exact b5, by rw [h4]; exact b6, by rw [h4]; exact b7, b8.same hs (by (first | decide | (simp only [List.mem_cons, List.not_mem_nil, or_false, not_or, not_false_eq_true, and_true]; omega) | (simp [List.mem_cons]; done))) (by (first | decide | (simp only [List.mem_cons, List.not_mem_nil, or_false, not_or, not_false_eq_true, and_true]; omega) | (simp [List.mem_cons]; done)))⟩, c.same hs (by (first | decide | (simp only [List.mem_cons, List.not_mem_nil, or_false, not_or, not_false_eq_true, and_true]; omega) | (simp [List.mem_cons]; done))) (by (first | decide | (simp only [List.mem_cons, List.not_mem_nil, or_false, not_or, not_false_eq_true, and_true]; omega) | (simp [List.mem_cons]; done))) (by (first | decide | (simp only [List.mem_cons, List.not_mem_nil, or_false, not_or, not_false_eq_true, and_true]; omega) | (simp [List.mem_cons]; done))), e.same hs (by (first | decide | (simp only [List.mem_cons, List.not_mem_nil, or_false, not_or, not_false_eq_true, and_true]; omega) | (simp [List.mem_cons]; done))) (by (first | decide | (simp only [List.mem_cons, List.not_mem_nil, or_false, not_or, not_false_eq_true, and_true]; omega) | (simp [List.mem_cons]; done))) (by (first | decide | (simp only [List.mem_cons, List.not_mem_nil, or_false, not_or, not_false_eq_true, and_true]; omega) | (simp [List.mem_cons]; done)))⟩
section AT
variable {G : AG} {d : Nat} {M : AM}
set_option maxRecDepth 20000 in
theorem c_St_standAt {h : Hl} {sd : Nat → Nat} {cold W s : Nat} (ok : HlOK h) (hS : StOK M h sd cold W) (hs : s < 5 ^ h.P) :
    MS G d mi_St_standAt [vr 33, vi s] M (fun r M' => r = none ∧ StAt M' h sd cold W s ∧ Same [33] M M') := by
  have hP5 := ok.1
  obtain ⟨g1, g2, g3⟩ := st_low hP5 hs
  obtain ⟨S1, S2, S3, S4, S5⟩ := hS
  obtain ⟨u1, u2, u3⟩ := S4 _ g1
  obtain ⟨v1, v2, v3⟩ := S5 _ g2
  have q1 : ((s : Int) % 125) = ((s % 125 : Nat) : Int) := by omega
  have q2 : ((s : Int) / 125 % 25) = ((s / 125 % 25 : Nat) : Int) := by omega
  have hp3 : 2 ^ (h.P - 3) ≤ 2 ^ 2 := Nat.pow_le_pow_right (by omega) (by omega)
  have o1 : bOr ((lyA W 0 (s % 125) (lowN h.P) : Nat) : Int) ((lyA W 3 (s / 125 % 25) (h.P - 3) : Nat) : Int) = ((abW h.P W s : Nat) : Int) := by
    rw [← lyA_both hP5]
    refine or_lh (g := fun _ => 0) (lyA_lt W 0 _ _) (lowN3 _) ?_
    obtain ⟨b, e, hb⟩ := sumN_8 (g := fun i => if wb W (3 + i) = true ∧ 0 < dig (s / 125 % 25) i then 2 ^ (3 + i) else 0) (h.P - 3) (fun i _ => by split <;> simp)
    exact ⟨b, e, by omega⟩
  have o2 : bOr ((lyC h sd cold W 0 (s % 125) (lowN h.P) : Nat) : Int) ((lyC h sd cold W 3 (s / 125 % 25) (h.P - 3) : Nat) : Int) = ((ctW h sd cold W s : Nat) : Int) := by
    rw [← lyC_both hP5]
    refine or_lh (g := fun _ => 0) (lyC_lt h sd cold W 0 _ _) (lowN3 _) ?_
    obtain ⟨b, e, hb⟩ := sumN_8 (g := fun i => if wb W (3 + i) = true ∧ cnts h sd cold (3 + i) (dig (s / 125 % 25) i) = true then 2 ^ (3 + i) else 0) (h.P - 3) (fun i _ => by split <;> simp)
    exact ⟨b, e, by omega⟩
  refine MS.by ck_St_standAt [some (vr 33), some (vi s), none, none] fun _ _ => ?_
  refine AW.run ck_St_standAt [] 8 0 ?_
  have s0 : ((s : Int) < 0) = False := eq_false (by omega)
  simp only [wR, wB, wE0, wE1, wE2, wE3, g0, gS, s10, s11, s1S, s20, s21, s2S, kl0, kl1, kl2, kl3, sp0, sp1, sp2, sp3, cn1, cn2, cn3, cn4, cn5, cn6, jJa, lk0, lk1, jmS, jmN, s4_0, s4_1, s4_2, s4_3, s4_4, sw0, sw1, cKs, cKn, true_and, and_true, List.map_cons, List.map_nil, Nat.reduceAdd, Nat.zero_add, Int.reduceAdd, Nat.reduceEqDiff, reduceIte, Classical.not_not, b_St_standAt, shSt, up_rd, Int.reduceEq, and_false, false_and, and_self, reduceIte, not_true_eq_false, not_false_eq_true, false_imp_iff, true_imp_iff, true_or, or_true, s0, q1, q2, u1, u2, v1, v2, o1, o2]
  (repeat' (first | omega | exact ⟨by omega, by omega⟩ | (with_reducible exact Or.inr trivial) | (with_reducible exact Or.inl trivial) | (with_reducible assumption) | (with_reducible exact Same.refl) | (with_reducible rfl) | (with_reducible refine And.intro ?_ ?_) | (with_reducible intro _)))
  · have hsm : Same [33] M (up (up (up (up M 33 6 ((abW h.P W s : Nat) : Int)) 33 7 ((ctW h sd cold W s : Nat) : Int)) 33 8 (((s % 125 : Nat) : Int) * 32)) 33 9 (((s / 125 % 25 : Nat) : Int) * 32)) := ((((Same.refl.up (by simp)).up (by simp)).up (by simp)).up (by simp))
    refine ⟨StOK.fld ⟨S1, S2, S3, S4, S5⟩ hsm (fun y hy => ?_), ?_, ?_, ?_, ?_, hs⟩
    · rw [up_ne2 (by omega), up_ne2 (by omega), up_ne2 (by omega), up_ne2 (by omega)]
    · rw [up_ne2 (by omega), up_ne2 (by omega), up_ne2 (by omega), up_eq]
    · rw [up_ne2 (by omega), up_ne2 (by omega), up_eq]
    · rw [up_ne2 (by omega), up_eq]; omega
    · rw [up_eq]; omega
  · exact ((((Same.refl.up (by simp)).up (by simp)).up (by simp)).up (by simp))
theorem c_St_to {h : Hl} {sd : Nat → Nat} {cold W s set : Nat} (ok : HlOK h) (hS : StAt M h sd cold W s) (hset : set < 2 ^ h.P) (hsub : sub set (abW h.P W s)) :
    MS G d mi_St_to [vr 33, vi set] M (fun r M' => r = some (vi (nxW h sd cold W s set)) ∧ M' = M) := by
  have hP5 := ok.1
  have h32 := p2_32 hP5
  obtain ⟨⟨S1, S2, S3, S4, S5⟩, t1, t2, t3, t4, hs⟩ := hS
  obtain ⟨g1, g2, g3⟩ := st_low hP5 hs
  obtain ⟨u1, u2, u3⟩ := S4 _ g1
  obtain ⟨v1, v2, v3⟩ := S5 _ g2
  have e1 : bAnd (set : Int) 31 = set := by
    rw [show (31 : Int) = ((31 : Nat) : Int) from rfl, bAnd_n (by omega), show (31 : Nat) = 2 ^ 5 - 1 from rfl, Nat.and_two_pow_sub_one_eq_mod, Nat.mod_eq_of_lt (by omega)]
  have y1 := u3 set hset
  have y2 := v3 set hset
  have hb := lyT_both (sd := sd) (cold := cold) hP5 hsub
  have b1 := lyT_le (h := h) (sd := sd) (cold := cold) (W := W) (f := 0) (code := s % 125) (set := set) (n := lowN h.P) (by have := lowN3 h.P; omega)
  have b2 := lyT_le (h := h) (sd := sd) (cold := cold) (W := W) (f := 3) (code := s / 125 % 25) (set := set) (n := h.P - 3) (by omega)
  have := lowN3 h.P
  refine MS.run ck_St_to [some (vr 33), some (vi set), none] [] 10 fun _ _ => ?_
  simp only [wR, wB, wE0, wE1, wE2, wE3, g0, gS, s10, s11, s1S, s20, s21, s2S, kl0, kl1, kl2, kl3, sp0, sp1, sp2, sp3, cn1, cn2, cn3, cn4, cn5, cn6, jJa, lk0, lk1, jmS, jmN, s4_0, s4_1, s4_2, s4_3, s4_4, sw0, sw1, cKs, cKn, true_and, and_true, List.map_cons, List.map_nil, Nat.reduceAdd, Nat.zero_add, Int.reduceAdd, Nat.reduceEqDiff, reduceIte, Classical.not_not, b_St_to, shSt, e1, t3, t4]
  rw [show ((s % 125 * 32 : Nat) : Int) = ((s % 125 : Nat) : Int) * 32 by omega, show ((s / 125 % 25 * 32 : Nat) : Int) = ((s / 125 % 25 : Nat) : Int) * 32 by omega, y1, y2]
  (repeat' (first | omega | exact ⟨by omega, by omega⟩ | (with_reducible exact Or.inr trivial) | (with_reducible exact Or.inl trivial) | (with_reducible assumption) | (with_reducible exact Same.refl) | (with_reducible rfl) | (with_reducible refine And.intro ?_ ?_) | (with_reducible intro _)))
  rw [← hb]
  rfl
theorem c_St_hands {h : Hl} {sd : Nat → Nat} {cold W s set : Nat} (hd : 1 ≤ d) (ok : HlOK h) (hS : StAt M h sd cold W s) (hset : set < 32) :
    MS G d mi_St_hands [vr 33, vi set] M (fun r M' => r = some (vi (pop (set &&& ctW h sd cold W s))) ∧ M' = M) := by
  have t2 := hS.2.2.1
  refine MS.run ck_St_hands [some (vr 33), some (vi set)] [] 10 fun _ _ => ?_
  simp only [wR, wB, wE0, wE1, wE2, wE3, g0, gS, s10, s11, s1S, s20, s21, s2S, kl0, kl1, kl2, kl3, sp0, sp1, sp2, sp3, cn1, cn2, cn3, cn4, cn5, cn6, jJa, lk0, lk1, jmS, jmN, s4_0, s4_1, s4_2, s4_3, s4_4, sw0, sw1, cKs, cKn, true_and, and_true, List.map_cons, List.map_nil, Nat.reduceAdd, Nat.zero_add, Int.reduceAdd, Nat.reduceEqDiff, reduceIte, Classical.not_not, b_St_hands, shSt, t2, bAnd_n (show set < 2 ^ 31 by omega)]
  (repeat' (first | omega | exact ⟨by omega, by omega⟩ | (with_reducible exact Or.inr trivial) | (with_reducible exact Or.inl trivial) | (with_reducible assumption) | (with_reducible exact Same.refl) | (with_reducible rfl) | (with_reducible refine And.intro ?_ ?_) | (with_reducible intro _)))
  refine MS.to (c_JI_bitCount (Nat.lt_of_le_of_lt Nat.and_le_left hset)) fun _ => ?_
  simp only [wR, wB, wE0, wE1, wE2, wE3, g0, gS, s10, s11, s1S, s20, s21, s2S, kl0, kl1, kl2, kl3, sp0, sp1, sp2, sp3, cn1, cn2, cn3, cn4, cn5, cn6, jJa, lk0, lk1, jmS, jmN, s4_0, s4_1, s4_2, s4_3, s4_4, sw0, sw1, cKs, cKn, true_and, and_true, List.map_cons, List.map_nil, Nat.reduceAdd, Nat.zero_add, Int.reduceAdd, Nat.reduceEqDiff, reduceIte, Classical.not_not, b_St_hands]
theorem c_St_stand {h : Hl} {sd : Nat → Nat} {cold W s set side : Nat} (hd : 1 ≤ d) (ok : HlOK h) (hS : StAt M h sd cold W s) (hset : set < 32) (hside : side ≤ 1) :
    MS G d mi_St_stand [vr 33, vi set, vi side] M (fun r M' => r = some (vi (if h.must ≤ pop (set &&& ctW h sd cold W s &&& sideS sd h.P side) then 1 else 0)) ∧ M' = M) := by
  have t2 := hS.2.2.1
  have hm := hS.1.2.2.1.2.2.1
  have k0 := hS.1.2.2.1.2.2.2.2.2.1
  have k1 := hS.1.2.2.1.2.2.2.2.2.2.1
  have hand : set &&& ctW h sd cold W s < 32 := Nat.lt_of_le_of_lt Nat.and_le_left hset
  have es : bAnd (side : Int) 1 = side := by
    rcases (show side = 0 ∨ side = 1 by omega) with q | q <;> rw [q] <;> decide +kernel
  have ek : M 34 (side : Int) = ((sideS sd h.P side : Nat) : Int) := by
    rcases (show side = 0 ∨ side = 1 by omega) with q | q <;> rw [q]
    · exact k0
    · exact k1
  refine MS.run ck_St_stand [some (vr 33), some (vi set), some (vi side)] [] 10 fun _ _ => ?_
  simp only [wR, wB, wE0, wE1, wE2, wE3, g0, gS, s10, s11, s1S, s20, s21, s2S, kl0, kl1, kl2, kl3, sp0, sp1, sp2, sp3, cn1, cn2, cn3, cn4, cn5, cn6, jJa, lk0, lk1, jmS, jmN, s4_0, s4_1, s4_2, s4_3, s4_4, sw0, sw1, cKs, cKn, true_and, and_true, List.map_cons, List.map_nil, Nat.reduceAdd, Nat.zero_add, Int.reduceAdd, Nat.reduceEqDiff, reduceIte, Classical.not_not, b_St_stand, shSt, t2, bAnd_n (show set < 2 ^ 31 by omega), es, ek, bAnd_n (Nat.lt_trans hand (show 32 < 2 ^ 31 by omega))]
  (repeat' (first | omega | exact ⟨by omega, by omega⟩ | (with_reducible exact Or.inr trivial) | (with_reducible exact Or.inl trivial) | (with_reducible assumption) | (with_reducible exact Same.refl) | (with_reducible rfl) | (with_reducible refine And.intro ?_ ?_) | (with_reducible intro _)))
  refine MS.to (c_JI_bitCount (Nat.lt_of_le_of_lt Nat.and_le_left hand)) fun _ => ?_
  simp only [wR, wB, wE0, wE1, wE2, wE3, g0, gS, s10, s11, s1S, s20, s21, s2S, kl0, kl1, kl2, kl3, sp0, sp1, sp2, sp3, cn1, cn2, cn3, cn4, cn5, cn6, jJa, lk0, lk1, jmS, jmN, s4_0, s4_1, s4_2, s4_3, s4_4, sw0, sw1, cKs, cKn, true_and, and_true, List.map_cons, List.map_nil, Nat.reduceAdd, Nat.zero_add, Int.reduceAdd, Nat.reduceEqDiff, reduceIte, Classical.not_not, b_St_stand, shSt, hm]
  (repeat' (first | omega | exact ⟨by omega, by omega⟩ | (with_reducible exact Or.inr trivial) | (with_reducible exact Or.inl trivial) | (with_reducible assumption) | (with_reducible exact Same.refl) | (with_reducible rfl) | (with_reducible refine And.intro ?_ ?_) | (with_reducible intro _)))
  all_goals first | rw [if_pos (by omega)] | rw [if_neg (by omega)]
theorem c_St_strengthIn {s p : Nat} (hp : p < 5) : MS G d mi_St_strengthIn [vi s, vi p] M (fun r M' => r = some (vi (dig s p)) ∧ M' = M) := by
  have h5 : 0 < 5 ^ p := Nat.pow_pos (by omega)
  have e : ((s : Int) / ((5 ^ p : Nat) : Int) % 5) = ((dig s p : Nat) : Int) := by unfold dig; rw [Int.natCast_emod, Int.natCast_ediv]; rfl
  refine MS.run ck_St_strengthIn [some (vi s), some (vi p)] [] 10 fun _ _ => ?_
  simp only [wR, wB, wE0, wE1, wE2, wE3, g0, gS, s10, s11, s1S, s20, s21, s2S, kl0, kl1, kl2, kl3, sp0, sp1, sp2, sp3, cn1, cn2, cn3, cn4, cn5, cn6, jJa, lk0, lk1, jmS, jmN, s4_0, s4_1, s4_2, s4_3, s4_4, sw0, sw1, cKs, cKn, true_and, and_true, List.map_cons, List.map_nil, Nat.reduceAdd, Nat.zero_add, Int.reduceAdd, Nat.reduceEqDiff, reduceIte, Classical.not_not, b_St_strengthIn, romP (show p < 6 by omega), e]
  have e2 : (0 : Int) ≤ (s : Int) / ((5 ^ p : Nat) : Int) := by rw [← Int.natCast_ediv]; exact Int.natCast_nonneg _
  (repeat' (first | omega | exact ⟨by omega, by omega⟩ | (with_reducible exact Or.inr trivial) | (with_reducible exact Or.inl trivial) | (with_reducible assumption) | (with_reducible exact Same.refl) | (with_reducible rfl) | (with_reducible refine And.intro ?_ ?_) | (with_reducible intro _)))
end AT
