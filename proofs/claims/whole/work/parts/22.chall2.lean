theorem and_bit {a b p : Nat} : (a &&& b) / 2 ^ p % 2 = 1 ↔ a / 2 ^ p % 2 = 1 ∧ b / 2 ^ p % 2 = 1 := by
  have h := Nat.testBit_and a b p
  rw [Nat.testBit_eq_decide_div_mod_eq, Nat.testBit_eq_decide_div_mod_eq, Nat.testBit_eq_decide_div_mod_eq] at h
  by_cases h1 : a / 2 ^ p % 2 = 1 <;> by_cases h2 : b / 2 ^ p % 2 = 1 <;> simp [h1, h2] at h ⊢ <;> exact h
theorem codT_s {f : Nat → Nat} : ∀ (n k : Nat), codT f k (n + 1) = codT f k n + 5 ^ n * f (k + n)
  | 0, k => by simp [codT]
  | n + 1, k => by
    have ih := codT_s (f := f) n (k + 1)
    rw [show codT f k (n + 1 + 1) = f k + 5 * codT f (k + 1) (n + 1) from rfl, ih, show codT f k (n + 1) = f k + 5 * codT f (k + 1) n from rfl, show k + 1 + n = k + (n + 1) by omega, Nat.mul_add, Nat.pow_succ', Nat.mul_assoc, Nat.add_assoc]
theorem cod_s (f : Nat → Nat) (n : Nat) : cod f (n + 1) = cod f n + 5 ^ n * f n := by
  have := codT_s (f := f) n 0
  rw [Nat.zero_add] at this
  exact this
theorem bitsP_ext {f : Nat → Bool} {P : Nat} (h : ∀ p, P ≤ p → f p = false) : ∀ k, bitsP f (P + k) = bitsP f P
  | 0 => rfl
  | k + 1 => by
    rw [← Nat.add_assoc]
    simp only [bitsP, bitsP_ext h k, h (P + k) (by omega)]
    simp
theorem ablN_bits (f : Nat → Int) : ∀ n, ablN f n = bitsP (fun p => decide (0 < f p)) n
  | 0 => rfl
  | n + 1 => by simp only [ablN, bitsP, ablN_bits f n, decide_eq_true_eq]
/-- a moment in the class's memory -/
def CM (M : AM) (z : Int) (P : Nat) (m : Mo) : Prop := M z 0 = ((sdB m.sd P : Nat) : Int) ∧ M z 1 = m.cold ∧ M z 2 = m.hrs ∧ ∀ p : Nat, p < 5 → M (z + 1) (p : Int) = ((if p < P then m.st p else 0 : Nat) : Int)
theorem CM.same {M N : AM} {z : Int} {P : Nat} {m : Mo} {ps : List Int} (h : CM M z P m) (hs : Same ps M N) (h0 : z ∉ ps) (h1 : z + 1 ∉ ps) : CM N z P m := by
  obtain ⟨a, b, c, e⟩ := h
  exact ⟨by rw [hs z h0]; exact a, by rw [hs z h0]; exact b, by rw [hs z h0]; exact c, fun p hp => by rw [hs _ h1]; exact e p hp⟩
theorem CM.able {M : AM} {z : Int} {P : Nat} {m : Mo} (h : CM M z P m) (hP : P ≤ 5) : ablN (fun p => M (z + 1) p) 5 = ablM P m.st := by
  rw [ablN_bits]
  have e1 : bitsP (fun p : Nat => decide (0 < M (z + 1) (p : Int))) 5 = bitsP (fun p => decide (0 < (if p < P then m.st p else 0))) 5 := bitsP_congr 5 (fun p hp => by
    rw [h.2.2.2 p hp]
    by_cases q : p < P
    · rw [if_pos q]; simp
    · rw [if_neg q]; simp)
  rw [e1]
  have := bitsP_ext (f := fun p => decide (0 < (if p < P then m.st p else 0))) (P := P) (fun p hp => by rw [if_neg (by omega)]; rfl) (5 - P)
  rw [show P + (5 - P) = 5 by omega] at this
  rw [this]
  exact bitsP_congr P (fun p hp => by rw [if_pos hp])
def handsM (h : Hl) (m : Mo) (set side : Nat) : Nat := cntP (fun p => decide (set / 2 ^ p % 2 = 1 ∧ m.sd p = side) && cnts h m.sd m.cold p (m.st p)) h.P
def stoodM (h : Hl) (m : Mo) (set : Nat) : Nat := (if h.must ≤ handsM h m set 0 then 1 else 0) + (if h.must ≤ handsM h m set 1 then 2 else 0)
def hourM (h : Hl) (m : Mo) (set : Nat) : Mo := (m.sd, fun p => tired h m.sd m.cold set p (m.st p), m.cold, m.hrs + 1)
section CB
variable {G : AG} {d : Nat} {M : AM}
theorem c_Ha_counting {z : Int} {h : Hl} {sd : Nat → Nat} {p str cold : Nat} (hd : 3 ≤ d) (hz : isO z 2) (ok : HlOK h) (hC : CH M z h) (hp : p < h.P) (hsd : ∀ p, p < h.P → sd p ≤ 1) (hstr : str ≤ 4) (hc : cold ≤ 9) :
    MS G d mi_Ha_counting [vr z, vi p, vi str, vi (sdB sd h.P), vi cold] M (fun r M' => r = some (vi (if cnts h sd cold p str = true then 1 else 0)) ∧ Same [z + 7, z + 8] M M') := by
  have hP5 := ok.1
  obtain ⟨s1, s2, s3, s5, s7, s8⟩ := sh_Ha hz
  have hz7 := isO_arT hz s7.1
  refine MS.by ck_Ha_counting [some (vr z), some (vi p), some (vi str), some (vi (sdB sd h.P)), some (vi cold)] fun _ _ => ?_
  generalize hQ : (fun (r : Option AV) (M' : AM) => r = some (vi (if cnts h sd cold p str = true then 1 else 0)) ∧ Same [z + 7, z + 8] M M') = Q
  have a21 : h.cN ≠ 0 → AW G d mi_Ha_counting Q 21 [some (vr z), some (vi p), some (vi str), some (vi (sdB sd h.P)), some (vi cold)] [] M := by
    as_aux_lemma =>
      intro h0
      refine AW.run ck_Ha_counting [] 10 21 ?_
      simp only [wR, wB, wE0, wE1, wE2, wE3, g0, gS, s10, s11, s1S, s20, s21, s2S, kl0, kl1, kl2, kl3, sp0, sp1, sp2, sp3, cn1, cn2, cn3, cn4, cn5, cn6, jJa, lk0, lk1, jmS, jmN, s4_0, s4_1, s4_2, s4_3, s4_4, sw0, sw1, cKs, cKn, true_and, and_true, List.map_cons, List.map_nil, Nat.reduceAdd, Nat.zero_add, Int.reduceAdd, Nat.reduceEqDiff, reduceIte, Classical.not_not, b_Ha_counting, hz]
      (repeat' (first | omega | exact ⟨by omega, by omega⟩ | (with_reducible exact Or.inr trivial) | (with_reducible exact Or.inl trivial) | (with_reducible assumption) | (with_reducible exact Same.refl) | (with_reducible rfl) | (with_reducible refine And.intro ?_ ?_) | (with_reducible intro _)))
      refine (c_Ha_tell (cold := cold) (by omega) hz ok hC hp hsd).mono ?_
      rintro r M1 okM1 ⟨rfl, t1, t2, t3⟩
      have hC1 := hC.same t1 (by (first | decide | (simp only [List.mem_cons, List.not_mem_nil, or_false, not_or, not_false_eq_true, and_true]; omega) | (simp [List.mem_cons]; done))) (by (first | decide | (simp only [List.mem_cons, List.not_mem_nil, or_false, not_or, not_false_eq_true, and_true]; omega) | (simp [List.mem_cons]; done))) (by (first | decide | (simp only [List.mem_cons, List.not_mem_nil, or_false, not_or, not_false_eq_true, and_true]; omega) | (simp [List.mem_cons]; done))) (by (first | decide | (simp only [List.mem_cons, List.not_mem_nil, or_false, not_or, not_false_eq_true, and_true]; omega) | (simp [List.mem_cons]; done))) (by (first | decide | (simp only [List.mem_cons, List.not_mem_nil, or_false, not_or, not_false_eq_true, and_true]; omega) | (simp [List.mem_cons]; done))) (by (first | decide | (simp only [List.mem_cons, List.not_mem_nil, or_false, not_or, not_false_eq_true, and_true]; omega) | (simp [List.mem_cons]; done)))
      simp only [wR, wB, wE0, wE1, wE2, wE3, g0, gS, s10, s11, s1S, s20, s21, s2S, kl0, kl1, kl2, kl3, sp0, sp1, sp2, sp3, cn1, cn2, cn3, cn4, cn5, cn6, jJa, lk0, lk1, jmS, jmN, s4_0, s4_1, s4_2, s4_3, s4_4, sw0, sw1, cKs, cKn, true_and, and_true, List.map_cons, List.map_nil, Nat.reduceAdd, Nat.zero_add, Int.reduceAdd, Nat.reduceEqDiff, reduceIte, Classical.not_not, b_Ha_counting, hz, s5]
      (repeat' (first | omega | exact ⟨by omega, by omega⟩ | (with_reducible exact Or.inr trivial) | (with_reducible exact Or.inl trivial) | (with_reducible assumption) | (with_reducible exact Same.refl) | (with_reducible rfl) | (with_reducible refine And.intro ?_ ?_) | (with_reducible intro _)))
      have hnum := wvC_num (h := h) (sd := sd) (cold := cold) (p := p) (str := str) ok (hsd p hp) hc (by omega) hstr
      refine (c_La_worked (w := wvC h sd cold p str) (by omega) s5 s7.1 s7.2 s8.1 s8.2 (by omega) (by omega) ok.2.2.2.2.2.2.2.1 hC1.2.2.2.2.2.2 (ok.2.2.2.2.1 h0) ?_ hnum).mono ?_
      · intro k hk a b
        have := ok.2.2.2.2.2.1 k hk
        exact t2 _ (by omega) (by omega)
      · rintro r M' okM' ⟨⟨x, rfl, hx⟩, hs2⟩
        have hkd := vals_kd hnum h.cN _ (ok.2.2.2.2.1 h0).2
        rw [hx] at hkd
        have hxn : x = 0 ∨ x = 1 := hkd.1
        have e : (cnts h sd cold p str = true) ↔ x = 1 := by
          unfold cnts
          rw [hx]
          simp [h0, hd0]
        have hsm := (t1.mono (qs := [z + 7, z + 8]) (by simp)).trans (hs2.mono (by simp))
        simp only [wR, wB, wE0, wE1, wE2, wE3, g0, gS, s10, s11, s1S, s20, s21, s2S, kl0, kl1, kl2, kl3, sp0, sp1, sp2, sp3, cn1, cn2, cn3, cn4, cn5, cn6, jJa, lk0, lk1, jmS, jmN, s4_0, s4_1, s4_2, s4_3, s4_4, sw0, sw1, cKs, cKn, true_and, and_true, List.map_cons, List.map_nil, Nat.reduceAdd, Nat.zero_add, Int.reduceAdd, Nat.reduceEqDiff, reduceIte, Classical.not_not, b_Ha_counting, hz]
        subst hQ
        (repeat' (first | omega | exact ⟨by omega, by omega⟩ | (with_reducible exact Or.inr trivial) | (with_reducible exact Or.inl trivial) | (with_reducible assumption) | (with_reducible exact Same.refl) | (with_reducible rfl) | (with_reducible refine And.intro ?_ ?_) | (with_reducible intro _)))
        · rw [if_neg (by rw [e]; omega)]
        · rw [if_pos (by rw [e]; omega)]
  refine AW.run ck_Ha_counting [19, 21] 10 0 ?_
  simp only [wR, wB, wE0, wE1, wE2, wE3, g0, gS, s10, s11, s1S, s20, s21, s2S, kl0, kl1, kl2, kl3, sp0, sp1, sp2, sp3, cn1, cn2, cn3, cn4, cn5, cn6, jJa, lk0, lk1, jmS, jmN, s4_0, s4_1, s4_2, s4_3, s4_4, sw0, sw1, cKs, cKn, true_and, and_true, List.map_cons, List.map_nil, Nat.reduceAdd, Nat.zero_add, Int.reduceAdd, Nat.reduceEqDiff, reduceIte, Classical.not_not, b_Ha_counting, hz, s5, hC.2.2.2.2.2.2.1]
  have a19 : h.cN = 0 → AW G d mi_Ha_counting Q 19 [some (vr z), some (vi p), some (vi str), some (vi (sdB sd h.P)), some (vi cold)] [] M := by
    intro h0
    refine AW.run ck_Ha_counting [] 10 19 ?_
    simp only [wR, wB, wE0, wE1, wE2, wE3, g0, gS, s10, s11, s1S, s20, s21, s2S, kl0, kl1, kl2, kl3, sp0, sp1, sp2, sp3, cn1, cn2, cn3, cn4, cn5, cn6, jJa, lk0, lk1, jmS, jmN, s4_0, s4_1, s4_2, s4_3, s4_4, sw0, sw1, cKs, cKn, true_and, and_true, List.map_cons, List.map_nil, Nat.reduceAdd, Nat.zero_add, Int.reduceAdd, Nat.reduceEqDiff, reduceIte, Classical.not_not, b_Ha_counting, hz]
    subst hQ
    (repeat' (first | omega | exact ⟨by omega, by omega⟩ | (with_reducible exact Or.inr trivial) | (with_reducible exact Or.inl trivial) | (with_reducible assumption) | (with_reducible exact Same.refl) | (with_reducible rfl) | (with_reducible refine And.intro ?_ ?_) | (with_reducible intro _)))
    rw [if_pos (by unfold cnts; simp [h0])]
  (repeat' (first | omega | exact ⟨by omega, by omega⟩ | (with_reducible exact Or.inr trivial) | (with_reducible exact Or.inl trivial) | (with_reducible assumption) | (with_reducible exact Same.refl) | (with_reducible rfl) | (with_reducible refine And.intro ?_ ?_) | (with_reducible intro _)))
  · exact a19 (by omega)
  · exact a21 (by omega)
theorem c_Ha_hands {z mz : Int} {h : Hl} {m : Mo} {set side : Nat} (hd : 4 ≤ d) (hz : isO z 2) (hm : isO mz 4) (ok : HlOK h) (hC : CH M z h) (mok : MoOK m) (hM : CM M mz h.P m) (hset : set < 32) (hside : side ≤ 1) :
    MS G d mi_Ha_hands [vr z, vr mz, vi set, vi side] M (fun r M' => r = some (vi (handsM h m set side)) ∧ Same [z + 7, z + 8] M M') := by
  have hP5 := ok.1
  obtain ⟨s1, s2, s3, s5, s7, s8⟩ := sh_Ha hz
  have hz7 := isO_arT hz s7.1
  have hm7 := isO_arT hm s7.1
  have hm8 := isO_arT hm s8.1
  have hm1 : mz + 1 ≠ z + 7 ∧ mz + 1 ≠ z + 8 := by
    rcases isO_Ha hz with rfl | rfl | rfl | rfl <;> rcases isO_Mo hm with rfl | rfl | rfl | rfl | rfl | rfl | rfl | rfl | rfl | rfl | rfl | rfl | rfl | rfl <;> decide
  obtain ⟨hm1, hm2⟩ := hm1
  have hsd : ∀ p, p < h.P → m.sd p ≤ 1 := fun p _ => (mok.1 p).1
  have ho := sideS_lt (sd := m.sd) (k := side) hP5
  have hand : set &&& sideS m.sd h.P side < 32 := Nat.lt_of_le_of_lt Nat.and_le_left hset
  have e1 : bAnd (set : Int) ((sideS m.sd h.P side : Nat) : Int) = ((set &&& sideS m.sd h.P side : Nat) : Int) := bAnd_n (by omega)
  refine MS.by ck_Ha_hands [some (vr z), some (vr mz), some (vi set), some (vi side), none, none, none, none] fun _ _ => ?_
  generalize hQ : (fun (r : Option AV) (M' : AM) => r = some (vi (handsM h m set side)) ∧ Same [z + 7, z + 8] M M') = Q
  generalize hf : (fun p => decide (set / 2 ^ p % 2 = 1 ∧ m.sd p = side) && cnts h m.sd m.cold p (m.st p)) = f
  have loop : ∀ (k i : Nat) (N : AM) (l : Option AV), i + k = h.P → Same [z + 7, z + 8] M N → AW G d mi_Ha_hands Q 19 [some (vr z), some (vr mz), some (vi set), some (vi side), some (vi ((set &&& sideS m.sd h.P side : Nat) : Int)), some (vi (cntP f i)), some (vi i), l] [] N := by
    intro k
    induction k with
    | zero =>
      intro i N l hi hN
      have hCN := hC.same hN (by (first | decide | (simp only [List.mem_cons, List.not_mem_nil, or_false, not_or, not_false_eq_true, and_true]; omega) | (simp [List.mem_cons]; done))) (by (first | decide | (simp only [List.mem_cons, List.not_mem_nil, or_false, not_or, not_false_eq_true, and_true]; omega) | (simp [List.mem_cons]; done))) (by (first | decide | (simp only [List.mem_cons, List.not_mem_nil, or_false, not_or, not_false_eq_true, and_true]; omega) | (simp [List.mem_cons]; done))) (by (first | decide | (simp only [List.mem_cons, List.not_mem_nil, or_false, not_or, not_false_eq_true, and_true]; omega) | (simp [List.mem_cons]; done))) (by (first | decide | (simp only [List.mem_cons, List.not_mem_nil, or_false, not_or, not_false_eq_true, and_true]; omega) | (simp [List.mem_cons]; done))) (by (first | decide | (simp only [List.mem_cons, List.not_mem_nil, or_false, not_or, not_false_eq_true, and_true]; omega) | (simp [List.mem_cons]; done)))
      refine AW.run ck_Ha_hands [19] 8 19 ?_
      simp only [wR, wB, wE0, wE1, wE2, wE3, g0, gS, s10, s11, s1S, s20, s21, s2S, kl0, kl1, kl2, kl3, sp0, sp1, sp2, sp3, cn1, cn2, cn3, cn4, cn5, cn6, jJa, lk0, lk1, jmS, jmN, s4_0, s4_1, s4_2, s4_3, s4_4, sw0, sw1, cKs, cKn, true_and, and_true, List.map_cons, List.map_nil, Nat.reduceAdd, Nat.zero_add, Int.reduceAdd, Nat.reduceEqDiff, reduceIte, Classical.not_not, b_Ha_hands, hz, hCN.2.2.1]
      subst hQ
      (repeat' (first | omega | exact ⟨by omega, by omega⟩ | (with_reducible exact Or.inr trivial) | (with_reducible exact Or.inl trivial) | (with_reducible assumption) | (with_reducible exact Same.refl) | (with_reducible rfl) | (with_reducible refine And.intro ?_ ?_) | (with_reducible intro _)))
      rw [show i = h.P by omega, ← hf]
      rfl
    | succ k ih =>
      intro i N l hi hN
      have hCN := hC.same hN (by (first | decide | (simp only [List.mem_cons, List.not_mem_nil, or_false, not_or, not_false_eq_true, and_true]; omega) | (simp [List.mem_cons]; done))) (by (first | decide | (simp only [List.mem_cons, List.not_mem_nil, or_false, not_or, not_false_eq_true, and_true]; omega) | (simp [List.mem_cons]; done))) (by (first | decide | (simp only [List.mem_cons, List.not_mem_nil, or_false, not_or, not_false_eq_true, and_true]; omega) | (simp [List.mem_cons]; done))) (by (first | decide | (simp only [List.mem_cons, List.not_mem_nil, or_false, not_or, not_false_eq_true, and_true]; omega) | (simp [List.mem_cons]; done))) (by (first | decide | (simp only [List.mem_cons, List.not_mem_nil, or_false, not_or, not_false_eq_true, and_true]; omega) | (simp [List.mem_cons]; done))) (by (first | decide | (simp only [List.mem_cons, List.not_mem_nil, or_false, not_or, not_false_eq_true, and_true]; omega) | (simp [List.mem_cons]; done)))
      have hMN := hM.same hN (by (first | decide | (simp only [List.mem_cons, List.not_mem_nil, or_false, not_or, not_false_eq_true, and_true]; omega) | (simp [List.mem_cons]; done))) (by (first | decide | (simp only [List.mem_cons, List.not_mem_nil, or_false, not_or, not_false_eq_true, and_true]; omega) | (simp [List.mem_cons]; done)))
      have hl := cntP_le f i
      have ebit := bit_n (show set &&& sideS m.sd h.P side < 2 ^ 31 by omega) (show i < 32 by omega)
      have hb2 : (set &&& sideS m.sd h.P side) / 2 ^ i % 2 < 2 := Nat.mod_lt _ (by omega)
      have hbit : ((set &&& sideS m.sd h.P side) / 2 ^ i % 2 = 1) ↔ (set / 2 ^ i % 2 = 1 ∧ m.sd i = side) := by
        rw [and_bit]
        unfold sideS
        rw [bitsP_bit]
        have : i < h.P := by omega
        simp [this]
      have a80 : ∀ (N' : AM) (q : Nat) (l : Option AV), q = cntP f (i + 1) → Same [z + 7, z + 8] M N' → AW G d mi_Ha_hands Q 80 [some (vr z), some (vr mz), some (vi set), some (vi side), some (vi ((set &&& sideS m.sd h.P side : Nat) : Int)), some (vi q), some (vi i), l] [] N' := by
        intro N' q l hq hs
        subst hq
        have key := ih (i + 1) N' l (by omega) hs
        refine AW.run ck_Ha_hands [19] 8 80 ?_
        simp only [wR, wB, wE0, wE1, wE2, wE3, g0, gS, s10, s11, s1S, s20, s21, s2S, kl0, kl1, kl2, kl3, sp0, sp1, sp2, sp3, cn1, cn2, cn3, cn4, cn5, cn6, jJa, lk0, lk1, jmS, jmN, s4_0, s4_1, s4_2, s4_3, s4_4, sw0, sw1, cKs, cKn, true_and, and_true, List.map_cons, List.map_nil, Nat.reduceAdd, Nat.zero_add, Int.reduceAdd, Nat.reduceEqDiff, reduceIte, Classical.not_not, b_Ha_hands, ce]
        (repeat' (first | omega | exact ⟨by omega, by omega⟩ | (with_reducible exact Or.inr trivial) | (with_reducible exact Or.inl trivial) | (with_reducible assumption) | (with_reducible exact Same.refl) | (with_reducible rfl) | (with_reducible refine And.intro ?_ ?_) | (with_reducible intro _)))
      have a44 : ∀ (x : Int), x = (((set &&& sideS m.sd h.P side) / 2 ^ i % 2 : Nat) : Int) → AW G d mi_Ha_hands Q 44 [some (vr z), some (vr mz), some (vi set), some (vi side), some (vi ((set &&& sideS m.sd h.P side : Nat) : Int)), some (vi (cntP f i)), some (vi i), l] [vi x] N := by
        intro x hx
        refine AW.run ck_Ha_hands [80] 8 44 ?_
        simp only [wR, wB, wE0, wE1, wE2, wE3, g0, gS, s10, s11, s1S, s20, s21, s2S, kl0, kl1, kl2, kl3, sp0, sp1, sp2, sp3, cn1, cn2, cn3, cn4, cn5, cn6, jJa, lk0, lk1, jmS, jmN, s4_0, s4_1, s4_2, s4_3, s4_4, sw0, sw1, cKs, cKn, true_and, and_true, List.map_cons, List.map_nil, Nat.reduceAdd, Nat.zero_add, Int.reduceAdd, Nat.reduceEqDiff, reduceIte, Classical.not_not, b_Ha_hands, hz, hm]
        (repeat' (first | omega | exact ⟨by omega, by omega⟩ | (with_reducible exact Or.inr trivial) | (with_reducible exact Or.inl trivial) | (with_reducible assumption) | (with_reducible exact Same.refl) | (with_reducible rfl) | (with_reducible refine And.intro ?_ ?_) | (with_reducible intro _)))
        · refine a80 N _ _ ?_ hN
          have : f i = false := by
            subst hf
            simp only [Bool.and_eq_false_iff, decide_eq_false_iff_not, ← hbit]
            left
            omega
          simp [cntP, this]
        · refine MS.to (c_Mo_strengthOf hm) fun _ => ?_
          simp only [wR, wB, wE0, wE1, wE2, wE3, g0, gS, s10, s11, s1S, s20, s21, s2S, kl0, kl1, kl2, kl3, sp0, sp1, sp2, sp3, cn1, cn2, cn3, cn4, cn5, cn6, jJa, lk0, lk1, jmS, jmN, s4_0, s4_1, s4_2, s4_3, s4_4, sw0, sw1, cKs, cKn, true_and, and_true, List.map_cons, List.map_nil, Nat.reduceAdd, Nat.zero_add, Int.reduceAdd, Nat.reduceEqDiff, reduceIte, Classical.not_not, b_Ha_hands, hz, hm]
          rw [if_pos ⟨by omega, by omega⟩, hMN.2.2.2 i (by omega), if_pos (by omega), hMN.1, hMN.2.1]
          (repeat' (first | omega | exact ⟨by omega, by omega⟩ | (with_reducible exact Or.inr trivial) | (with_reducible exact Or.inl trivial) | (with_reducible assumption) | (with_reducible exact Same.refl) | (with_reducible rfl) | (with_reducible refine And.intro ?_ ?_) | (with_reducible intro _)))
          refine (c_Ha_counting (by omega) hz ok hCN (show i < h.P by omega) hsd (mok.1 i).2 mok.2).mono ?_
          rintro r M' okM' ⟨rfl, hs2⟩
          simp only [wR, wB, wE0, wE1, wE2, wE3, g0, gS, s10, s11, s1S, s20, s21, s2S, kl0, kl1, kl2, kl3, sp0, sp1, sp2, sp3, cn1, cn2, cn3, cn4, cn5, cn6, jJa, lk0, lk1, jmS, jmN, s4_0, s4_1, s4_2, s4_3, s4_4, sw0, sw1, cKs, cKn, true_and, and_true, List.map_cons, List.map_nil, Nat.reduceAdd, Nat.zero_add, Int.reduceAdd, Nat.reduceEqDiff, reduceIte, Classical.not_not, b_Ha_hands, hz, hm, ce]
          have hfi : f i = cnts h m.sd m.cold i (m.st i) := by
            subst hf
            have := hbit.mp (by omega)
            simp [this]
          rw [← hfi]
          (repeat' (first | omega | exact ⟨by omega, by omega⟩ | (with_reducible exact Or.inr trivial) | (with_reducible exact Or.inl trivial) | (with_reducible assumption) | (with_reducible exact Same.refl) | (with_reducible rfl) | (with_reducible refine And.intro ?_ ?_) | (with_reducible intro _)))
          · rename_i q
            refine a80 M' _ _ ?_ (hN.trans hs2)
            by_cases hq : f i = true
            · rw [if_pos hq] at q; omega
            · simp [cntP, hq]
          · rename_i q
            refine a80 M' _ _ ?_ (hN.trans hs2)
            by_cases hq : f i = true
            · simp [cntP, hq]
            · rw [if_neg hq] at q; omega
      refine AW.run ck_Ha_hands [44] 8 19 ?_
      simp only [wR, wB, wE0, wE1, wE2, wE3, g0, gS, s10, s11, s1S, s20, s21, s2S, kl0, kl1, kl2, kl3, sp0, sp1, sp2, sp3, cn1, cn2, cn3, cn4, cn5, cn6, jJa, lk0, lk1, jmS, jmN, s4_0, s4_1, s4_2, s4_3, s4_4, sw0, sw1, cKs, cKn, true_and, and_true, List.map_cons, List.map_nil, Nat.reduceAdd, Nat.zero_add, Int.reduceAdd, Nat.reduceEqDiff, reduceIte, Classical.not_not, b_Ha_hands, hz, hCN.2.2.1, ebit]
      (repeat' (first | omega | exact ⟨by omega, by omega⟩ | (with_reducible exact Or.inr trivial) | (with_reducible exact Or.inl trivial) | (with_reducible assumption) | (with_reducible exact Same.refl) | (with_reducible rfl) | (with_reducible refine And.intro ?_ ?_) | (with_reducible intro _)))
      · exact a44 _ (by omega)
      · exact a44 _ (by omega)
  refine AW.run ck_Ha_hands [19] 8 0 ?_
  simp only [wR, wB, wE0, wE1, wE2, wE3, g0, gS, s10, s11, s1S, s20, s21, s2S, kl0, kl1, kl2, kl3, sp0, sp1, sp2, sp3, cn1, cn2, cn3, cn4, cn5, cn6, jJa, lk0, lk1, jmS, jmN, s4_0, s4_1, s4_2, s4_3, s4_4, sw0, sw1, cKs, cKn, true_and, and_true, List.map_cons, List.map_nil, Nat.reduceAdd, Nat.zero_add, Int.reduceAdd, Nat.reduceEqDiff, reduceIte, Classical.not_not, b_Ha_hands, hz, hm, hM.1]
  (repeat' (first | omega | exact ⟨by omega, by omega⟩ | (with_reducible exact Or.inr trivial) | (with_reducible exact Or.inl trivial) | (with_reducible assumption) | (with_reducible exact Same.refl) | (with_reducible rfl) | (with_reducible refine And.intro ?_ ?_) | (with_reducible intro _)))
  refine MS.to (c_Ha_ofSide (by omega) hz hC.2.2.1 hP5 hside hsd) fun _ => ?_
  simp only [wR, wB, wE0, wE1, wE2, wE3, g0, gS, s10, s11, s1S, s20, s21, s2S, kl0, kl1, kl2, kl3, sp0, sp1, sp2, sp3, cn1, cn2, cn3, cn4, cn5, cn6, jJa, lk0, lk1, jmS, jmN, s4_0, s4_1, s4_2, s4_3, s4_4, sw0, sw1, cKs, cKn, true_and, and_true, List.map_cons, List.map_nil, Nat.reduceAdd, Nat.zero_add, Int.reduceAdd, Nat.reduceEqDiff, reduceIte, Classical.not_not, b_Ha_hands, hz, e1]
  exact loop h.P 0 M none (by omega) Same.refl
theorem c_Ha_standing {z mz : Int} {h : Hl} {m : Mo} {set : Nat} (hd : 5 ≤ d) (hz : isO z 2) (hm : isO mz 4) (ok : HlOK h) (hC : CH M z h) (mok : MoOK m) (hM : CM M mz h.P m) (hset : set < 32) :
    MS G d mi_Ha_standing [vr z, vr mz, vi set] M (fun r M' => r = some (vi (stoodM h m set)) ∧ Same [z + 7, z + 8] M M') := by
  obtain ⟨s1, s2, s3, s5, s7, s8⟩ := sh_Ha hz
  have hz7 := isO_arT hz s7.1
  have hm7 := isO_arT hm s7.1
  have hm8 := isO_arT hm s8.1
  have hm1 : mz + 1 ≠ z + 7 ∧ mz + 1 ≠ z + 8 := by
    rcases isO_Ha hz with rfl | rfl | rfl | rfl <;> rcases isO_Mo hm with rfl | rfl | rfl | rfl | rfl | rfl | rfl | rfl | rfl | rfl | rfl | rfl | rfl | rfl <;> decide
  obtain ⟨hm1, hm2⟩ := hm1
  refine MS.by ck_Ha_standing [some (vr z), some (vr mz), some (vi set), none, none] fun _ _ => ?_
  have a19 : ∀ (M1 : AM) (x : Int), Same [z + 7, z + 8] M M1 → x = (if h.must ≤ handsM h m set 0 then 1 else 0) → AW G d mi_Ha_standing (fun r M' => r = some (vi (stoodM h m set)) ∧ Same [z + 7, z + 8] M M') 19 [some (vr z), some (vr mz), some (vi set), none, none] [vi x] M1 := by
    intro M1 x t1 hx
    have hC1 := hC.same t1 (by (first | decide | (simp only [List.mem_cons, List.not_mem_nil, or_false, not_or, not_false_eq_true, and_true]; omega) | (simp [List.mem_cons]; done))) (by (first | decide | (simp only [List.mem_cons, List.not_mem_nil, or_false, not_or, not_false_eq_true, and_true]; omega) | (simp [List.mem_cons]; done))) (by (first | decide | (simp only [List.mem_cons, List.not_mem_nil, or_false, not_or, not_false_eq_true, and_true]; omega) | (simp [List.mem_cons]; done))) (by (first | decide | (simp only [List.mem_cons, List.not_mem_nil, or_false, not_or, not_false_eq_true, and_true]; omega) | (simp [List.mem_cons]; done))) (by (first | decide | (simp only [List.mem_cons, List.not_mem_nil, or_false, not_or, not_false_eq_true, and_true]; omega) | (simp [List.mem_cons]; done))) (by (first | decide | (simp only [List.mem_cons, List.not_mem_nil, or_false, not_or, not_false_eq_true, and_true]; omega) | (simp [List.mem_cons]; done)))
    have hM1 := hM.same t1 (by (first | decide | (simp only [List.mem_cons, List.not_mem_nil, or_false, not_or, not_false_eq_true, and_true]; omega) | (simp [List.mem_cons]; done))) (by (first | decide | (simp only [List.mem_cons, List.not_mem_nil, or_false, not_or, not_false_eq_true, and_true]; omega) | (simp [List.mem_cons]; done)))
    have hx2 : x = 0 ∨ x = 1 := by rw [hx]; split <;> simp
    refine AW.run ck_Ha_standing [39] 10 19 ?_
    simp only [wR, wB, wE0, wE1, wE2, wE3, g0, gS, s10, s11, s1S, s20, s21, s2S, kl0, kl1, kl2, kl3, sp0, sp1, sp2, sp3, cn1, cn2, cn3, cn4, cn5, cn6, jJa, lk0, lk1, jmS, jmN, s4_0, s4_1, s4_2, s4_3, s4_4, sw0, sw1, cKs, cKn, true_and, and_true, List.map_cons, List.map_nil, Nat.reduceAdd, Nat.zero_add, Int.reduceAdd, Nat.reduceEqDiff, reduceIte, Classical.not_not, b_Ha_standing, hz]
    refine ⟨by omega, (c_Ha_hands (side := 1) (by omega) hz hm ok hC1 mok hM1 hset (by omega)).mono ?_⟩
    rintro r M2 okM2 ⟨rfl, t2⟩
    have hC2 := hC1.same t2 (by (first | decide | (simp only [List.mem_cons, List.not_mem_nil, or_false, not_or, not_false_eq_true, and_true]; omega) | (simp [List.mem_cons]; done))) (by (first | decide | (simp only [List.mem_cons, List.not_mem_nil, or_false, not_or, not_false_eq_true, and_true]; omega) | (simp [List.mem_cons]; done))) (by (first | decide | (simp only [List.mem_cons, List.not_mem_nil, or_false, not_or, not_false_eq_true, and_true]; omega) | (simp [List.mem_cons]; done))) (by (first | decide | (simp only [List.mem_cons, List.not_mem_nil, or_false, not_or, not_false_eq_true, and_true]; omega) | (simp [List.mem_cons]; done))) (by (first | decide | (simp only [List.mem_cons, List.not_mem_nil, or_false, not_or, not_false_eq_true, and_true]; omega) | (simp [List.mem_cons]; done))) (by (first | decide | (simp only [List.mem_cons, List.not_mem_nil, or_false, not_or, not_false_eq_true, and_true]; omega) | (simp [List.mem_cons]; done)))
    have a39 : ∀ y : Int, y = (if h.must ≤ handsM h m set 1 then 2 else 0) → AW G d mi_Ha_standing (fun r M' => r = some (vi (stoodM h m set)) ∧ Same [z + 7, z + 8] M M') 39 [some (vr z), some (vr mz), some (vi set), some (vi x), none] [vi y] M2 := by
      intro y hy
      refine AW.run ck_Ha_standing [] 10 39 ?_
      simp only [wR, wB, wE0, wE1, wE2, wE3, g0, gS, s10, s11, s1S, s20, s21, s2S, kl0, kl1, kl2, kl3, sp0, sp1, sp2, sp3, cn1, cn2, cn3, cn4, cn5, cn6, jJa, lk0, lk1, jmS, jmN, s4_0, s4_1, s4_2, s4_3, s4_4, sw0, sw1, cKs, cKn, true_and, and_true, List.map_cons, List.map_nil, Nat.reduceAdd, Nat.zero_add, Int.reduceAdd, Nat.reduceEqDiff, reduceIte, Classical.not_not, b_Ha_standing]
      refine ⟨?_, t1.trans t2⟩
      rw [hx, hy]
      unfold stoodM
      repeat' split
      all_goals decide +kernel
    simp only [wR, wB, wE0, wE1, wE2, wE3, g0, gS, s10, s11, s1S, s20, s21, s2S, kl0, kl1, kl2, kl3, sp0, sp1, sp2, sp3, cn1, cn2, cn3, cn4, cn5, cn6, jJa, lk0, lk1, jmS, jmN, s4_0, s4_1, s4_2, s4_3, s4_4, sw0, sw1, cKs, cKn, true_and, and_true, List.map_cons, List.map_nil, Nat.reduceAdd, Nat.zero_add, Int.reduceAdd, Nat.reduceEqDiff, reduceIte, Classical.not_not, b_Ha_standing, hz, hC2.2.1]
    (repeat' (first | omega | exact ⟨by omega, by omega⟩ | (with_reducible exact Or.inr trivial) | (with_reducible exact Or.inl trivial) | (with_reducible assumption) | (with_reducible exact Same.refl) | (with_reducible rfl) | (with_reducible refine And.intro ?_ ?_) | (with_reducible intro _)))
    · exact a39 _ (by rw [if_neg (by omega)])
    · exact a39 _ (by rw [if_pos (by omega)])
  refine AW.run ck_Ha_standing [19] 10 0 ?_
  simp only [wR, wB, wE0, wE1, wE2, wE3, g0, gS, s10, s11, s1S, s20, s21, s2S, kl0, kl1, kl2, kl3, sp0, sp1, sp2, sp3, cn1, cn2, cn3, cn4, cn5, cn6, jJa, lk0, lk1, jmS, jmN, s4_0, s4_1, s4_2, s4_3, s4_4, sw0, sw1, cKs, cKn, true_and, and_true, List.map_cons, List.map_nil, Nat.reduceAdd, Nat.zero_add, Int.reduceAdd, Nat.reduceEqDiff, reduceIte, Classical.not_not, b_Ha_standing, hz]
  refine ⟨by omega, (c_Ha_hands (side := 0) (by omega) hz hm ok hC mok hM hset (by omega)).mono ?_⟩
  rintro r M1 okM1 ⟨rfl, t1⟩
  have hC1 := hC.same t1 (by (first | decide | (simp only [List.mem_cons, List.not_mem_nil, or_false, not_or, not_false_eq_true, and_true]; omega) | (simp [List.mem_cons]; done))) (by (first | decide | (simp only [List.mem_cons, List.not_mem_nil, or_false, not_or, not_false_eq_true, and_true]; omega) | (simp [List.mem_cons]; done))) (by (first | decide | (simp only [List.mem_cons, List.not_mem_nil, or_false, not_or, not_false_eq_true, and_true]; omega) | (simp [List.mem_cons]; done))) (by (first | decide | (simp only [List.mem_cons, List.not_mem_nil, or_false, not_or, not_false_eq_true, and_true]; omega) | (simp [List.mem_cons]; done))) (by (first | decide | (simp only [List.mem_cons, List.not_mem_nil, or_false, not_or, not_false_eq_true, and_true]; omega) | (simp [List.mem_cons]; done))) (by (first | decide | (simp only [List.mem_cons, List.not_mem_nil, or_false, not_or, not_false_eq_true, and_true]; omega) | (simp [List.mem_cons]; done)))
  simp only [wR, wB, wE0, wE1, wE2, wE3, g0, gS, s10, s11, s1S, s20, s21, s2S, kl0, kl1, kl2, kl3, sp0, sp1, sp2, sp3, cn1, cn2, cn3, cn4, cn5, cn6, jJa, lk0, lk1, jmS, jmN, s4_0, s4_1, s4_2, s4_3, s4_4, sw0, sw1, cKs, cKn, true_and, and_true, List.map_cons, List.map_nil, Nat.reduceAdd, Nat.zero_add, Int.reduceAdd, Nat.reduceEqDiff, reduceIte, Classical.not_not, b_Ha_standing, hz, hC1.2.1]
  (repeat' (first | omega | exact ⟨by omega, by omega⟩ | (with_reducible exact Or.inr trivial) | (with_reducible exact Or.inl trivial) | (with_reducible assumption) | (with_reducible exact Same.refl) | (with_reducible rfl) | (with_reducible refine And.intro ?_ ?_) | (with_reducible intro _)))
  · exact a19 M1 _ t1 (by rw [if_neg (by omega)])
  · exact a19 M1 _ t1 (by rw [if_pos (by omega)])
theorem c_Ha_codeAfter {z mz : Int} {h : Hl} {m : Mo} {set cold : Nat} (hd : 4 ≤ d) (hz : isO z 2) (hm : isO mz 4) (ok : HlOK h) (hC : CH M z h) (mok : MoOK m) (hM : CM M mz h.P m) (hset : set < 32) (hc : cold ≤ 9) :
    MS G d mi_Ha_codeAfter [vr z, vr mz, vi set, vi cold] M (fun r M' => r = some (vi (cod (fun p => tired h m.sd cold set p (m.st p)) h.P)) ∧ Same [z + 7, z + 8] M M') := by
  have hP5 := ok.1
  obtain ⟨s1, s2, s3, s5, s7, s8⟩ := sh_Ha hz
  have hz7 := isO_arT hz s7.1
  have hm7 := isO_arT hm s7.1
  have hm8 := isO_arT hm s8.1
  have hm1 : mz + 1 ≠ z + 7 ∧ mz + 1 ≠ z + 8 := by
    rcases isO_Ha hz with rfl | rfl | rfl | rfl <;> rcases isO_Mo hm with rfl | rfl | rfl | rfl | rfl | rfl | rfl | rfl | rfl | rfl | rfl | rfl | rfl | rfl <;> decide
  obtain ⟨hm1, hm2⟩ := hm1
  have sm := sh_Mo hm
  have hsd : ∀ p, p < h.P → m.sd p ≤ 1 := fun p _ => (mok.1 p).1
  refine MS.by ck_Ha_codeAfter [some (vr z), some (vr mz), some (vi set), some (vi cold), none, none] fun _ _ => ?_
  generalize hf : (fun p => tired h m.sd cold set p (m.st p)) = f
  have hf4 : ∀ p, f p ≤ 4 := fun p => by subst hf; exact tired_le _ _ _ _ _ _
  have loop : ∀ (k i : Nat) (N : AM), i + k = h.P → Same [z + 7, z + 8] M N → AW G d mi_Ha_codeAfter (fun r M' => r = some (vi (cod f h.P)) ∧ Same [z + 7, z + 8] M M') 6 [some (vr z), some (vr mz), some (vi set), some (vi cold), some (vi (cod f i)), some (vi i)] [] N := by
    intro k
    induction k with
    | zero =>
      intro i N hi hN
      have hCN := hC.same hN (by (first | decide | (simp only [List.mem_cons, List.not_mem_nil, or_false, not_or, not_false_eq_true, and_true]; omega) | (simp [List.mem_cons]; done))) (by (first | decide | (simp only [List.mem_cons, List.not_mem_nil, or_false, not_or, not_false_eq_true, and_true]; omega) | (simp [List.mem_cons]; done))) (by (first | decide | (simp only [List.mem_cons, List.not_mem_nil, or_false, not_or, not_false_eq_true, and_true]; omega) | (simp [List.mem_cons]; done))) (by (first | decide | (simp only [List.mem_cons, List.not_mem_nil, or_false, not_or, not_false_eq_true, and_true]; omega) | (simp [List.mem_cons]; done))) (by (first | decide | (simp only [List.mem_cons, List.not_mem_nil, or_false, not_or, not_false_eq_true, and_true]; omega) | (simp [List.mem_cons]; done))) (by (first | decide | (simp only [List.mem_cons, List.not_mem_nil, or_false, not_or, not_false_eq_true, and_true]; omega) | (simp [List.mem_cons]; done)))
      refine AW.run ck_Ha_codeAfter [6] 8 6 ?_
      simp only [wR, wB, wE0, wE1, wE2, wE3, g0, gS, s10, s11, s1S, s20, s21, s2S, kl0, kl1, kl2, kl3, sp0, sp1, sp2, sp3, cn1, cn2, cn3, cn4, cn5, cn6, jJa, lk0, lk1, jmS, jmN, s4_0, s4_1, s4_2, s4_3, s4_4, sw0, sw1, cKs, cKn, true_and, and_true, List.map_cons, List.map_nil, Nat.reduceAdd, Nat.zero_add, Int.reduceAdd, Nat.reduceEqDiff, reduceIte, Classical.not_not, b_Ha_codeAfter, hz, hCN.2.2.1]
      (repeat' (first | omega | exact ⟨by omega, by omega⟩ | (with_reducible exact Or.inr trivial) | (with_reducible exact Or.inl trivial) | (with_reducible assumption) | (with_reducible exact Same.refl) | (with_reducible rfl) | (with_reducible refine And.intro ?_ ?_) | (with_reducible intro _)))
      rw [show i = h.P by omega]
    | succ k ih =>
      intro i N hi hN
      have hCN := hC.same hN (by (first | decide | (simp only [List.mem_cons, List.not_mem_nil, or_false, not_or, not_false_eq_true, and_true]; omega) | (simp [List.mem_cons]; done))) (by (first | decide | (simp only [List.mem_cons, List.not_mem_nil, or_false, not_or, not_false_eq_true, and_true]; omega) | (simp [List.mem_cons]; done))) (by (first | decide | (simp only [List.mem_cons, List.not_mem_nil, or_false, not_or, not_false_eq_true, and_true]; omega) | (simp [List.mem_cons]; done))) (by (first | decide | (simp only [List.mem_cons, List.not_mem_nil, or_false, not_or, not_false_eq_true, and_true]; omega) | (simp [List.mem_cons]; done))) (by (first | decide | (simp only [List.mem_cons, List.not_mem_nil, or_false, not_or, not_false_eq_true, and_true]; omega) | (simp [List.mem_cons]; done))) (by (first | decide | (simp only [List.mem_cons, List.not_mem_nil, or_false, not_or, not_false_eq_true, and_true]; omega) | (simp [List.mem_cons]; done)))
      have hMN := hM.same hN (by (first | decide | (simp only [List.mem_cons, List.not_mem_nil, or_false, not_or, not_false_eq_true, and_true]; omega) | (simp [List.mem_cons]; done))) (by (first | decide | (simp only [List.mem_cons, List.not_mem_nil, or_false, not_or, not_false_eq_true, and_true]; omega) | (simp [List.mem_cons]; done)))
      have hl := cod_lt (f := f) (P := i) (by omega) (fun p _ => hf4 p)
      have hl2 := cod_lt (f := f) (P := i + 1) (by omega) (fun p _ => hf4 p)
      have hcs := cod_s f i
      have h5 : 5 ^ i ≤ 5 ^ 4 := Nat.pow_le_pow_right (by omega) (by omega)
      refine AW.run ck_Ha_codeAfter [6] 8 6 ?_
      simp only [wR, wB, wE0, wE1, wE2, wE3, g0, gS, s10, s11, s1S, s20, s21, s2S, kl0, kl1, kl2, kl3, sp0, sp1, sp2, sp3, cn1, cn2, cn3, cn4, cn5, cn6, jJa, lk0, lk1, jmS, jmN, s4_0, s4_1, s4_2, s4_3, s4_4, sw0, sw1, cKs, cKn, true_and, and_true, List.map_cons, List.map_nil, Nat.reduceAdd, Nat.zero_add, Int.reduceAdd, Nat.reduceEqDiff, reduceIte, Classical.not_not, b_Ha_codeAfter, hz, hm, sm, hCN.2.2.1, romP (show i < 6 by omega), hMN.1, hMN.2.2.2 i (by omega)]
      rw [if_pos (show i < h.P by omega)]
      (repeat' (first | omega | exact ⟨by omega, by omega⟩ | (with_reducible exact Or.inr trivial) | (with_reducible exact Or.inl trivial) | (with_reducible assumption) | (with_reducible exact Same.refl) | (with_reducible rfl) | (with_reducible refine And.intro ?_ ?_) | (with_reducible intro _)))
      refine (c_Ha_tiredTo (by omega) hz ok hCN (show i < h.P by omega) hsd (mok.1 i).2 hc hset).mono ?_
      rintro r M' okM' ⟨rfl, hs2⟩
      have key := ih (i + 1) M' (by omega) (hN.trans hs2)
      simp only [wR, wB, wE0, wE1, wE2, wE3, g0, gS, s10, s11, s1S, s20, s21, s2S, kl0, kl1, kl2, kl3, sp0, sp1, sp2, sp3, cn1, cn2, cn3, cn4, cn5, cn6, jJa, lk0, lk1, jmS, jmN, s4_0, s4_1, s4_2, s4_3, s4_4, sw0, sw1, cKs, cKn, true_and, and_true, List.map_cons, List.map_nil, Nat.reduceAdd, Nat.zero_add, Int.reduceAdd, Nat.reduceEqDiff, reduceIte, Classical.not_not, b_Ha_codeAfter, ce]
      have e : tired h m.sd cold set i (m.st i) = f i := by subst hf; rfl
      rw [e]
      have e2 : ((5 ^ i : Nat) : Int) * (f i : Int) = ((5 ^ i * f i : Nat) : Int) := (Int.natCast_mul _ _).symm
      rw [e2, show ((cod f i : Nat) : Int) + ((5 ^ i * f i : Nat) : Int) = ((cod f (i + 1) : Nat) : Int) by rw [hcs]; rfl]
      have hm4 : 5 ^ i * f i ≤ 625 * 4 := Nat.mul_le_mul (by omega) (hf4 i)
      (repeat' (first | omega | exact ⟨by omega, by omega⟩ | (with_reducible exact Or.inr trivial) | (with_reducible exact Or.inl trivial) | (with_reducible assumption) | (with_reducible exact Same.refl) | (with_reducible rfl) | (with_reducible refine And.intro ?_ ?_) | (with_reducible intro _)))
  refine AW.run ck_Ha_codeAfter [6] 8 0 ?_
  simp only [wR, wB, wE0, wE1, wE2, wE3, g0, gS, s10, s11, s1S, s20, s21, s2S, kl0, kl1, kl2, kl3, sp0, sp1, sp2, sp3, cn1, cn2, cn3, cn4, cn5, cn6, jJa, lk0, lk1, jmS, jmN, s4_0, s4_1, s4_2, s4_3, s4_4, sw0, sw1, cKs, cKn, true_and, and_true, List.map_cons, List.map_nil, Nat.reduceAdd, Nat.zero_add, Int.reduceAdd, Nat.reduceEqDiff, reduceIte, Classical.not_not, b_Ha_codeAfter]
  exact loop h.P 0 M (by omega) Same.refl
end CB
