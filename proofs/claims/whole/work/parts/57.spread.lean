theorem pop_bits {f : Nat → Bool} {P : Nat} (hP : P ≤ 5) : pop (bitsP f P) = cntP f P := by
  match P, hP with
  | 0, _ => simp [bitsP, cntP, pop]
  | 1, _ => cases h0 : f 0 <;> simp [bitsP, cntP, pop, h0]
  | 2, _ => cases h0 : f 0 <;> cases h1 : f 1 <;> simp [bitsP, cntP, pop, h0, h1]
  | 3, _ => cases h0 : f 0 <;> cases h1 : f 1 <;> cases h2 : f 2 <;> simp [bitsP, cntP, pop, h0, h1, h2]
  | 4, _ => cases h0 : f 0 <;> cases h1 : f 1 <;> cases h2 : f 2 <;> cases h3 : f 3 <;> simp [bitsP, cntP, pop, h0, h1, h2, h3]
  | 5, _ => cases h0 : f 0 <;> cases h1 : f 1 <;> cases h2 : f 2 <;> cases h3 : f 3 <;> cases h4 : f 4 <;> simp [bitsP, cntP, pop, h0, h1, h2, h3, h4]
theorem bits_and {a P : Nat} {f : Nat → Bool} (ha : a < 32) (hP : P ≤ 5) : a &&& bitsP f P = bitsP (fun p => decide (a / 2 ^ p % 2 = 1) && f p) P := by
  have h1 : bitsP f P < 32 := bitsP32 hP
  refine bits_eq (Nat.lt_of_le_of_lt Nat.and_le_left ha) (bitsP32 hP) (fun k hk => ?_)
  have key : ∀ (a b : Fin 32) (k : Fin 5), (a.val &&& b.val) / 2 ^ k.val % 2 = if a.val / 2 ^ k.val % 2 = 1 ∧ b.val / 2 ^ k.val % 2 = 1 then 1 else 0 := by decide +kernel
  have := key ⟨a, ha⟩ ⟨bitsP f P, h1⟩ ⟨k, hk⟩
  simp only at this
  rw [this, bitsP_bit, bitsP_bit]
  by_cases q1 : a / 2 ^ k % 2 = 1 <;> by_cases q2 : k < P <;> by_cases q3 : f k = true <;> simp [q1, q2, q3]
theorem pop_hands {h : Hl} {sd : Nat → Nat} {cold s set side : Nat} (hP : h.P ≤ 5) (hset : set < 32) : pop (set &&& ctW h sd cold (2 ^ h.P - 1) s &&& sideS sd h.P side) = hands h sd cold s set side := by
  rw [ctW_all hP, bits_and hset hP]
  unfold sideS
  rw [bits_and (bitsP32 hP) hP, pop_bits hP]
  unfold hands
  refine cntP_congr _ (fun p hp => ?_)
  rw [bitsP_bit]
  by_cases q1 : set / 2 ^ p % 2 = 1 <;> by_cases q2 : cnts h sd cold p (dig s p) = true <;> by_cases q3 : sd p = side <;> simp [q1, q2, q3, hp]
/-- of the side told in W -/
theorem pop_handsW {h : Hl} {sd : Nat → Nat} {cold s set side : Nat} (hP : h.P ≤ 5) (hset : set < 32) : pop (set &&& ctW h sd cold (sideS sd h.P side) s) = hands h sd cold s set side := by
  unfold ctW
  rw [bits_and hset hP, pop_bits hP]
  unfold hands
  refine cntP_congr _ (fun p hp => ?_)
  have e : wb (sideS sd h.P side) p = decide (sd p = side) := by
    unfold wb sideS
    rw [bitsP_bit]
    by_cases q3 : sd p = side <;> simp [q3, hp]
  rw [e]
  by_cases q1 : set / 2 ^ p % 2 = 1 <;> by_cases q2 : cnts h sd cold p (dig s p) = true <;> by_cases q3 : sd p = side <;> simp [q1, q2, q3]
/-- may a set be, of all; both standing, if told -/
def okA (h : Hl) (sd : Nat → Nat) (cold : Nat) (both : Bool) (s set : Nat) : Bool := decide (set &&& (31 ^^^ ablS h.P s) = 0) && (!both || (decide (h.must ≤ hands h sd cold s set 0) && decide (h.must ≤ hands h sd cold s set 1)))
theorem WK.eq {M N : AM} {w : WS} (h : WK M w) (h0 : N 49 1 = M 49 1) (h1 : N 50 = M 50) (h2 : N 51 = M 51) (h3 : N 52 = M 52) : WK N w := by
  unfold WK
  rw [h0, h1, h2, h3]
  exact h
/-- all have a strength -/
def aHave (P n s : Nat) : Bool := decide (∀ p, p < P → n ≤ dig s p)
section WB
variable {G : AG} {d : Nat} {M : AM}
theorem c_Wk_spreadFrom {h : Hl} {sd : Nat → Nat} {cold s : Nat} {both : Bool} {w : WS} (hd : 5 ≤ d) (ok : HlOK h) (hS : StAt M h sd cold (2 ^ h.P - 1) s) (hw : WK M w) (hs : s ∈ w.l) (hfr : w.fr s < 10000) :
    MS G d mi_Wk_spreadFrom [vr 49, vr 33, vi s, vi (if both = true then 1 else 0)] M (fun r M' => r = none ∧ WK M' (exW (okA h sd cold both) (nxt h sd cold) s (2 ^ h.P) w) ∧ StAt M' h sd cold (2 ^ h.P - 1) s ∧ Same [49, 50, 51, 52] M M' ∧ ∀ y : Int, y ≠ 1 → M' 49 y = M 49 y) := by
  have hP := ok.1
  have h32 := p2_32 hP
  have hab : ablS h.P s < 32 := bitsP32 hP
  refine MS.by ck_Wk_spreadFrom [some (vr 49), some (vr 33), some (vi s), some (vi (if both = true then 1 else 0)), none, none] fun _ _ => ?_
  generalize hQ : (fun (r : Option AV) (M' : AM) => r = none ∧ WK M' (exW (okA h sd cold both) (nxt h sd cold) s (2 ^ h.P) w) ∧ StAt M' h sd cold (2 ^ h.P - 1) s ∧ Same [49, 50, 51, 52] M M' ∧ ∀ y : Int, y ≠ 1 → M' 49 y = M 49 y) = Q
  have loop : ∀ (r set : Nat) (N : AM) (l5 : Option AV), set + r = 2 ^ h.P → WK N (exW (okA h sd cold both) (nxt h sd cold) s set w) → StAt N h sd cold (2 ^ h.P - 1) s → Same [49, 50, 51, 52] M N → (∀ y : Int, y ≠ 1 → N 49 y = M 49 y) → AW G d mi_Wk_spreadFrom Q 3 [some (vr 49), some (vr 33), some (vi s), some (vi (if both = true then 1 else 0)), some (vi set), l5] [] N := by
    as_aux_lemma =>
      intro r
      induction r with
      | zero =>
        intro set N l5 hr hwN hSN hN hf
        have e2 : N 33 2 = ((2 ^ h.P : Nat) : Int) := hSN.1.2.2.1.2.1
        refine AW.run ck_Wk_spreadFrom [29] 10 3 ?_
        simp only [wR, wB, wE0, wE1, wE2, wE3, g0, gS, s10, s11, s1S, s20, s21, s2S, kl0, kl1, kl2, kl3, sp0, sp1, sp2, sp3, cn1, cn2, cn3, cn4, cn5, cn6, jJa, lk0, lk1, jmS, jmN, s4_0, s4_1, s4_2, s4_3, s4_4, sw0, sw1, cKs, cKn, true_and, and_true, List.map_cons, List.map_nil, Nat.reduceAdd, Nat.zero_add, Int.reduceAdd, Nat.reduceEqDiff, reduceIte, Classical.not_not, b_Wk_spreadFrom, shSt, e2]
        subst hQ
        rw [show set = 2 ^ h.P by omega] at hwN
        (repeat' (first | omega | exact ⟨by omega, by omega⟩ | (with_reducible exact Or.inr trivial) | (with_reducible exact Or.inl trivial) | (with_reducible assumption) | (with_reducible exact Same.refl) | (with_reducible rfl) | (with_reducible refine And.intro ?_ ?_) | (with_reducible intro _)))
      | succ r ih =>
        intro set N l5 hr hwN hSN hN hf
        have e2 : N 33 2 = ((2 ^ h.P : Nat) : Int) := hSN.1.2.2.1.2.1
        have e6 : N 33 6 = ((ablS h.P s : Nat) : Int) := by rw [hSN.2.1, abW_all hP]
        have a85 : ∀ (K : AM) (l5 : Option AV), WK K (exW (okA h sd cold both) (nxt h sd cold) s (set + 1) w) → StAt K h sd cold (2 ^ h.P - 1) s → Same [49, 50, 51, 52] M K → (∀ y : Int, y ≠ 1 → K 49 y = M 49 y) → AW G d mi_Wk_spreadFrom Q 85 [some (vr 49), some (vr 33), some (vi s), some (vi (if both = true then 1 else 0)), some (vi set), l5] [] K := by
          intro K l5 h1 h2 h3 h4
          refine AW.run ck_Wk_spreadFrom [3] 10 85 ?_
          simp only [wR, wB, wE0, wE1, wE2, wE3, g0, gS, s10, s11, s1S, s20, s21, s2S, kl0, kl1, kl2, kl3, sp0, sp1, sp2, sp3, cn1, cn2, cn3, cn4, cn5, cn6, jJa, lk0, lk1, jmS, jmN, s4_0, s4_1, s4_2, s4_3, s4_4, sw0, sw1, cKs, cKn, true_and, and_true, List.map_cons, List.map_nil, Nat.reduceAdd, Nat.zero_add, Int.reduceAdd, Nat.reduceEqDiff, reduceIte, Classical.not_not, b_Wk_spreadFrom, ce]
          (repeat' (first | omega | exact ⟨by omega, by omega⟩ | (with_reducible exact Or.inr trivial) | (with_reducible exact Or.inl trivial) | (with_reducible assumption) | (with_reducible exact Same.refl) | (with_reducible rfl) | (with_reducible refine And.intro ?_ ?_) | (with_reducible intro _)))
          exact ih (set + 1) K _ (by omega) h1 h2 h3 h4
        have no : okA h sd cold both s set = false → ∀ l5, AW G d mi_Wk_spreadFrom Q 85 [some (vr 49), some (vr 33), some (vi s), some (vi (if both = true then 1 else 0)), some (vi set), l5] [] N := by
          intro e l5
          refine a85 N l5 ?_ hSN hN hf
          simp only [exW]
          rw [if_neg (by rw [e]; decide)]
          exact hwN
        have a60 : okA h sd cold both s set = true → AW G d mi_Wk_spreadFrom Q 60 [some (vr 49), some (vr 33), some (vi s), some (vi (if both = true then 1 else 0)), some (vi set), some (vi 1)] [] N := by
          intro e
          have e' := e
          unfold okA at e'
          rw [Bool.and_eq_true, decide_eq_true_eq] at e'
          have hsub : sub set (abW h.P (2 ^ h.P - 1) s) := by
            rw [abW_all hP]
            exact (sub_iff (by omega) hab).mp e'.1
          obtain ⟨p1, p2⟩ := exW_pre (ok := okA h sd cold both) (nx := nxt h sd cold) (s := s) (w := w) set
          obtain ⟨m1, m2, m3⟩ := p2 s hs
          have e51 : N 51 s = (w.fr s : Int) := by
            have := hwN.2.2.1 s (hwN.2.2.2.2.2 s m1)
            rw [if_pos m1, m2] at this
            exact this
          have hs3 : s < 3125 := hwN.2.2.2.2.2 s m1
          have hnl : nxt h sd cold s set < 3125 := nxt_lt ok
          refine AW.run ck_Wk_spreadFrom [85] 10 60 ?_
          simp only [wR, wB, wE0, wE1, wE2, wE3, g0, gS, s10, s11, s1S, s20, s21, s2S, kl0, kl1, kl2, kl3, sp0, sp1, sp2, sp3, cn1, cn2, cn3, cn4, cn5, cn6, jJa, lk0, lk1, jmS, jmN, s4_0, s4_1, s4_2, s4_3, s4_4, sw0, sw1, cKs, cKn, true_and, and_true, List.map_cons, List.map_nil, Nat.reduceAdd, Nat.zero_add, Int.reduceAdd, Nat.reduceEqDiff, reduceIte, Classical.not_not, b_Wk_spreadFrom, shSt, shWk]
          refine ⟨by omega, MS.to (c_St_to ok hSN (by omega) hsub) fun _ => ?_⟩
          rw [nxW_all hP]
          simp only [wR, wB, wE0, wE1, wE2, wE3, g0, gS, s10, s11, s1S, s20, s21, s2S, kl0, kl1, kl2, kl3, sp0, sp1, sp2, sp3, cn1, cn2, cn3, cn4, cn5, cn6, jJa, lk0, lk1, jmS, jmN, s4_0, s4_1, s4_2, s4_3, s4_4, sw0, sw1, cKs, cKn, true_and, and_true, List.map_cons, List.map_nil, Nat.reduceAdd, Nat.zero_add, Int.reduceAdd, Nat.reduceEqDiff, reduceIte, Classical.not_not, b_Wk_spreadFrom, shWk, e51]
          have er : ((s : Int) * 32 + (set : Int)) = ((s * 32 + set : Nat) : Int) := by omega
          have ef : ((w.fr s : Int) + 1) = ((w.fr s + 1 : Nat) : Int) := by omega
          rw [er, ef]
          (repeat' (first | omega | exact ⟨by omega, by omega⟩ | (with_reducible exact Or.inr trivial) | (with_reducible exact Or.inl trivial) | (with_reducible assumption) | (with_reducible exact Same.refl) | (with_reducible rfl) | (with_reducible refine And.intro ?_ ?_) | (with_reducible intro _)))
          refine (c_Wk_reach hwN hnl (by omega) (by omega)).mono ?_
          rintro r' M1 okM1 ⟨rfl, u1, u2, u3⟩
          simp only [wR, wB, wE0, wE1, wE2, wE3, g0, gS, s10, s11, s1S, s20, s21, s2S, kl0, kl1, kl2, kl3, sp0, sp1, sp2, sp3, cn1, cn2, cn3, cn4, cn5, cn6, jJa, lk0, lk1, jmS, jmN, s4_0, s4_1, s4_2, s4_3, s4_4, sw0, sw1, cKs, cKn, true_and, and_true, List.map_cons, List.map_nil, Nat.reduceAdd, Nat.zero_add, Int.reduceAdd, Nat.reduceEqDiff, reduceIte, Classical.not_not, b_Wk_spreadFrom]
          refine a85 M1 _ ?_ (hSN.same u2 (fun x h1 h2 => by (first | decide | (simp only [List.mem_cons, List.not_mem_nil, or_false, not_or, not_false_eq_true, and_true]; omega) | (simp [List.mem_cons]; done)))) (hN.trans u2) (fun y hy => by rw [u3 y hy]; exact hf y hy)
          simp only [exW]
          rw [if_pos e]
          exact u1
        have a29 : ∀ x : Int, x = (if set &&& (31 ^^^ ablS h.P s) = 0 then 1 else 0) → AW G d mi_Wk_spreadFrom Q 29 [some (vr 49), some (vr 33), some (vi s), some (vi (if both = true then 1 else 0)), some (vi set), l5] [vi x] N := by
          intro x hx
          refine AW.run ck_Wk_spreadFrom [60, 85] 10 29 ?_
          simp only [wR, wB, wE0, wE1, wE2, wE3, g0, gS, s10, s11, s1S, s20, s21, s2S, kl0, kl1, kl2, kl3, sp0, sp1, sp2, sp3, cn1, cn2, cn3, cn4, cn5, cn6, jJa, lk0, lk1, jmS, jmN, s4_0, s4_1, s4_2, s4_3, s4_4, sw0, sw1, cKs, cKn, true_and, and_true, List.map_cons, List.map_nil, Nat.reduceAdd, Nat.zero_add, Int.reduceAdd, Nat.reduceEqDiff, reduceIte, Classical.not_not, b_Wk_spreadFrom, shSt]
          by_cases q : set &&& (31 ^^^ ablS h.P s) = 0
          · rw [if_pos q] at hx
            subst hx
            cases both with
            | false =>
              have := a60 (by unfold okA; simp [q])
              simp only [Bool.false_eq_true, if_false] at this
              simp only [Bool.false_eq_true, if_false, Int.reduceEq, not_false_eq_true, not_true_eq_false, true_imp_iff, false_imp_iff, true_and, and_true]
              exact this
            | true =>
              simp only [if_true] at a60 no ⊢
              refine ⟨fun e => absurd e (by omega), fun _ => ⟨fun e => absurd e (by omega), fun _ => ⟨by omega, MS.to (c_St_stand (d := d - 1) (side := 0) (by omega) ok hSN (by omega) (by omega)) fun _ => ?_⟩⟩⟩
              rw [pop_hands hP (by omega)]
              by_cases q0 : h.must ≤ hands h sd cold s set 0
              · rw [if_pos q0]
                simp only [wR, wB, wE0, wE1, wE2, wE3, g0, gS, s10, s11, s1S, s20, s21, s2S, kl0, kl1, kl2, kl3, sp0, sp1, sp2, sp3, cn1, cn2, cn3, cn4, cn5, cn6, jJa, lk0, lk1, jmS, jmN, s4_0, s4_1, s4_2, s4_3, s4_4, sw0, sw1, cKs, cKn, true_and, and_true, List.map_cons, List.map_nil, Nat.reduceAdd, Nat.zero_add, Int.reduceAdd, Nat.reduceEqDiff, reduceIte, Classical.not_not, b_Wk_spreadFrom, shSt, up_rd, Int.reduceEq, and_false, false_and, and_self, reduceIte, not_true_eq_false, not_false_eq_true, false_imp_iff, true_imp_iff, true_or, or_true]
                refine ⟨by omega, MS.to (c_St_stand (d := d - 1) (side := 1) (by omega) ok hSN (by omega) (by omega)) fun _ => ?_⟩
                rw [pop_hands hP (by omega)]
                by_cases q1 : h.must ≤ hands h sd cold s set 1
                · rw [if_pos q1]
                  simp only [wR, wB, wE0, wE1, wE2, wE3, g0, gS, s10, s11, s1S, s20, s21, s2S, kl0, kl1, kl2, kl3, sp0, sp1, sp2, sp3, cn1, cn2, cn3, cn4, cn5, cn6, jJa, lk0, lk1, jmS, jmN, s4_0, s4_1, s4_2, s4_3, s4_4, sw0, sw1, cKs, cKn, true_and, and_true, List.map_cons, List.map_nil, Nat.reduceAdd, Nat.zero_add, Int.reduceAdd, Nat.reduceEqDiff, reduceIte, Classical.not_not, b_Wk_spreadFrom, shSt, up_rd, Int.reduceEq, and_false, false_and, and_self, reduceIte, not_true_eq_false, not_false_eq_true, false_imp_iff, true_imp_iff, true_or, or_true]
                  exact a60 (by unfold okA; simp [q, q0, q1])
                · rw [if_neg q1]
                  simp only [wR, wB, wE0, wE1, wE2, wE3, g0, gS, s10, s11, s1S, s20, s21, s2S, kl0, kl1, kl2, kl3, sp0, sp1, sp2, sp3, cn1, cn2, cn3, cn4, cn5, cn6, jJa, lk0, lk1, jmS, jmN, s4_0, s4_1, s4_2, s4_3, s4_4, sw0, sw1, cKs, cKn, true_and, and_true, List.map_cons, List.map_nil, Nat.reduceAdd, Nat.zero_add, Int.reduceAdd, Nat.reduceEqDiff, reduceIte, Classical.not_not, b_Wk_spreadFrom, shSt, up_rd, Int.reduceEq, and_false, false_and, and_self, reduceIte, not_true_eq_false, not_false_eq_true, false_imp_iff, true_imp_iff, true_or, or_true]
                  exact no (by unfold okA; simp [q1]) _
              · rw [if_neg q0]
                simp only [wR, wB, wE0, wE1, wE2, wE3, g0, gS, s10, s11, s1S, s20, s21, s2S, kl0, kl1, kl2, kl3, sp0, sp1, sp2, sp3, cn1, cn2, cn3, cn4, cn5, cn6, jJa, lk0, lk1, jmS, jmN, s4_0, s4_1, s4_2, s4_3, s4_4, sw0, sw1, cKs, cKn, true_and, and_true, List.map_cons, List.map_nil, Nat.reduceAdd, Nat.zero_add, Int.reduceAdd, Nat.reduceEqDiff, reduceIte, Classical.not_not, b_Wk_spreadFrom, shSt, up_rd, Int.reduceEq, and_false, false_and, and_self, reduceIte, not_true_eq_false, not_false_eq_true, false_imp_iff, true_imp_iff, true_or, or_true]
                exact no (by unfold okA; simp [q0]) _
          · rw [if_neg q] at hx
            subst hx
            have := no (by unfold okA; simp [q]) (some (vi 0))
            (repeat' (first | omega | exact ⟨by omega, by omega⟩ | (with_reducible exact Or.inr trivial) | (with_reducible exact Or.inl trivial) | (with_reducible assumption) | (with_reducible exact Same.refl) | (with_reducible rfl) | (with_reducible refine And.intro ?_ ?_) | (with_reducible intro _)))
        refine AW.run ck_Wk_spreadFrom [29, 94] 10 3 ?_
        simp only [wR, wB, wE0, wE1, wE2, wE3, g0, gS, s10, s11, s1S, s20, s21, s2S, kl0, kl1, kl2, kl3, sp0, sp1, sp2, sp3, cn1, cn2, cn3, cn4, cn5, cn6, jJa, lk0, lk1, jmS, jmN, s4_0, s4_1, s4_2, s4_3, s4_4, sw0, sw1, cKs, cKn, true_and, and_true, List.map_cons, List.map_nil, Nat.reduceAdd, Nat.zero_add, Int.reduceAdd, Nat.reduceEqDiff, reduceIte, Classical.not_not, b_Wk_spreadFrom, shSt, e2, e6, bAndN_n (show set < 32 by omega) hab]
        by_cases q : set &&& (31 ^^^ ablS h.P s) = 0
        · have := a29 1 (by rw [if_pos q])
          (repeat' (first | omega | exact ⟨by omega, by omega⟩ | (with_reducible exact Or.inr trivial) | (with_reducible exact Or.inl trivial) | (with_reducible assumption) | (with_reducible exact Same.refl) | (with_reducible rfl) | (with_reducible refine And.intro ?_ ?_) | (with_reducible intro _)))
        · have := a29 0 (by rw [if_neg q])
          (repeat' (first | omega | exact ⟨by omega, by omega⟩ | (with_reducible exact Or.inr trivial) | (with_reducible exact Or.inl trivial) | (with_reducible assumption) | (with_reducible exact Same.refl) | (with_reducible rfl) | (with_reducible refine And.intro ?_ ?_) | (with_reducible intro _)))
  refine AW.run ck_Wk_spreadFrom [3] 10 0 ?_
  simp only [wR, wB, wE0, wE1, wE2, wE3, g0, gS, s10, s11, s1S, s20, s21, s2S, kl0, kl1, kl2, kl3, sp0, sp1, sp2, sp3, cn1, cn2, cn3, cn4, cn5, cn6, jJa, lk0, lk1, jmS, jmN, s4_0, s4_1, s4_2, s4_3, s4_4, sw0, sw1, cKs, cKn, true_and, and_true, List.map_cons, List.map_nil, Nat.reduceAdd, Nat.zero_add, Int.reduceAdd, Nat.reduceEqDiff, reduceIte, Classical.not_not, b_Wk_spreadFrom]
  exact loop (2 ^ h.P) 0 M _ (by omega) hw hS Same.refl (fun _ _ => rfl)
theorem c_Wk_allHave {s n P : Nat} (hd : 3 ≤ d) (hP : P ≤ 5) : MS G d mi_Wk_allHave [vi s, vi n, vi P] M (fun r M' => r = some (vi (if aHave P n s = true then 1 else 0)) ∧ M' = M) := by
  refine MS.by ck_Wk_allHave [some (vi s), some (vi n), some (vi P), none] fun _ _ => ?_
  generalize hQ : (fun (r : Option AV) (M' : AM) => r = some (vi (if aHave P n s = true then 1 else 0)) ∧ M' = M) = Q
  have loop : ∀ (r p : Nat), p + r = P → (∀ j, j < p → n ≤ dig s j) → AW G d mi_Wk_allHave Q 2 [some (vi s), some (vi n), some (vi P), some (vi p)] [] M := by
    intro r
    induction r with
    | zero =>
      intro p hp hall
      refine AW.run ck_Wk_allHave [18] 10 2 ?_
      simp only [wR, wB, wE0, wE1, wE2, wE3, g0, gS, s10, s11, s1S, s20, s21, s2S, kl0, kl1, kl2, kl3, sp0, sp1, sp2, sp3, cn1, cn2, cn3, cn4, cn5, cn6, jJa, lk0, lk1, jmS, jmN, s4_0, s4_1, s4_2, s4_3, s4_4, sw0, sw1, cKs, cKn, true_and, and_true, List.map_cons, List.map_nil, Nat.reduceAdd, Nat.zero_add, Int.reduceAdd, Nat.reduceEqDiff, reduceIte, Classical.not_not, b_Wk_allHave]
      subst hQ
      rw [if_pos (by unfold aHave; rw [decide_eq_true_eq]; intro j hj; exact hall j (by omega))]
      (repeat' (first | omega | exact ⟨by omega, by omega⟩ | (with_reducible exact Or.inr trivial) | (with_reducible exact Or.inl trivial) | (with_reducible assumption) | (with_reducible exact Same.refl) | (with_reducible rfl) | (with_reducible refine And.intro ?_ ?_) | (with_reducible intro _)))
    | succ r ih =>
      intro p hp hall
      refine AW.run ck_Wk_allHave [18] 10 2 ?_
      simp only [wR, wB, wE0, wE1, wE2, wE3, g0, gS, s10, s11, s1S, s20, s21, s2S, kl0, kl1, kl2, kl3, sp0, sp1, sp2, sp3, cn1, cn2, cn3, cn4, cn5, cn6, jJa, lk0, lk1, jmS, jmN, s4_0, s4_1, s4_2, s4_3, s4_4, sw0, sw1, cKs, cKn, true_and, and_true, List.map_cons, List.map_nil, Nat.reduceAdd, Nat.zero_add, Int.reduceAdd, Nat.reduceEqDiff, reduceIte, Classical.not_not, b_Wk_allHave]
      (repeat' (first | omega | exact ⟨by omega, by omega⟩ | (with_reducible exact Or.inr trivial) | (with_reducible exact Or.inl trivial) | (with_reducible assumption) | (with_reducible exact Same.refl) | (with_reducible rfl) | (with_reducible refine And.intro ?_ ?_) | (with_reducible intro _)))
      refine MS.to (c_St_strengthIn (by omega)) fun _ => ?_
      simp only [wR, wB, wE0, wE1, wE2, wE3, g0, gS, s10, s11, s1S, s20, s21, s2S, kl0, kl1, kl2, kl3, sp0, sp1, sp2, sp3, cn1, cn2, cn3, cn4, cn5, cn6, jJa, lk0, lk1, jmS, jmN, s4_0, s4_1, s4_2, s4_3, s4_4, sw0, sw1, cKs, cKn, true_and, and_true, List.map_cons, List.map_nil, Nat.reduceAdd, Nat.zero_add, Int.reduceAdd, Nat.reduceEqDiff, reduceIte, Classical.not_not, b_Wk_allHave]
      by_cases q : n ≤ dig s p
      · (repeat' (first | omega | exact ⟨by omega, by omega⟩ | (with_reducible exact Or.inr trivial) | (with_reducible exact Or.inl trivial) | (with_reducible assumption) | (with_reducible exact Same.refl) | (with_reducible rfl) | (with_reducible refine And.intro ?_ ?_) | (with_reducible intro _)))
        refine AW.run ck_Wk_allHave [2] 10 18 ?_
        simp only [wR, wB, wE0, wE1, wE2, wE3, g0, gS, s10, s11, s1S, s20, s21, s2S, kl0, kl1, kl2, kl3, sp0, sp1, sp2, sp3, cn1, cn2, cn3, cn4, cn5, cn6, jJa, lk0, lk1, jmS, jmN, s4_0, s4_1, s4_2, s4_3, s4_4, sw0, sw1, cKs, cKn, true_and, and_true, List.map_cons, List.map_nil, Nat.reduceAdd, Nat.zero_add, Int.reduceAdd, Nat.reduceEqDiff, reduceIte, Classical.not_not, b_Wk_allHave, ce]
        (repeat' (first | omega | exact ⟨by omega, by omega⟩ | (with_reducible exact Or.inr trivial) | (with_reducible exact Or.inl trivial) | (with_reducible assumption) | (with_reducible exact Same.refl) | (with_reducible rfl) | (with_reducible refine And.intro ?_ ?_) | (with_reducible intro _)))
        exact ih (p + 1) (by omega) (fun j hj => by
          by_cases e : j = p
          · rw [e]; exact q
          · exact hall j (by omega))
      · (repeat' (first | omega | exact ⟨by omega, by omega⟩ | (with_reducible exact Or.inr trivial) | (with_reducible exact Or.inl trivial) | (with_reducible assumption) | (with_reducible exact Same.refl) | (with_reducible rfl) | (with_reducible refine And.intro ?_ ?_) | (with_reducible intro _)))
        subst hQ
        rw [if_neg (by unfold aHave; rw [decide_eq_true_eq]; intro h; exact q (h p (by omega)))]
        exact ⟨rfl, rfl⟩
  refine AW.run ck_Wk_allHave [2] 10 0 ?_
  simp only [wR, wB, wE0, wE1, wE2, wE3, g0, gS, s10, s11, s1S, s20, s21, s2S, kl0, kl1, kl2, kl3, sp0, sp1, sp2, sp3, cn1, cn2, cn3, cn4, cn5, cn6, jJa, lk0, lk1, jmS, jmN, s4_0, s4_1, s4_2, s4_3, s4_4, sw0, sw1, cKs, cKn, true_and, and_true, List.map_cons, List.map_nil, Nat.reduceAdd, Nat.zero_add, Int.reduceAdd, Nat.reduceEqDiff, reduceIte, Classical.not_not, b_Wk_allHave]
  exact loop P 0 (by omega) (fun j hj => absurd hj (by omega))
theorem exW_all {ok : Nat → Nat → Bool} {nx : Nat → Nat → Nat} {s : Nat} {w : WS} {R : Nat → Nat → Prop} (h0 : ∀ x, x ∈ w.l → R x (w.fr x)) : ∀ n, (∀ set, set < n → ok s set = true → R (nx s set) (w.fr s + 1)) → ∀ x, x ∈ (exW ok nx s n w).l → R x ((exW ok nx s n w).fr x)
  | 0, _, x, hx => h0 x hx
  | n + 1, h1, x, hx => by
    have ih := exW_all (ok := ok) (nx := nx) (s := s) h0 n (fun set hs => h1 set (by omega))
    simp only [exW] at hx ⊢
    split at hx
    · next q =>
      rw [if_pos q]
      rw [addW_l] at hx
      by_cases e : x ∈ (exW ok nx s n w).l
      · rw [(addW_fr e).1]; exact ih x e
      · have ex : x = nx s n := (addL_mem.mp hx).elim (fun a => absurd a e) id
        subst ex
        rw [(addW_new e).1]
        exact h1 n (by omega) q
    · next q =>
      rw [if_neg q]
      exact ih x hx
def w0 (s : Nat) : WS := mkW [s] (fun _ => 0) (fun _ => 0)
set_option maxRecDepth 20000 in
theorem c_Wk_spread {h : Hl} {sd : Nat → Nat} {cold s0 : Nat} {n : Int} {both : Bool} {I : Nat → WS → Prop} {goal : Nat → Bool} (hd : 8 ≤ d) (ok : HlOK h) (hS : StOK M h sd cold (2 ^ h.P - 1)) (hs0 : s0 < 5 ^ h.P) (hg : (n = -1 ∧ ∀ s, goal s = false) ∨ ∃ k : Nat, n = k ∧ ∀ s, goal s = aHave h.P k s) (hI0 : I 0 (w0 s0)) (hIs : ∀ i w, I i w → i < w.l.length → goal (w.l.getD i 0) = false → I (i + 1) (exW (okA h sd cold both) (nxt h sd cold) (w.l.getD i 0) (2 ^ h.P) w)) :
    MS G d mi_Wk_spread [vr 49, vr 33, vi s0, vi n, vi (if both = true then 1 else 0)] M (fun r M' => r = none ∧ (∃ i w, I i w ∧ WK M' w ∧ (∀ s, s ∈ w.l → s < 5 ^ h.P) ∧ ((i < w.l.length ∧ goal (w.l.getD i 0) = true ∧ M' 49 4 = w.l.getD i 0) ∨ (i = w.l.length ∧ M' 49 4 = -1))) ∧ StOK M' h sd cold (2 ^ h.P - 1) ∧ Same [33, 49, 50, 51, 52] M M') := by
  have hP := ok.1
  have h5 := p5 hP
  refine MS.by ck_Wk_spread [some (vr 49), some (vr 33), some (vi s0), some (vi n), some (vi (if both = true then 1 else 0)), none, none] fun _ _ => ?_
  generalize hQ : (fun (r : Option AV) (M' : AM) => r = none ∧ (∃ i w, I i w ∧ WK M' w ∧ (∀ s, s ∈ w.l → s < 5 ^ h.P) ∧ ((i < w.l.length ∧ goal (w.l.getD i 0) = true ∧ M' 49 4 = w.l.getD i 0) ∨ (i = w.l.length ∧ M' 49 4 = -1))) ∧ StOK M' h sd cold (2 ^ h.P - 1) ∧ Same [33, 49, 50, 51, 52] M M') = Q
  have loop : ∀ (r i : Nat) (w : WS) (N : AM) (l6 : Option AV), i + r = 3126 → i ≤ w.l.length → I i w → WK N w → (∀ x, x ∈ w.l → x < 5 ^ h.P ∧ w.fr x ≤ i) → StOK N h sd cold (2 ^ h.P - 1) → N 49 4 = -1 → Same [33, 49, 50, 51, 52] M N → AW G d mi_Wk_spread Q 28 [some (vr 49), some (vr 33), some (vi s0), some (vi n), some (vi (if both = true then 1 else 0)), some (vi i), l6] [] N := by
    as_aux_lemma =>
      intro r
      induction r with
      | zero =>
        intro i w N l6 hr hi hIw hw
        have := len_lt hw.2.2.2.2.1 hw.2.2.2.2.2
        omega
      | succ r ih =>
        intro i w N l6 hr hi hIw hw hall hSN h4 hN
        have hlen := len_lt hw.2.2.2.2.1 hw.2.2.2.2.2
        by_cases q : i = w.l.length
        · refine AW.run ck_Wk_spread [79] 10 28 ?_
          simp only [wR, wB, wE0, wE1, wE2, wE3, g0, gS, s10, s11, s1S, s20, s21, s2S, kl0, kl1, kl2, kl3, sp0, sp1, sp2, sp3, cn1, cn2, cn3, cn4, cn5, cn6, jJa, lk0, lk1, jmS, jmN, s4_0, s4_1, s4_2, s4_3, s4_4, sw0, sw1, cKs, cKn, true_and, and_true, List.map_cons, List.map_nil, Nat.reduceAdd, Nat.zero_add, Int.reduceAdd, Nat.reduceEqDiff, reduceIte, Classical.not_not, b_Wk_spread, shWk, hw.1]
          subst hQ
          (repeat' (first | omega | exact ⟨by omega, by omega⟩ | (with_reducible exact Or.inr trivial) | (with_reducible exact Or.inl trivial) | (with_reducible assumption) | (with_reducible exact Same.refl) | (with_reducible rfl) | (with_reducible refine And.intro ?_ ?_) | (with_reducible intro _)))
          exact ⟨i, w, hIw, hw, fun x hx => (hall x hx).1, Or.inr ⟨q, h4⟩⟩
        · have hil : i < w.l.length := by omega
          have ei := hw.2.1 i hil
          have hm := getD_mem hil
          obtain ⟨hx5, hxf⟩ := hall _ hm
          generalize hsi : w.l.getD i 0 = s at ei hm hx5 hxf
          have a79 : goal s = false → AW G d mi_Wk_spread Q 79 [some (vr 49), some (vr 33), some (vi s0), some (vi n), some (vi (if both = true then 1 else 0)), some (vi i), some (vi s)] [] N := by
            intro hgs
            refine AW.run ck_Wk_spread [28] 10 79 ?_
            simp only [wR, wB, wE0, wE1, wE2, wE3, g0, gS, s10, s11, s1S, s20, s21, s2S, kl0, kl1, kl2, kl3, sp0, sp1, sp2, sp3, cn1, cn2, cn3, cn4, cn5, cn6, jJa, lk0, lk1, jmS, jmN, s4_0, s4_1, s4_2, s4_3, s4_4, sw0, sw1, cKs, cKn, true_and, and_true, List.map_cons, List.map_nil, Nat.reduceAdd, Nat.zero_add, Int.reduceAdd, Nat.reduceEqDiff, reduceIte, Classical.not_not, b_Wk_spread, shSt]
            refine ⟨by omega, (c_St_standAt ok hSN hx5).mono ?_⟩
            rintro r' M1 okM1 ⟨rfl, u1, u2⟩
            simp only [wR, wB, wE0, wE1, wE2, wE3, g0, gS, s10, s11, s1S, s20, s21, s2S, kl0, kl1, kl2, kl3, sp0, sp1, sp2, sp3, cn1, cn2, cn3, cn4, cn5, cn6, jJa, lk0, lk1, jmS, jmN, s4_0, s4_1, s4_2, s4_3, s4_4, sw0, sw1, cKs, cKn, true_and, and_true, List.map_cons, List.map_nil, Nat.reduceAdd, Nat.zero_add, Int.reduceAdd, Nat.reduceEqDiff, reduceIte, Classical.not_not, b_Wk_spread, shWk]
            have hw1 : WK M1 w := hw.eq (u2.at 49 _ (by (first | decide | (simp only [List.mem_cons, List.not_mem_nil, or_false, not_or, not_false_eq_true, and_true]; omega) | (simp [List.mem_cons]; done)))) (u2 50 (by (first | decide | (simp only [List.mem_cons, List.not_mem_nil, or_false, not_or, not_false_eq_true, and_true]; omega) | (simp [List.mem_cons]; done)))) (u2 51 (by (first | decide | (simp only [List.mem_cons, List.not_mem_nil, or_false, not_or, not_false_eq_true, and_true]; omega) | (simp [List.mem_cons]; done)))) (u2 52 (by (first | decide | (simp only [List.mem_cons, List.not_mem_nil, or_false, not_or, not_false_eq_true, and_true]; omega) | (simp [List.mem_cons]; done))))
            refine ⟨by omega, (c_Wk_spreadFrom (d := d - 1) (both := both) (by omega) ok u1 hw1 hm (by omega)).mono ?_⟩
            rintro r' M2 okM2 ⟨rfl, v1, v2, v3, v4⟩
            simp only [wR, wB, wE0, wE1, wE2, wE3, g0, gS, s10, s11, s1S, s20, s21, s2S, kl0, kl1, kl2, kl3, sp0, sp1, sp2, sp3, cn1, cn2, cn3, cn4, cn5, cn6, jJa, lk0, lk1, jmS, jmN, s4_0, s4_1, s4_2, s4_3, s4_4, sw0, sw1, cKs, cKn, true_and, and_true, List.map_cons, List.map_nil, Nat.reduceAdd, Nat.zero_add, Int.reduceAdd, Nat.reduceEqDiff, reduceIte, Classical.not_not, b_Wk_spread, ce]
            (repeat' (first | omega | exact ⟨by omega, by omega⟩ | (with_reducible exact Or.inr trivial) | (with_reducible exact Or.inl trivial) | (with_reducible assumption) | (with_reducible exact Same.refl) | (with_reducible rfl) | (with_reducible refine And.intro ?_ ?_) | (with_reducible intro _)))
            have hpre := (exW_pre (ok := okA h sd cold both) (nx := nxt h sd cold) (s := s) (w := w) (2 ^ h.P)).1.1
            refine ih (i + 1) _ M2 _ (by omega) (by omega) (by rw [← hsi]; exact hIs i w hIw hil (by rw [hsi]; exact hgs)) v1 ?_ v2.1 (by rw [v4 4 (by omega), u2.at 49 _ (by (first | decide | (simp only [List.mem_cons, List.not_mem_nil, or_false, not_or, not_false_eq_true, and_true]; omega) | (simp [List.mem_cons]; done)))]; exact h4) ((hN.trans (u2.mono (by simp))).trans (v3.mono (by simp)))
            exact exW_all (R := fun x f => x < 5 ^ h.P ∧ f ≤ i + 1) (fun x hx => ⟨(hall x hx).1, by have := (hall x hx).2; omega⟩) (2 ^ h.P) (fun set _ _ => ⟨by
              have := codT_lt (f := fun p => tired h sd cold set p (dig s p)) h.P 0 (fun p _ _ => tired_le _ _ _ _ _ _)
              exact this, by omega⟩)
          refine AW.run ck_Wk_spread [79] 10 28 ?_
          simp only [wR, wB, wE0, wE1, wE2, wE3, g0, gS, s10, s11, s1S, s20, s21, s2S, kl0, kl1, kl2, kl3, sp0, sp1, sp2, sp3, cn1, cn2, cn3, cn4, cn5, cn6, jJa, lk0, lk1, jmS, jmN, s4_0, s4_1, s4_2, s4_3, s4_4, sw0, sw1, cKs, cKn, true_and, and_true, List.map_cons, List.map_nil, Nat.reduceAdd, Nat.zero_add, Int.reduceAdd, Nat.reduceEqDiff, reduceIte, Classical.not_not, b_Wk_spread, shWk, hw.1, ei]
          rcases hg with ⟨rfl, hgf⟩ | ⟨k, rfl, hgk⟩
          · have := a79 (hgf s)
            (repeat' (first | omega | exact ⟨by omega, by omega⟩ | (with_reducible exact Or.inr trivial) | (with_reducible exact Or.inl trivial) | (with_reducible assumption) | (with_reducible exact Same.refl) | (with_reducible rfl) | (with_reducible refine And.intro ?_ ?_) | (with_reducible intro _)))
          · have e1 : N 33 1 = h.P := hSN.2.2.1.1
            simp only [wR, wB, wE0, wE1, wE2, wE3, g0, gS, s10, s11, s1S, s20, s21, s2S, kl0, kl1, kl2, kl3, sp0, sp1, sp2, sp3, cn1, cn2, cn3, cn4, cn5, cn6, jJa, lk0, lk1, jmS, jmN, s4_0, s4_1, s4_2, s4_3, s4_4, sw0, sw1, cKs, cKn, true_and, and_true, List.map_cons, List.map_nil, Nat.reduceAdd, Nat.zero_add, Int.reduceAdd, Nat.reduceEqDiff, reduceIte, Classical.not_not, b_Wk_spread, shSt, e1]
            (repeat' (first | omega | exact ⟨by omega, by omega⟩ | (with_reducible exact Or.inr trivial) | (with_reducible exact Or.inl trivial) | (with_reducible assumption) | (with_reducible exact Same.refl) | (with_reducible rfl) | (with_reducible refine And.intro ?_ ?_) | (with_reducible intro _)))
            refine MS.to (c_Wk_allHave (d := d - 1) (by omega) hP) fun _ => ?_
            rw [← hgk s]
            simp only [wR, wB, wE0, wE1, wE2, wE3, g0, gS, s10, s11, s1S, s20, s21, s2S, kl0, kl1, kl2, kl3, sp0, sp1, sp2, sp3, cn1, cn2, cn3, cn4, cn5, cn6, jJa, lk0, lk1, jmS, jmN, s4_0, s4_1, s4_2, s4_3, s4_4, sw0, sw1, cKs, cKn, true_and, and_true, List.map_cons, List.map_nil, Nat.reduceAdd, Nat.zero_add, Int.reduceAdd, Nat.reduceEqDiff, reduceIte, Classical.not_not, b_Wk_spread, shWk]
            cases hgs : goal s with
            | false =>
              have := a79 hgs
              simp only [Bool.false_eq_true, if_false, Int.reduceEq, not_false_eq_true, not_true_eq_false, true_imp_iff, false_imp_iff, true_and, and_true]
              exact this
            | true =>
              simp only [if_true, Int.reduceEq, not_false_eq_true, not_true_eq_false, true_imp_iff, false_imp_iff, true_and, and_true]
              subst hQ
              refine ⟨rfl, ⟨i, w, hIw, hw.eq (up_ne2 (by omega)) (by funext y; exact up_ne1 (by omega)) (by funext y; exact up_ne1 (by omega)) (by funext y; exact up_ne1 (by omega)), fun x hx => (hall x hx).1, Or.inl ⟨hil, by rw [hsi]; exact hgs, by rw [up_eq, hsi]⟩⟩, hSN.same (ps := [49]) (Same.refl.up (by simp)) (fun x h1 h2 => by (first | decide | (simp only [List.mem_cons, List.not_mem_nil, or_false, not_or, not_false_eq_true, and_true]; omega) | (simp [List.mem_cons]; done))), hN.up (by simp)⟩
  refine AW.run ck_Wk_spread [28] 10 0 ?_
  simp only [wR, wB, wE0, wE1, wE2, wE3, g0, gS, s10, s11, s1S, s20, s21, s2S, kl0, kl1, kl2, kl3, sp0, sp1, sp2, sp3, cn1, cn2, cn3, cn4, cn5, cn6, jJa, lk0, lk1, jmS, jmN, s4_0, s4_1, s4_2, s4_3, s4_4, sw0, sw1, cKs, cKn, true_and, and_true, List.map_cons, List.map_nil, Nat.reduceAdd, Nat.zero_add, Int.reduceAdd, Nat.reduceEqDiff, reduceIte, Classical.not_not, b_Wk_spread, shWk]
  refine ⟨by omega, MS.to (c_JA_fill2 shWk.2.2.1.1) fun _ => ?_⟩
  rw [shWk.2.2.1.2]
  simp only [wR, wB, wE0, wE1, wE2, wE3, g0, gS, s10, s11, s1S, s20, s21, s2S, kl0, kl1, kl2, kl3, sp0, sp1, sp2, sp3, cn1, cn2, cn3, cn4, cn5, cn6, jJa, lk0, lk1, jmS, jmN, s4_0, s4_1, s4_2, s4_3, s4_4, sw0, sw1, cKs, cKn, true_and, and_true, List.map_cons, List.map_nil, Nat.reduceAdd, Nat.zero_add, Int.reduceAdd, Nat.reduceEqDiff, reduceIte, Classical.not_not, b_Wk_spread, shWk]
  have hs3 : s0 < 3125 := by omega
  refine ⟨by omega, (c_Wk_reach (hrs := 0) (way := 0) (w := mkW [] (fun _ => 0) (fun _ => 0)) ⟨by rw [up_ne2 (by omega), up_eq]; rfl, fun j hj => absurd hj (Nat.not_lt_zero _), fun x hx => ?_, fun x hx => absurd hx (List.not_mem_nil), List.nodup_nil, fun x hx => absurd hx (List.not_mem_nil)⟩ hs3 (by omega) (by omega)).mono ?_⟩
  · rw [up_ne1 (by omega), up_ne1 (by omega), if_neg (show ¬ x ∈ (mkW [] (fun _ => 0) (fun _ => 0)).l from List.not_mem_nil)]
    unfold fil
    rw [if_pos (by omega)]
  rintro r' M1 okM1 ⟨rfl, u1, u2, u3⟩
  have ew : addW (mkW [] (fun _ => 0) (fun _ => 0)) s0 0 0 = w0 s0 := by
    unfold addW w0
    rw [if_neg (show ¬ s0 ∈ (mkW [] (fun _ => 0) (fun _ => 0)).l from List.not_mem_nil)]
    show mkW ([] ++ [s0]) _ _ = _
    congr 1
    · funext x; by_cases q : x = s0 <;> simp [q]; rfl
    · funext x; by_cases q : x = s0 <;> simp [q]; rfl
  rw [ew] at u1
  simp only [wR, wB, wE0, wE1, wE2, wE3, g0, gS, s10, s11, s1S, s20, s21, s2S, kl0, kl1, kl2, kl3, sp0, sp1, sp2, sp3, cn1, cn2, cn3, cn4, cn5, cn6, jJa, lk0, lk1, jmS, jmN, s4_0, s4_1, s4_2, s4_3, s4_4, sw0, sw1, cKs, cKn, true_and, and_true, List.map_cons, List.map_nil, Nat.reduceAdd, Nat.zero_add, Int.reduceAdd, Nat.reduceEqDiff, reduceIte, Classical.not_not, b_Wk_spread]
  have hsm : Same [33, 49, 50, 51, 52] M M1 := by
    refine Same.trans (N := up (up (fil M 51 0 3125 (-1)) 49 1 0) 49 4 (-1)) ?_ (u2.mono (by simp))
    refine (Same.up (Same.up ?_ (by simp)) (by simp))
    intro x hx
    simp only [List.mem_cons, List.not_mem_nil, or_false, not_or] at hx
    funext y
    unfold fil
    rw [if_neg (by omega)]
  refine loop 3126 0 (w0 s0) M1 _ (by omega) (by omega) hI0 u1 (fun x hx => ?_) ?_ (by rw [u3 4 (by omega), up_eq]) hsm
  · have : x = s0 := by simpa [w0, mkW, WS.l] using hx
    exact ⟨by rw [this]; exact hs0, Nat.le_refl _⟩
  · refine hS.same (ps := [49, 50, 51, 52]) ?_ (fun x h1 h2 => by (first | decide | (simp only [List.mem_cons, List.not_mem_nil, or_false, not_or, not_false_eq_true, and_true]; omega) | (simp [List.mem_cons]; done)))
    refine Same.trans (N := up (up (fil M 51 0 3125 (-1)) 49 1 0) 49 4 (-1)) ?_ u2
    refine (Same.up (Same.up ?_ (by simp)) (by simp))
    intro x hx
    simp only [List.mem_cons, List.not_mem_nil, or_false, not_or] at hx
    funext y
    unfold fil
    rw [if_neg (by omega)]
end WB
