/-! Steps: what an hour with each set makes of each state -/
def prt (h : Hl) (sd : Nat → Nat) (cold set p str : Nat) : Nat := if str = 0 ∧ set / 2 ^ p % 2 = 1 then 0 else tired h sd cold set p str
theorem prt_le (h : Hl) (sd : Nat → Nat) (cold set p str : Nat) : prt h sd cold set p str ≤ 4 := by
  unfold prt
  split
  · omega
  · exact tired_le _ _ _ _ _ _
/-- the first n rows (of person and strength) of parts and of counts -/
def PT (M : AM) (h : Hl) (sd : Nat → Nat) (cold n : Nat) : Prop := ∀ row : Nat, row < n → (M 36 (row : Int) = if cnts h sd cold (row / 5) (row % 5) = true then 1 else 0) ∧ ∀ set : Nat, set < 2 ^ h.P → M 35 ((row : Int) * 32 + set) = prt h sd cold set (row / 5) (row % 5)
section ST
variable {G : AG} {d : Nat} {M : AM}
theorem c_St_fillParts {z : Int} {h : Hl} {sd : Nat → Nat} {cold : Nat} (hd : 4 ≤ d) (hz : isO z 2) (ok : HlOK h) (hC : CH M z h) (hsd : ∀ p, p < h.P → sd p ≤ 1) (hc : cold ≤ 9) (h1 : M 33 1 = h.P) (h2 : M 33 2 = ((2 ^ h.P : Nat) : Int)) (h10 : M 33 10 = ((sdB sd h.P : Nat) : Int)) (h11 : M 33 11 = cold) :
    MS G d mi_St_fillParts [vr 33, vr z] M (fun r M' => r = none ∧ PT M' h sd cold (5 * h.P) ∧ Same [35, 36, z + 7, z + 8] M M') := by
  have hP5 := ok.1
  have h32 := p2_32 hP5
  have hzz : z = 7 ∨ z = 16 ∨ z = 95 ∨ z = 106 := isO_Ha hz
  refine MS.by ck_St_fillParts [some (vr 33), some (vr z), none, none, none, none, none] fun _ _ => ?_
  generalize hQ : (fun (r : Option AV) (M' : AM) => r = none ∧ PT M' h sd cold (5 * h.P) ∧ Same [35, 36, z + 7, z + 8] M M') = Q
  -- the sets of a row
  have l48 : ∀ (p str : Nat) (N0 : AM), p < h.P → str < 5 → (∀ (N : AM) (l4 l5 l6 : Option AV), Same [35, 36, z + 7, z + 8] M N → PT N h sd cold (5 * p + str + 1) → AW G d mi_St_fillParts Q 125 [some (vr 33), some (vr z), some (vi p), some (vi str), l4, l5, l6] [] N) → ∀ (k set : Nat) (N : AM) (l6 : Option AV), set + k = 2 ^ h.P → Same [35, 36, z + 7, z + 8] M N → PT N h sd cold (5 * p + str) → (N 36 ((5 * p + str : Nat) : Int) = if cnts h sd cold p str = true then 1 else 0) → (∀ s : Nat, s < set → N 35 (((5 * p + str : Nat) : Int) * 32 + s) = prt h sd cold s p str) → AW G d mi_St_fillParts Q 48 [some (vr 33), some (vr z), some (vi p), some (vi str), some (vi ((5 * p + str : Nat) : Int)), some (vi set), l6] [] N := by
    as_aux_lemma =>
      intro p str N0 hp hstr next k
      induction k with
      | zero =>
        intro set N l6 hk hN hT hc1 hs1
        refine AW.run ck_St_fillParts [48, 125] 8 48 ?_
        simp only [wR, wB, wE0, wE1, wE2, wE3, g0, gS, s10, s11, s1S, s20, s21, s2S, kl0, kl1, kl2, kl3, sp0, sp1, sp2, sp3, cn1, cn2, cn3, cn4, cn5, cn6, jJa, lk0, lk1, jmS, jmN, s4_0, s4_1, s4_2, s4_3, s4_4, sw0, sw1, cKs, cKn, true_and, and_true, List.map_cons, List.map_nil, Nat.reduceAdd, Nat.zero_add, Int.reduceAdd, Nat.reduceEqDiff, reduceIte, Classical.not_not, b_St_fillParts, shSt, hN.at 33 _ (by (first | decide | (simp only [List.mem_cons, List.not_mem_nil, or_false, not_or, not_false_eq_true, and_true]; omega) | (simp [List.mem_cons]; done))), h2]
        (repeat' (first | omega | exact ⟨by omega, by omega⟩ | (with_reducible exact Or.inr trivial) | (with_reducible exact Or.inl trivial) | (with_reducible assumption) | (with_reducible exact Same.refl) | (with_reducible rfl) | (with_reducible refine And.intro ?_ ?_) | (with_reducible intro _)))
        refine next N _ _ _ hN ?_
        intro row hrow
        rcases Nat.lt_or_ge row (5 * p + str) with q | q
        · exact hT row q
        · obtain rfl : row = 5 * p + str := by omega
          rw [show (5 * p + str) / 5 = p by omega, show (5 * p + str) % 5 = str by omega]
          exact ⟨hc1, fun s hs => hs1 s (by omega)⟩
      | succ k ih =>
        intro set N l6 hk hN hT hc1 hs1
        have hCN := hC.same hN (by (first | decide | (simp only [List.mem_cons, List.not_mem_nil, or_false, not_or, not_false_eq_true, and_true]; omega) | (simp [List.mem_cons]; done))) (by (first | decide | (simp only [List.mem_cons, List.not_mem_nil, or_false, not_or, not_false_eq_true, and_true]; omega) | (simp [List.mem_cons]; done))) (by (first | decide | (simp only [List.mem_cons, List.not_mem_nil, or_false, not_or, not_false_eq_true, and_true]; omega) | (simp [List.mem_cons]; done))) (by (first | decide | (simp only [List.mem_cons, List.not_mem_nil, or_false, not_or, not_false_eq_true, and_true]; omega) | (simp [List.mem_cons]; done))) (by (first | decide | (simp only [List.mem_cons, List.not_mem_nil, or_false, not_or, not_false_eq_true, and_true]; omega) | (simp [List.mem_cons]; done))) (by (first | decide | (simp only [List.mem_cons, List.not_mem_nil, or_false, not_or, not_false_eq_true, and_true]; omega) | (simp [List.mem_cons]; done)))
        have hb2 : set / 2 ^ p % 2 < 2 := Nat.mod_lt _ (by omega)
        have a115 : ∀ (v : Nat) (N' : AM) (l6 : Option AV), v = prt h sd cold set p str → Same [z + 7, z + 8] N N' → AW G d mi_St_fillParts Q 115 [some (vr 33), some (vr z), some (vi p), some (vi str), some (vi ((5 * p + str : Nat) : Int)), some (vi set), l6] [vi v, vi (((5 * p + str : Nat) : Int) * 32 + set), vr 35] N' := by
          intro v N' l6 hv hs'
          have e35 : ∀ y, N' 35 y = N 35 y := fun y => hs'.at 35 y (by (first | decide | (simp only [List.mem_cons, List.not_mem_nil, or_false, not_or, not_false_eq_true, and_true]; omega) | (simp [List.mem_cons]; done)))
          have e36 : ∀ y, N' 36 y = N 36 y := fun y => hs'.at 36 y (by (first | decide | (simp only [List.mem_cons, List.not_mem_nil, or_false, not_or, not_false_eq_true, and_true]; omega) | (simp [List.mem_cons]; done)))
          refine AW.run ck_St_fillParts [48] 8 115 ?_
          simp only [wR, wB, wE0, wE1, wE2, wE3, g0, gS, s10, s11, s1S, s20, s21, s2S, kl0, kl1, kl2, kl3, sp0, sp1, sp2, sp3, cn1, cn2, cn3, cn4, cn5, cn6, jJa, lk0, lk1, jmS, jmN, s4_0, s4_1, s4_2, s4_3, s4_4, sw0, sw1, cKs, cKn, true_and, and_true, List.map_cons, List.map_nil, Nat.reduceAdd, Nat.zero_add, Int.reduceAdd, Nat.reduceEqDiff, reduceIte, Classical.not_not, b_St_fillParts, shSt, ce]
          (repeat' (first | omega | exact ⟨by omega, by omega⟩ | (with_reducible exact Or.inr trivial) | (with_reducible exact Or.inl trivial) | (with_reducible assumption) | (with_reducible exact Same.refl) | (with_reducible rfl) | (with_reducible refine And.intro ?_ ?_) | (with_reducible intro _)))
          refine ih (set + 1) _ _ (by omega) ((hN.trans (hs'.mono (by simp))).up (by simp)) ?_ ?_ ?_
          · intro row hrow
            refine ⟨?_, fun s hs => ?_⟩
            · rw [up_ne1 (by omega), e36]; exact (hT row hrow).1
            · rw [up_ne2 (by omega), e35]; exact (hT row hrow).2 s hs
          · rw [up_ne1 (by omega), e36]; exact hc1
          · intro s hs
            by_cases q : s = set
            · subst q; rw [up_eq, hv]
            · rw [up_ne2 (by omega), e35]; exact hs1 s (by omega)
        have a76 : ∀ x : Int, x = (if str = 0 ∧ set / 2 ^ p % 2 = 1 then 1 else 0) → AW G d mi_St_fillParts Q 76 [some (vr 33), some (vr z), some (vi p), some (vi str), some (vi ((5 * p + str : Nat) : Int)), some (vi set), l6] [vi x] N := by
          intro x hx
          refine AW.run ck_St_fillParts [115] 8 76 ?_
          simp only [wR, wB, wE0, wE1, wE2, wE3, g0, gS, s10, s11, s1S, s20, s21, s2S, kl0, kl1, kl2, kl3, sp0, sp1, sp2, sp3, cn1, cn2, cn3, cn4, cn5, cn6, jJa, lk0, lk1, jmS, jmN, s4_0, s4_1, s4_2, s4_3, s4_4, sw0, sw1, cKs, cKn, true_and, and_true, List.map_cons, List.map_nil, Nat.reduceAdd, Nat.zero_add, Int.reduceAdd, Nat.reduceEqDiff, reduceIte, Classical.not_not, b_St_fillParts, shSt, hN.at 33 _ (by (first | decide | (simp only [List.mem_cons, List.not_mem_nil, or_false, not_or, not_false_eq_true, and_true]; omega) | (simp [List.mem_cons]; done))), h10, h11]
          by_cases q : str = 0 ∧ set / 2 ^ p % 2 = 1
          · rw [if_pos q] at hx
            (repeat' (first | omega | exact ⟨by omega, by omega⟩ | (with_reducible exact Or.inr trivial) | (with_reducible exact Or.inl trivial) | (with_reducible assumption) | (with_reducible exact Same.refl) | (with_reducible rfl) | (with_reducible refine And.intro ?_ ?_) | (with_reducible intro _)))
            have := a115 0 N (some (vi x)) (by unfold prt; rw [if_pos q]) Same.refl
            exact this
          · rw [if_neg q] at hx
            (repeat' (first | omega | exact ⟨by omega, by omega⟩ | (with_reducible exact Or.inr trivial) | (with_reducible exact Or.inl trivial) | (with_reducible assumption) | (with_reducible exact Same.refl) | (with_reducible rfl) | (with_reducible refine And.intro ?_ ?_) | (with_reducible intro _)))
            refine (c_Ha_tiredTo (by omega) hz ok hCN hp hsd (by omega) hc (by omega)).mono ?_
            rintro r M' okM' ⟨rfl, hs2⟩
            simp only [wR, wB, wE0, wE1, wE2, wE3, g0, gS, s10, s11, s1S, s20, s21, s2S, kl0, kl1, kl2, kl3, sp0, sp1, sp2, sp3, cn1, cn2, cn3, cn4, cn5, cn6, jJa, lk0, lk1, jmS, jmN, s4_0, s4_1, s4_2, s4_3, s4_4, sw0, sw1, cKs, cKn, true_and, and_true, List.map_cons, List.map_nil, Nat.reduceAdd, Nat.zero_add, Int.reduceAdd, Nat.reduceEqDiff, reduceIte, Classical.not_not, b_St_fillParts]
            exact a115 _ M' _ (by unfold prt; rw [if_neg q]) hs2
        refine AW.run ck_St_fillParts [75, 76] 8 48 ?_
        simp only [wR, wB, wE0, wE1, wE2, wE3, g0, gS, s10, s11, s1S, s20, s21, s2S, kl0, kl1, kl2, kl3, sp0, sp1, sp2, sp3, cn1, cn2, cn3, cn4, cn5, cn6, jJa, lk0, lk1, jmS, jmN, s4_0, s4_1, s4_2, s4_3, s4_4, sw0, sw1, cKs, cKn, true_and, and_true, List.map_cons, List.map_nil, Nat.reduceAdd, Nat.zero_add, Int.reduceAdd, Nat.reduceEqDiff, reduceIte, Classical.not_not, b_St_fillParts, shSt, hN.at 33 _ (by (first | decide | (simp only [List.mem_cons, List.not_mem_nil, or_false, not_or, not_false_eq_true, and_true]; omega) | (simp [List.mem_cons]; done))), h2, bit_n (show set < 2 ^ 31 by omega) (show p < 32 by omega)]
        have a75 : ¬ (str = 0 ∧ set / 2 ^ p % 2 = 1) → AW G d mi_St_fillParts Q 75 [some (vr 33), some (vr z), some (vi p), some (vi str), some (vi ((5 * p + str : Nat) : Int)), some (vi set), l6] [] N := by
          intro q
          refine AW.run ck_St_fillParts [76] 8 75 ?_
          simp only [wR, wB, wE0, wE1, wE2, wE3, g0, gS, s10, s11, s1S, s20, s21, s2S, kl0, kl1, kl2, kl3, sp0, sp1, sp2, sp3, cn1, cn2, cn3, cn4, cn5, cn6, jJa, lk0, lk1, jmS, jmN, s4_0, s4_1, s4_2, s4_3, s4_4, sw0, sw1, cKs, cKn, true_and, and_true, List.map_cons, List.map_nil, Nat.reduceAdd, Nat.zero_add, Int.reduceAdd, Nat.reduceEqDiff, reduceIte, Classical.not_not, b_St_fillParts]
          exact a76 0 (by rw [if_neg q])
        (repeat' (first | omega | exact ⟨by omega, by omega⟩ | (with_reducible exact Or.inr trivial) | (with_reducible exact Or.inl trivial) | (with_reducible assumption) | (with_reducible exact Same.refl) | (with_reducible rfl) | (with_reducible refine And.intro ?_ ?_) | (with_reducible intro _)))
        all_goals first | exact a75 (by omega) | exact a76 1 (by rw [if_pos (by omega)])
  -- the strengths of a person
  have l12 : ∀ (p : Nat), p < h.P → (∀ (N : AM) (l3 l4 l5 l6 : Option AV), Same [35, 36, z + 7, z + 8] M N → PT N h sd cold (5 * (p + 1)) → AW G d mi_St_fillParts Q 132 [some (vr 33), some (vr z), some (vi p), l3, l4, l5, l6] [] N) → ∀ (k str : Nat) (N : AM) (l4 l5 l6 : Option AV), str + k = 5 → Same [35, 36, z + 7, z + 8] M N → PT N h sd cold (5 * p + str) → AW G d mi_St_fillParts Q 12 [some (vr 33), some (vr z), some (vi p), some (vi str), l4, l5, l6] [] N := by
    as_aux_lemma =>
      intro p hp next k
      induction k with
      | zero =>
        intro str N l4 l5 l6 hk hN hT
        refine AW.run ck_St_fillParts [132] 8 12 ?_
        simp only [wR, wB, wE0, wE1, wE2, wE3, g0, gS, s10, s11, s1S, s20, s21, s2S, kl0, kl1, kl2, kl3, sp0, sp1, sp2, sp3, cn1, cn2, cn3, cn4, cn5, cn6, jJa, lk0, lk1, jmS, jmN, s4_0, s4_1, s4_2, s4_3, s4_4, sw0, sw1, cKs, cKn, true_and, and_true, List.map_cons, List.map_nil, Nat.reduceAdd, Nat.zero_add, Int.reduceAdd, Nat.reduceEqDiff, reduceIte, Classical.not_not, b_St_fillParts]
        (repeat' (first | omega | exact ⟨by omega, by omega⟩ | (with_reducible exact Or.inr trivial) | (with_reducible exact Or.inl trivial) | (with_reducible assumption) | (with_reducible exact Same.refl) | (with_reducible rfl) | (with_reducible refine And.intro ?_ ?_) | (with_reducible intro _)))
        exact next N _ _ _ _ hN (by rw [show 5 * (p + 1) = 5 * p + str by omega]; exact hT)
      | succ k ih =>
        intro str N l4 l5 l6 hk hN hT
        have hCN := hC.same hN (by (first | decide | (simp only [List.mem_cons, List.not_mem_nil, or_false, not_or, not_false_eq_true, and_true]; omega) | (simp [List.mem_cons]; done))) (by (first | decide | (simp only [List.mem_cons, List.not_mem_nil, or_false, not_or, not_false_eq_true, and_true]; omega) | (simp [List.mem_cons]; done))) (by (first | decide | (simp only [List.mem_cons, List.not_mem_nil, or_false, not_or, not_false_eq_true, and_true]; omega) | (simp [List.mem_cons]; done))) (by (first | decide | (simp only [List.mem_cons, List.not_mem_nil, or_false, not_or, not_false_eq_true, and_true]; omega) | (simp [List.mem_cons]; done))) (by (first | decide | (simp only [List.mem_cons, List.not_mem_nil, or_false, not_or, not_false_eq_true, and_true]; omega) | (simp [List.mem_cons]; done))) (by (first | decide | (simp only [List.mem_cons, List.not_mem_nil, or_false, not_or, not_false_eq_true, and_true]; omega) | (simp [List.mem_cons]; done)))
        refine AW.run ck_St_fillParts [48] 8 12 ?_
        simp only [wR, wB, wE0, wE1, wE2, wE3, g0, gS, s10, s11, s1S, s20, s21, s2S, kl0, kl1, kl2, kl3, sp0, sp1, sp2, sp3, cn1, cn2, cn3, cn4, cn5, cn6, jJa, lk0, lk1, jmS, jmN, s4_0, s4_1, s4_2, s4_3, s4_4, sw0, sw1, cKs, cKn, true_and, and_true, List.map_cons, List.map_nil, Nat.reduceAdd, Nat.zero_add, Int.reduceAdd, Nat.reduceEqDiff, reduceIte, Classical.not_not, b_St_fillParts, shSt, hN.at 33 _ (by (first | decide | (simp only [List.mem_cons, List.not_mem_nil, or_false, not_or, not_false_eq_true, and_true]; omega) | (simp [List.mem_cons]; done))), h10, h11]
        (repeat' (first | omega | exact ⟨by omega, by omega⟩ | (with_reducible exact Or.inr trivial) | (with_reducible exact Or.inl trivial) | (with_reducible assumption) | (with_reducible exact Same.refl) | (with_reducible rfl) | (with_reducible refine And.intro ?_ ?_) | (with_reducible intro _)))
        refine (c_Ha_counting (by omega) hz ok hCN hp hsd (by omega) hc).mono ?_
        rintro r M' okM' ⟨rfl, hs2⟩
        simp only [wR, wB, wE0, wE1, wE2, wE3, g0, gS, s10, s11, s1S, s20, s21, s2S, kl0, kl1, kl2, kl3, sp0, sp1, sp2, sp3, cn1, cn2, cn3, cn4, cn5, cn6, jJa, lk0, lk1, jmS, jmN, s4_0, s4_1, s4_2, s4_3, s4_4, sw0, sw1, cKs, cKn, true_and, and_true, List.map_cons, List.map_nil, Nat.reduceAdd, Nat.zero_add, Int.reduceAdd, Nat.reduceEqDiff, reduceIte, Classical.not_not, b_St_fillParts, shSt]
        have er : ((p : Int) * 5 + (str : Int)) = ((5 * p + str : Nat) : Int) := by omega
        rw [er]
        have e35 : ∀ y, M' 35 y = N 35 y := fun y => hs2.at 35 y (by (first | decide | (simp only [List.mem_cons, List.not_mem_nil, or_false, not_or, not_false_eq_true, and_true]; omega) | (simp [List.mem_cons]; done)))
        have e36 : ∀ y, M' 36 y = N 36 y := fun y => hs2.at 36 y (by (first | decide | (simp only [List.mem_cons, List.not_mem_nil, or_false, not_or, not_false_eq_true, and_true]; omega) | (simp [List.mem_cons]; done)))
        (repeat' (first | omega | exact ⟨by omega, by omega⟩ | (with_reducible exact Or.inr trivial) | (with_reducible exact Or.inl trivial) | (with_reducible assumption) | (with_reducible exact Same.refl) | (with_reducible rfl) | (with_reducible refine And.intro ?_ ?_) | (with_reducible intro _)))
        · have eb : bAnd (if cnts h sd cold p str = true then 1 else 0) 1 = (if cnts h sd cold p str = true then 1 else 0) := by split <;> decide +kernel
          refine l48 p str M hp (by omega) ?_ (2 ^ h.P) 0 _ _ (by omega) ((hN.trans (hs2.mono (by simp))).up (by simp)) ?_ (by rw [up_eq]) (fun s hs => absurd hs (by omega))
          · intro N' l4 l5 l6 hN' hT'
            refine AW.run ck_St_fillParts [12] 8 125 ?_
            simp only [wR, wB, wE0, wE1, wE2, wE3, g0, gS, s10, s11, s1S, s20, s21, s2S, kl0, kl1, kl2, kl3, sp0, sp1, sp2, sp3, cn1, cn2, cn3, cn4, cn5, cn6, jJa, lk0, lk1, jmS, jmN, s4_0, s4_1, s4_2, s4_3, s4_4, sw0, sw1, cKs, cKn, true_and, and_true, List.map_cons, List.map_nil, Nat.reduceAdd, Nat.zero_add, Int.reduceAdd, Nat.reduceEqDiff, reduceIte, Classical.not_not, b_St_fillParts, ce]
            (repeat' (first | omega | exact ⟨by omega, by omega⟩ | (with_reducible exact Or.inr trivial) | (with_reducible exact Or.inl trivial) | (with_reducible assumption) | (with_reducible exact Same.refl) | (with_reducible rfl) | (with_reducible refine And.intro ?_ ?_) | (with_reducible intro _)))
            exact ih (str + 1) N' _ _ _ (by omega) hN' hT'
          · intro row hrow
            refine ⟨?_, fun s hs => ?_⟩
            · rw [up_ne2 (by omega), e36]; exact (hT row hrow).1
            · rw [up_ne1 (by omega), e35]; exact (hT row hrow).2 s hs
  have l2 : ∀ (k p : Nat) (N : AM) (l3 l4 l5 l6 : Option AV), p + k = h.P → Same [35, 36, z + 7, z + 8] M N → PT N h sd cold (5 * p) → AW G d mi_St_fillParts Q 2 [some (vr 33), some (vr z), some (vi p), l3, l4, l5, l6] [] N := by
    intro k
    induction k with
    | zero =>
      intro p N l3 l4 l5 l6 hk hN hT
      refine AW.run ck_St_fillParts [2] 8 2 ?_
      simp only [wR, wB, wE0, wE1, wE2, wE3, g0, gS, s10, s11, s1S, s20, s21, s2S, kl0, kl1, kl2, kl3, sp0, sp1, sp2, sp3, cn1, cn2, cn3, cn4, cn5, cn6, jJa, lk0, lk1, jmS, jmN, s4_0, s4_1, s4_2, s4_3, s4_4, sw0, sw1, cKs, cKn, true_and, and_true, List.map_cons, List.map_nil, Nat.reduceAdd, Nat.zero_add, Int.reduceAdd, Nat.reduceEqDiff, reduceIte, Classical.not_not, b_St_fillParts, shSt, hN.at 33 _ (by (first | decide | (simp only [List.mem_cons, List.not_mem_nil, or_false, not_or, not_false_eq_true, and_true]; omega) | (simp [List.mem_cons]; done))), h1]
      subst hQ
      (repeat' (first | omega | exact ⟨by omega, by omega⟩ | (with_reducible exact Or.inr trivial) | (with_reducible exact Or.inl trivial) | (with_reducible assumption) | (with_reducible exact Same.refl) | (with_reducible rfl) | (with_reducible refine And.intro ?_ ?_) | (with_reducible intro _)))
      rw [show h.P = p by omega]
      exact hT
    | succ k ih =>
      intro p N l3 l4 l5 l6 hk hN hT
      refine AW.run ck_St_fillParts [12] 8 2 ?_
      simp only [wR, wB, wE0, wE1, wE2, wE3, g0, gS, s10, s11, s1S, s20, s21, s2S, kl0, kl1, kl2, kl3, sp0, sp1, sp2, sp3, cn1, cn2, cn3, cn4, cn5, cn6, jJa, lk0, lk1, jmS, jmN, s4_0, s4_1, s4_2, s4_3, s4_4, sw0, sw1, cKs, cKn, true_and, and_true, List.map_cons, List.map_nil, Nat.reduceAdd, Nat.zero_add, Int.reduceAdd, Nat.reduceEqDiff, reduceIte, Classical.not_not, b_St_fillParts, shSt, hN.at 33 _ (by (first | decide | (simp only [List.mem_cons, List.not_mem_nil, or_false, not_or, not_false_eq_true, and_true]; omega) | (simp [List.mem_cons]; done))), h1]
      (repeat' (first | omega | exact ⟨by omega, by omega⟩ | (with_reducible exact Or.inr trivial) | (with_reducible exact Or.inl trivial) | (with_reducible assumption) | (with_reducible exact Same.refl) | (with_reducible rfl) | (with_reducible refine And.intro ?_ ?_) | (with_reducible intro _)))
      refine l12 p (by omega) ?_ 5 0 N _ _ _ (by omega) hN hT
      intro N' l3 l4 l5 l6 hN' hT'
      refine AW.run ck_St_fillParts [2] 8 132 ?_
      simp only [wR, wB, wE0, wE1, wE2, wE3, g0, gS, s10, s11, s1S, s20, s21, s2S, kl0, kl1, kl2, kl3, sp0, sp1, sp2, sp3, cn1, cn2, cn3, cn4, cn5, cn6, jJa, lk0, lk1, jmS, jmN, s4_0, s4_1, s4_2, s4_3, s4_4, sw0, sw1, cKs, cKn, true_and, and_true, List.map_cons, List.map_nil, Nat.reduceAdd, Nat.zero_add, Int.reduceAdd, Nat.reduceEqDiff, reduceIte, Classical.not_not, b_St_fillParts, ce]
      (repeat' (first | omega | exact ⟨by omega, by omega⟩ | (with_reducible exact Or.inr trivial) | (with_reducible exact Or.inl trivial) | (with_reducible assumption) | (with_reducible exact Same.refl) | (with_reducible rfl) | (with_reducible refine And.intro ?_ ?_) | (with_reducible intro _)))
      exact ih (p + 1) N' _ _ _ _ (by omega) hN' hT'
  refine AW.run ck_St_fillParts [2] 8 0 ?_
  simp only [wR, wB, wE0, wE1, wE2, wE3, g0, gS, s10, s11, s1S, s20, s21, s2S, kl0, kl1, kl2, kl3, sp0, sp1, sp2, sp3, cn1, cn2, cn3, cn4, cn5, cn6, jJa, lk0, lk1, jmS, jmN, s4_0, s4_1, s4_2, s4_3, s4_4, sw0, sw1, cKs, cKn, true_and, and_true, List.map_cons, List.map_nil, Nat.reduceAdd, Nat.zero_add, Int.reduceAdd, Nat.reduceEqDiff, reduceIte, Classical.not_not, b_St_fillParts]
  exact l2 h.P 0 M _ _ _ _ (by omega) Same.refl (fun row hr => absurd hr (by omega))
end ST
