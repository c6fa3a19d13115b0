theorem HaMo {z mz : Int} (hz : isO z 2) (hm : isO mz 4) : mz + 1 ≠ z + 7 ∧ mz + 1 ≠ z + 8 ∧ mz ≠ z + 7 ∧ mz ≠ z + 8 ∧ z ≠ mz ∧ z ≠ mz + 1 ∧ z + 2 ≠ mz ∧ z + 2 ≠ mz + 1 ∧ z + 3 ≠ mz ∧ z + 3 ≠ mz + 1 ∧ z + 4 ≠ mz ∧ z + 4 ≠ mz + 1 ∧ z + 5 ≠ mz ∧ z + 5 ≠ mz + 1 ∧ z + 6 ≠ mz ∧ z + 6 ≠ mz + 1 := by
  rcases isO_Ha hz with rfl | rfl | rfl | rfl <;> rcases isO_Mo hm with rfl | rfl | rfl | rfl | rfl | rfl | rfl | rfl | rfl | rfl | rfl | rfl | rfl | rfl <;> decide
section CC
variable {G : AG} {d : Nat} {M : AM}
theorem c_Ha_tire {z mz : Int} {h : Hl} {m : Mo} {set : Nat} (hd : 4 ≤ d) (hz : isO z 2) (hm : isO mz 4) (ok : HlOK h) (hC : CH M z h) (mok : MoOK m) (hM : CM M mz h.P m) (hset : set < 32) (hh : m.hrs < 1000000000) :
    MS G d mi_Ha_tire [vr z, vr mz, vi set] M (fun r M' => (r = some (vi (if set &&& (31 ^^^ ablM h.P m.st) = 0 then 1 else 0))) ∧ (set &&& (31 ^^^ ablM h.P m.st) = 0 → CM M' mz h.P (hourM h m set)) ∧ (¬ set &&& (31 ^^^ ablM h.P m.st) = 0 → M' = M) ∧ Same [z + 7, z + 8, mz, mz + 1] M M') := by
  have hP5 := ok.1
  obtain ⟨n1, n2, n3, n4, n5, n6, n7, n8, n9, n10, n11, n12, n13, n14, n15, n16⟩ := HaMo hz hm
  have sm := sh_Mo hm
  have hsd : ∀ p, p < h.P → m.sd p ≤ 1 := fun p _ => (mok.1 p).1
  have hab := ablM_lt (st := m.st) hP5
  have hm0 : 0 ≤ mz := by obtain ⟨k, rfl, _⟩ := isO_at hm; omega
  refine MS.by ck_Ha_tire [some (vr z), some (vr mz), some (vi set), none, none] fun _ _ => ?_
  generalize hQ : (fun (r : Option AV) (M' : AM) => (r = some (vi (if set &&& (31 ^^^ ablM h.P m.st) = 0 then 1 else 0))) ∧ (set &&& (31 ^^^ ablM h.P m.st) = 0 → CM M' mz h.P (hourM h m set)) ∧ (¬ set &&& (31 ^^^ ablM h.P m.st) = 0 → M' = M) ∧ Same [z + 7, z + 8, mz, mz + 1] M M') = Q
  have loop : set &&& (31 ^^^ ablM h.P m.st) = 0 → ∀ (k i : Nat) (N : AM), i + k = h.P → Same [z + 7, z + 8, mz + 1] M N → (∀ p : Nat, p < 5 → N (mz + 1) (p : Int) = ((if p < i then tired h m.sd m.cold set p (m.st p) else if p < h.P then m.st p else 0 : Nat) : Int)) → AW G d mi_Ha_tire Q 21 [some (vr z), some (vr mz), some (vi set), some (vr (mz + 1)), some (vi i)] [] N := by
    intro hs0 k
    induction k with
    | zero =>
      intro i N hi hN hst
      have hCN := hC.same hN (by (first | decide | (simp only [List.mem_cons, List.not_mem_nil, or_false, not_or, not_false_eq_true, and_true]; omega) | (simp [List.mem_cons]; done))) (by (first | decide | (simp only [List.mem_cons, List.not_mem_nil, or_false, not_or, not_false_eq_true, and_true]; omega) | (simp [List.mem_cons]; done))) (by (first | decide | (simp only [List.mem_cons, List.not_mem_nil, or_false, not_or, not_false_eq_true, and_true]; omega) | (simp [List.mem_cons]; done))) (by (first | decide | (simp only [List.mem_cons, List.not_mem_nil, or_false, not_or, not_false_eq_true, and_true]; omega) | (simp [List.mem_cons]; done))) (by (first | decide | (simp only [List.mem_cons, List.not_mem_nil, or_false, not_or, not_false_eq_true, and_true]; omega) | (simp [List.mem_cons]; done))) (by (first | decide | (simp only [List.mem_cons, List.not_mem_nil, or_false, not_or, not_false_eq_true, and_true]; omega) | (simp [List.mem_cons]; done)))
      have em : ∀ y, N mz y = M mz y := fun y => hN.at mz y (by (first | decide | (simp only [List.mem_cons, List.not_mem_nil, or_false, not_or, not_false_eq_true, and_true]; omega) | (simp [List.mem_cons]; done)))
      refine AW.run ck_Ha_tire [21] 8 21 ?_
      simp only [wR, wB, wE0, wE1, wE2, wE3, g0, gS, s10, s11, s1S, s20, s21, s2S, kl0, kl1, kl2, kl3, sp0, sp1, sp2, sp3, cn1, cn2, cn3, cn4, cn5, cn6, jJa, lk0, lk1, jmS, jmN, s4_0, s4_1, s4_2, s4_3, s4_4, sw0, sw1, cKs, cKn, true_and, and_true, List.map_cons, List.map_nil, Nat.reduceAdd, Nat.zero_add, Int.reduceAdd, Nat.reduceEqDiff, reduceIte, Classical.not_not, b_Ha_tire, hz, hm, hCN.2.2.1, em, hM.2.2.1]
      subst hQ
      rw [if_pos hs0]
      (repeat' (first | omega | exact ⟨by omega, by omega⟩ | (with_reducible exact Or.inr trivial) | (with_reducible exact Or.inl trivial) | (with_reducible assumption) | (with_reducible exact Same.refl) | (with_reducible rfl) | (with_reducible refine And.intro ?_ ?_) | (with_reducible intro _)))
      · refine ⟨?_, ?_, ?_, ?_⟩
        · rw [up_ne2 (by omega), em]; exact hM.1
        · rw [up_ne2 (by omega), em]; exact hM.2.1
        · rw [up_eq]; rfl
        · intro p hp
          rw [up_ne1 (by omega), hst p hp]
          obtain rfl : i = h.P := by omega
          by_cases q : p < h.P
          · rw [if_pos q, if_pos q]; rfl
          · rw [if_neg q, if_neg q, if_neg q]
      · exact (hN.mono (by simp)).up (by simp)
    | succ k ih =>
      intro i N hi hN hst
      have hCN := hC.same hN (by (first | decide | (simp only [List.mem_cons, List.not_mem_nil, or_false, not_or, not_false_eq_true, and_true]; omega) | (simp [List.mem_cons]; done))) (by (first | decide | (simp only [List.mem_cons, List.not_mem_nil, or_false, not_or, not_false_eq_true, and_true]; omega) | (simp [List.mem_cons]; done))) (by (first | decide | (simp only [List.mem_cons, List.not_mem_nil, or_false, not_or, not_false_eq_true, and_true]; omega) | (simp [List.mem_cons]; done))) (by (first | decide | (simp only [List.mem_cons, List.not_mem_nil, or_false, not_or, not_false_eq_true, and_true]; omega) | (simp [List.mem_cons]; done))) (by (first | decide | (simp only [List.mem_cons, List.not_mem_nil, or_false, not_or, not_false_eq_true, and_true]; omega) | (simp [List.mem_cons]; done))) (by (first | decide | (simp only [List.mem_cons, List.not_mem_nil, or_false, not_or, not_false_eq_true, and_true]; omega) | (simp [List.mem_cons]; done)))
      have em : ∀ y, N mz y = M mz y := fun y => hN.at mz y (by (first | decide | (simp only [List.mem_cons, List.not_mem_nil, or_false, not_or, not_false_eq_true, and_true]; omega) | (simp [List.mem_cons]; done)))
      have ei := hst i (by omega)
      rw [if_neg (by omega), if_pos (by omega)] at ei
      refine AW.run ck_Ha_tire [21] 8 21 ?_
      simp only [wR, wB, wE0, wE1, wE2, wE3, g0, gS, s10, s11, s1S, s20, s21, s2S, kl0, kl1, kl2, kl3, sp0, sp1, sp2, sp3, cn1, cn2, cn3, cn4, cn5, cn6, jJa, lk0, lk1, jmS, jmN, s4_0, s4_1, s4_2, s4_3, s4_4, sw0, sw1, cKs, cKn, true_and, and_true, List.map_cons, List.map_nil, Nat.reduceAdd, Nat.zero_add, Int.reduceAdd, Nat.reduceEqDiff, reduceIte, Classical.not_not, b_Ha_tire, hz, hm, sm, hCN.2.2.1, em, hM.1, hM.2.1, ei]
      (repeat' (first | omega | exact ⟨by omega, by omega⟩ | (with_reducible exact Or.inr trivial) | (with_reducible exact Or.inl trivial) | (with_reducible assumption) | (with_reducible exact Same.refl) | (with_reducible rfl) | (with_reducible refine And.intro ?_ ?_) | (with_reducible intro _)))
      refine (c_Ha_tiredTo (by omega) hz ok hCN (show i < h.P by omega) hsd (mok.1 i).2 mok.2 hset).mono ?_
      rintro r M' okM' ⟨rfl, hs2⟩
      simp only [wR, wB, wE0, wE1, wE2, wE3, g0, gS, s10, s11, s1S, s20, s21, s2S, kl0, kl1, kl2, kl3, sp0, sp1, sp2, sp3, cn1, cn2, cn3, cn4, cn5, cn6, jJa, lk0, lk1, jmS, jmN, s4_0, s4_1, s4_2, s4_3, s4_4, sw0, sw1, cKs, cKn, true_and, and_true, List.map_cons, List.map_nil, Nat.reduceAdd, Nat.zero_add, Int.reduceAdd, Nat.reduceEqDiff, reduceIte, Classical.not_not, b_Ha_tire, hz, hm, sm, ce]
      (repeat' (first | omega | exact ⟨by omega, by omega⟩ | (with_reducible exact Or.inr trivial) | (with_reducible exact Or.inl trivial) | (with_reducible assumption) | (with_reducible exact Same.refl) | (with_reducible rfl) | (with_reducible refine And.intro ?_ ?_) | (with_reducible intro _)))
      refine ih (i + 1) _ (by omega) ((hN.trans (hs2.mono (by simp))).up (by simp)) ?_
      intro p hp
      by_cases q : p = i
      · subst q
        rw [up_eq, if_pos (by omega)]
      · rw [up_ne2 (by omega), hs2.at _ _ (by (first | decide | (simp only [List.mem_cons, List.not_mem_nil, or_false, not_or, not_false_eq_true, and_true]; omega) | (simp [List.mem_cons]; done))), hst p hp]
        by_cases q2 : p < i
        · rw [if_pos q2, if_pos (show p < i + 1 by omega)]
        · rw [if_neg q2, if_neg (show ¬ p < i + 1 by omega)]
  refine AW.run ck_Ha_tire [13] 8 0 ?_
  simp only [wR, wB, wE0, wE1, wE2, wE3, g0, gS, s10, s11, s1S, s20, s21, s2S, kl0, kl1, kl2, kl3, sp0, sp1, sp2, sp3, cn1, cn2, cn3, cn4, cn5, cn6, jJa, lk0, lk1, jmS, jmN, s4_0, s4_1, s4_2, s4_3, s4_4, sw0, sw1, cKs, cKn, true_and, and_true, List.map_cons, List.map_nil, Nat.reduceAdd, Nat.zero_add, Int.reduceAdd, Nat.reduceEqDiff, reduceIte, Classical.not_not, b_Ha_tire, hz, hm]
  refine ⟨by omega, MS.to (c_Mo_able hm) fun _ => ?_⟩
  rw [hM.able hP5]
  simp only [wR, wB, wE0, wE1, wE2, wE3, g0, gS, s10, s11, s1S, s20, s21, s2S, kl0, kl1, kl2, kl3, sp0, sp1, sp2, sp3, cn1, cn2, cn3, cn4, cn5, cn6, jJa, lk0, lk1, jmS, jmN, s4_0, s4_1, s4_2, s4_3, s4_4, sw0, sw1, cKs, cKn, true_and, and_true, List.map_cons, List.map_nil, Nat.reduceAdd, Nat.zero_add, Int.reduceAdd, Nat.reduceEqDiff, reduceIte, Classical.not_not, b_Ha_tire, hz, hm, bAndN_n hset hab]
  (repeat' (first | omega | exact ⟨by omega, by omega⟩ | (with_reducible exact Or.inr trivial) | (with_reducible exact Or.inl trivial) | (with_reducible assumption) | (with_reducible exact Same.refl) | (with_reducible rfl) | (with_reducible refine And.intro ?_ ?_) | (with_reducible intro _)))
  · refine AW.run ck_Ha_tire [21] 8 13 ?_
    simp only [wR, wB, wE0, wE1, wE2, wE3, g0, gS, s10, s11, s1S, s20, s21, s2S, kl0, kl1, kl2, kl3, sp0, sp1, sp2, sp3, cn1, cn2, cn3, cn4, cn5, cn6, jJa, lk0, lk1, jmS, jmN, s4_0, s4_1, s4_2, s4_3, s4_4, sw0, sw1, cKs, cKn, true_and, and_true, List.map_cons, List.map_nil, Nat.reduceAdd, Nat.zero_add, Int.reduceAdd, Nat.reduceEqDiff, reduceIte, Classical.not_not, b_Ha_tire, hz, hm, sm]
    (repeat' (first | omega | exact ⟨by omega, by omega⟩ | (with_reducible exact Or.inr trivial) | (with_reducible exact Or.inl trivial) | (with_reducible assumption) | (with_reducible exact Same.refl) | (with_reducible rfl) | (with_reducible refine And.intro ?_ ?_) | (with_reducible intro _)))
    refine loop (by omega) h.P 0 M (by omega) Same.refl ?_
    intro p hp
    rw [hM.2.2.2 p hp, if_neg (show ¬ p < 0 by omega)]
  · subst hQ
    rw [if_neg (by omega)]
    (repeat' (first | omega | exact ⟨by omega, by omega⟩ | (with_reducible exact Or.inr trivial) | (with_reducible exact Or.inl trivial) | (with_reducible assumption) | (with_reducible exact Same.refl) | (with_reducible rfl) | (with_reducible refine And.intro ?_ ?_) | (with_reducible intro _)))
theorem c_La_copy {z o : Int} {n : Nat} {code : Nat → Int} (hd : 1 ≤ d) (hz : isO z 3) (ho : isO o 3) (hn : n ≤ 900) (hL : CLaw M o n code) : MS G d mi_La_copy [vr z, vr o] M (fun r M' => r = none ∧ CLaw M' z n code ∧ Same [z, z + 1] M M') := by
  have sz := sh_La hz
  have so := sh_La ho
  have e1 := isO_arT hz so.1
  have e2 := isO_arT hz sz.1
  refine MS.run ck_La_copy [some (vr z), some (vr o)] [] 20 fun _ _ => ?_
  simp only [wR, wB, wE0, wE1, wE2, wE3, g0, gS, s10, s11, s1S, s20, s21, s2S, kl0, kl1, kl2, kl3, sp0, sp1, sp2, sp3, cn1, cn2, cn3, cn4, cn5, cn6, jJa, lk0, lk1, jmS, jmN, s4_0, s4_1, s4_2, s4_3, s4_4, sw0, sw1, cKs, cKn, true_and, and_true, List.map_cons, List.map_nil, Nat.reduceAdd, Nat.zero_add, Int.reduceAdd, Nat.reduceEqDiff, reduceIte, Classical.not_not, b_La_copy, hz, ho, sz, so, isArr_of sz.1, hL.1]
  rw [if_neg (by omega), up_eq]
  (repeat' (first | omega | exact ⟨by omega, by omega⟩ | (with_reducible exact Or.inr trivial) | (with_reducible exact Or.inl trivial) | (with_reducible assumption) | (with_reducible exact Same.refl) | (with_reducible rfl) | (with_reducible refine And.intro ?_ ?_) | (with_reducible intro _)))
  · refine ⟨?_, fun k hk => ?_⟩
    · unfold cpy
      rw [if_neg (by omega), up_eq]
    · unfold cpy
      rw [if_pos (by omega), up_ne1 (by omega), show (0 : Int) + ((k : Int) - 0) = k by omega]
      exact hL.2 k hk
  · intro x hx
    funext y
    simp only [List.mem_cons, List.not_mem_nil, or_false, not_or] at hx
    unfold cpy
    rw [if_neg (by omega), up_ne1 hx.1]
theorem c_Ha_copy {z o : Int} {h : Hl} (hd : 2 ≤ d) (hz : isO z 2) (ho : isO o 2) (hne : z ≠ o) (ok : HlOK h) (hC : CH M o h) : MS G d mi_Ha_copy [vr z, vr o] M (fun r M' => r = none ∧ CH M' z h ∧ Same [z, z + 1, z + 2, z + 3, z + 3 + 1, z + 5, z + 5 + 1] M M') := by
  obtain ⟨s1, s2, s3, s5, s7, s8⟩ := sh_Ha hz
  obtain ⟨t1, t2, t3, t5, t7, t8⟩ := sh_Ha ho
  have sep : (z < o - 8 ∨ o < z - 8) := by
    rcases isO_Ha hz with rfl | rfl | rfl | rfl <;> rcases isO_Ha ho with rfl | rfl | rfl | rfl <;> simp at hne ⊢
  refine MS.run ck_Ha_copy [some (vr z), some (vr o)] [] 20 fun _ _ => ?_
  have hoz : o ≠ z := fun e => hne e.symm
  simp only [wR, wB, wE0, wE1, wE2, wE3, g0, gS, s10, s11, s1S, s20, s21, s2S, kl0, kl1, kl2, kl3, sp0, sp1, sp2, sp3, cn1, cn2, cn3, cn4, cn5, cn6, jJa, lk0, lk1, jmS, jmN, s4_0, s4_1, s4_2, s4_3, s4_4, sw0, sw1, cKs, cKn, true_and, and_true, List.map_cons, List.map_nil, Nat.reduceAdd, Nat.zero_add, Int.reduceAdd, Nat.reduceEqDiff, reduceIte, Classical.not_not, b_Ha_copy, hz, ho, s1, s2, s3, s5, t1, t2, t3, t5, up_ne1 hoz]
  refine ⟨by omega, ⟨by omega, by omega, by omega, by omega, by omega⟩, by omega, ⟨by omega, by omega, by omega, by omega, by omega⟩, by omega, ?_⟩
  generalize hN : cpy (cpy _ (o + 1) 0 (z + 1) 0 5) (o + 2) 0 (z + 2) 0 5 = N
  have e0 : ∀ y : Int, N z y = if y = 0 then M o 0 else if y = 1 then M o 1 else if y = 2 then M o 2 else if y = 3 then M o 3 else if y = 4 then M o 4 else if y = 5 then M o 5 else M z y := by
    intro y
    subst hN
    unfold cpy
    rw [if_neg (by omega), if_neg (by omega)]
    unfold up
    repeat' split
    all_goals first | rfl | omega
  have e2 : ∀ y : Int, 0 ≤ y → y < 5 → N (z + 2) y = M (o + 2) y := by
    intro y a b
    subst hN
    unfold cpy
    rw [if_pos (by omega), if_neg (by omega), up_ne1 (by omega), up_ne1 (by omega), up_ne1 (by omega), up_ne1 (by omega), up_ne1 (by omega), up_ne1 (by omega), show (0 : Int) + (y - 0) = y by omega]
  have es : Same [z, z + 1, z + 2] M N := by
    intro x hx
    funext y
    simp only [List.mem_cons, List.not_mem_nil, or_false, not_or] at hx
    subst hN
    unfold cpy
    rw [if_neg (by omega), if_neg (by omega), up_ne1 hx.1, up_ne1 hx.1, up_ne1 hx.1, up_ne1 hx.1, up_ne1 hx.1, up_ne1 hx.1]
  obtain ⟨c1, c2, c3, c4, c5, c6, c7⟩ := hC
  refine (c_La_copy (by omega) s3 t3 ok.2.2.2.2.2.2.1 (c6.same es (by (first | decide | (simp only [List.mem_cons, List.not_mem_nil, or_false, not_or, not_false_eq_true, and_true]; omega) | (simp [List.mem_cons]; done))) (by (first | decide | (simp only [List.mem_cons, List.not_mem_nil, or_false, not_or, not_false_eq_true, and_true]; omega) | (simp [List.mem_cons]; done))))).mono ?_
  rintro r M1 okM1 ⟨rfl, l1, q1⟩
  simp only [wR, wB, wE0, wE1, wE2, wE3, g0, gS, s10, s11, s1S, s20, s21, s2S, kl0, kl1, kl2, kl3, sp0, sp1, sp2, sp3, cn1, cn2, cn3, cn4, cn5, cn6, jJa, lk0, lk1, jmS, jmN, s4_0, s4_1, s4_2, s4_3, s4_4, sw0, sw1, cKs, cKn, true_and, and_true, List.map_cons, List.map_nil, Nat.reduceAdd, Nat.zero_add, Int.reduceAdd, Nat.reduceEqDiff, reduceIte, Classical.not_not, b_Ha_copy, hz, ho, s3, s5, t3, t5]
  refine ⟨by omega, (c_La_copy (by omega) s5 t5 ok.2.2.2.2.2.2.2.1 ((c7.same es (by (first | decide | (simp only [List.mem_cons, List.not_mem_nil, or_false, not_or, not_false_eq_true, and_true]; omega) | (simp [List.mem_cons]; done))) (by (first | decide | (simp only [List.mem_cons, List.not_mem_nil, or_false, not_or, not_false_eq_true, and_true]; omega) | (simp [List.mem_cons]; done)))).same q1 (by (first | decide | (simp only [List.mem_cons, List.not_mem_nil, or_false, not_or, not_false_eq_true, and_true]; omega) | (simp [List.mem_cons]; done))) (by (first | decide | (simp only [List.mem_cons, List.not_mem_nil, or_false, not_or, not_false_eq_true, and_true]; omega) | (simp [List.mem_cons]; done))))).mono ?_⟩
  rintro r M2 okM2 ⟨rfl, l2, q2⟩
  simp only [wR, wB, wE0, wE1, wE2, wE3, g0, gS, s10, s11, s1S, s20, s21, s2S, kl0, kl1, kl2, kl3, sp0, sp1, sp2, sp3, cn1, cn2, cn3, cn4, cn5, cn6, jJa, lk0, lk1, jmS, jmN, s4_0, s4_1, s4_2, s4_3, s4_4, sw0, sw1, cKs, cKn, true_and, and_true, List.map_cons, List.map_nil, Nat.reduceAdd, Nat.zero_add, Int.reduceAdd, Nat.reduceEqDiff, reduceIte, Classical.not_not, b_Ha_copy]
  have q3 := (q1.mono (qs := [z + 3, z + 3 + 1, z + 5, z + 5 + 1]) (by simp)).trans (q2.mono (by simp))
  refine ⟨⟨?_, ?_, ?_, ?_, ?_, l1.same q2 (by (first | decide | (simp only [List.mem_cons, List.not_mem_nil, or_false, not_or, not_false_eq_true, and_true]; omega) | (simp [List.mem_cons]; done))) (by (first | decide | (simp only [List.mem_cons, List.not_mem_nil, or_false, not_or, not_false_eq_true, and_true]; omega) | (simp [List.mem_cons]; done))), l2⟩, (es.mono (by simp)).trans (q3.mono (by simp))⟩
  · rw [q3.at z _ (by (first | decide | (simp only [List.mem_cons, List.not_mem_nil, or_false, not_or, not_false_eq_true, and_true]; omega) | (simp [List.mem_cons]; done))), e0, if_pos rfl]; exact c1
  · rw [q3.at z _ (by (first | decide | (simp only [List.mem_cons, List.not_mem_nil, or_false, not_or, not_false_eq_true, and_true]; omega) | (simp [List.mem_cons]; done))), e0, if_neg (by omega), if_pos rfl]; exact c2
  · rw [q3.at z _ (by (first | decide | (simp only [List.mem_cons, List.not_mem_nil, or_false, not_or, not_false_eq_true, and_true]; omega) | (simp [List.mem_cons]; done))), e0, if_neg (by omega), if_neg (by omega), if_pos rfl]; exact c3
  · rw [q3.at z _ (by (first | decide | (simp only [List.mem_cons, List.not_mem_nil, or_false, not_or, not_false_eq_true, and_true]; omega) | (simp [List.mem_cons]; done))), e0, if_neg (by omega), if_neg (by omega), if_neg (by omega), if_neg (by omega), if_neg (by omega), if_pos rfl]; exact c4
  · intro p hp
    have := ok.1
    rw [q3.at (z + 2) _ (by (first | decide | (simp only [List.mem_cons, List.not_mem_nil, or_false, not_or, not_false_eq_true, and_true]; omega) | (simp [List.mem_cons]; done))), e2 _ (by omega) (by omega)]
    exact c5 p hp
end CC
