/-! the JDK's own methods -/
section JDK
variable {G : AG} {d : Nat} {M : AM}
/-- how many bits of a set of five -/
def pop (x : Nat) : Nat := x % 2 + x / 2 % 2 + x / 4 % 2 + x / 8 % 2 + x / 16 % 2
theorem c_JI_bitCount {a : Nat} (h1 : a < 32) : MS G d mi_JI_bitCount [vi a] M (fun r M' => r = some (vi (pop a)) ∧ M' = M) := by
  refine MS.run ck_JI_bitCount [some (vi a)] [] 10 fun _ _ => ?_
  simp only [wR, wB, wE0, wE1, wE2, wE3, g0, gS, s10, s11, s1S, s20, s21, s2S, kl0, kl1, kl2, kl3, sp0, sp1, sp2, sp3, cn1, cn2, cn3, cn4, cn5, cn6, jJa, lk0, lk1, jmS, jmN, s4_0, s4_1, s4_2, s4_3, s4_4, sw0, sw1, cKs, cKn, true_and, and_true, List.map_cons, List.map_nil, Nat.reduceAdd, Nat.zero_add, Int.reduceAdd, Nat.reduceEqDiff, reduceIte, Classical.not_not, b_JI_bitCount]
  refine congrArg (fun x => some (vi x)) ?_
  match a, h1 with
  | 0, _ => decide +kernel
  | 1, _ => decide +kernel
  | 2, _ => decide +kernel
  | 3, _ => decide +kernel
  | 4, _ => decide +kernel
  | 5, _ => decide +kernel
  | 6, _ => decide +kernel
  | 7, _ => decide +kernel
  | 8, _ => decide +kernel
  | 9, _ => decide +kernel
  | 10, _ => decide +kernel
  | 11, _ => decide +kernel
  | 12, _ => decide +kernel
  | 13, _ => decide +kernel
  | 14, _ => decide +kernel
  | 15, _ => decide +kernel
  | 16, _ => decide +kernel
  | 17, _ => decide +kernel
  | 18, _ => decide +kernel
  | 19, _ => decide +kernel
  | 20, _ => decide +kernel
  | 21, _ => decide +kernel
  | 22, _ => decide +kernel
  | 23, _ => decide +kernel
  | 24, _ => decide +kernel
  | 25, _ => decide +kernel
  | 26, _ => decide +kernel
  | 27, _ => decide +kernel
  | 28, _ => decide +kernel
  | 29, _ => decide +kernel
  | 30, _ => decide +kernel
  | 31, _ => decide +kernel
  | n + 32, h => omega
/-- an array filled from lo to hi -/
def fil (M : AM) (z lo hi v : Int) : AM := fun x y => if x = z ∧ lo ≤ y ∧ y < hi then v else M x y
theorem fil_0 {M : AM} {z lo v : Int} : fil M z lo lo v = M := by
  funext x y
  unfold fil
  rw [if_neg (by omega)]
theorem fil_s {M : AM} {z lo hi v : Int} (h : lo ≤ hi) : up (fil M z lo hi v) z hi v = fil M z lo (hi + 1) v := by
  funext x y
  unfold up fil
  by_cases h1 : x = z ∧ y = hi
  · rw [if_pos h1, if_pos (by omega)]
  · rw [if_neg h1]
    by_cases h2 : x = z ∧ lo ≤ y ∧ y < hi
    · rw [if_pos h2, if_pos (by omega)]
    · rw [if_neg h2, if_neg (by omega)]
theorem arT_n {k n : Nat} {ty : FieldType} (hs : shL[k]? = some (.inl (ty, n))) : (n : Int) ≤ 100000 := by
  have h2 : shL.all (fun s => match s with
    | .inl (_, n) => decide (n ≤ 100000)
    | _ => true) = true := by decide +kernel
  have := List.all_eq_true.mp h2 _ (List.mem_of_getElem? hs)
  simp only [decide_eq_true_eq] at this
  omega
theorem c_JA_rangeCheck {n lo hi : Int} (h1 : lo ≤ hi) (h2 : 0 ≤ lo) (h3 : hi ≤ n) : MS G d mi_JA_rangeCheck [vi n, vi lo, vi hi] M (fun r M' => r = none ∧ M' = M) := by
  refine MS.run ck_JA_rangeCheck [some (vi n), some (vi lo), some (vi hi)] [] 10 fun _ _ => ?_
  simp only [wR, wB, wE0, wE1, wE2, wE3, g0, gS, s10, s11, s1S, s20, s21, s2S, kl0, kl1, kl2, kl3, sp0, sp1, sp2, sp3, cn1, cn2, cn3, cn4, cn5, cn6, jJa, lk0, lk1, jmS, jmN, s4_0, s4_1, s4_2, s4_3, s4_4, sw0, sw1, cKs, cKn, true_and, and_true, List.map_cons, List.map_nil, Nat.reduceAdd, Nat.zero_add, Int.reduceAdd, Nat.reduceEqDiff, reduceIte, Classical.not_not, b_JA_rangeCheck]
  exact ⟨fun _ => ⟨fun _ => ⟨fun _ => trivial, fun h => absurd h3 h⟩, fun h => absurd h2 h⟩, fun h => absurd h1 h⟩
/-- Arrays.fill of ints -/
theorem c_JA_fill2 {z v : Int} (hz : arT z .int) : MS G d mi_JA_fill2 [vr z, vi v] M (fun r M' => r = none ∧ M' = fil M z 0 (alen z) v) := by
  obtain ⟨k, n, rfl, hs, hl⟩ := arT_at hz
  refine MS.by ck_JA_fill2 [some (vr k), some (vi v), none, none] fun _ _ => ?_
  have hn := arT_n hs
  have loop : ∀ (m : Nat) (i : Int), 0 ≤ i → i + m = n → AW G d mi_JA_fill2 (fun r M' => r = none ∧ M' = fil M k 0 (alen k) v) 5 [some (vr k), some (vi v), some (vi i), some (vi n)] [] (fil M k 0 i v) := by
    intro m
    induction m with
    | zero =>
      intro i h0 hi
      refine AW.run ck_JA_fill2 [5] 5 5 ?_
      simp only [wR, wB, wE0, wE1, wE2, wE3, g0, gS, s10, s11, s1S, s20, s21, s2S, kl0, kl1, kl2, kl3, sp0, sp1, sp2, sp3, cn1, cn2, cn3, cn4, cn5, cn6, jJa, lk0, lk1, jmS, jmN, s4_0, s4_1, s4_2, s4_3, s4_4, sw0, sw1, cKs, cKn, true_and, and_true, List.map_cons, List.map_nil, Nat.reduceAdd, Nat.zero_add, Int.reduceAdd, Nat.reduceEqDiff, reduceIte, Classical.not_not, b_JA_fill2]
      refine ⟨fun _ => ?_, fun h => absurd (by omega) h⟩
      rw [hl, show (n : Int) = i by omega]
    | succ m ih =>
      intro i h0 hi
      refine AW.run ck_JA_fill2 [5] 5 5 ?_
      simp only [wR, wB, wE0, wE1, wE2, wE3, g0, gS, s10, s11, s1S, s20, s21, s2S, kl0, kl1, kl2, kl3, sp0, sp1, sp2, sp3, cn1, cn2, cn3, cn4, cn5, cn6, jJa, lk0, lk1, jmS, jmN, s4_0, s4_1, s4_2, s4_3, s4_4, sw0, sw1, cKs, cKn, true_and, and_true, List.map_cons, List.map_nil, Nat.reduceAdd, Nat.zero_add, Int.reduceAdd, Nat.reduceEqDiff, reduceIte, Classical.not_not, b_JA_fill2]
      refine ⟨fun h => absurd h (by omega), fun _ => ⟨hz, ⟨h0, by omega⟩, ⟨by omega, by omega⟩, ?_⟩⟩
      rw [fil_s h0]
      exact ih (i + 1) (by omega) (by omega)
  refine AW.run ck_JA_fill2 [5] 5 0 ?_
  simp only [wR, wB, wE0, wE1, wE2, wE3, g0, gS, s10, s11, s1S, s20, s21, s2S, kl0, kl1, kl2, kl3, sp0, sp1, sp2, sp3, cn1, cn2, cn3, cn4, cn5, cn6, jJa, lk0, lk1, jmS, jmN, s4_0, s4_1, s4_2, s4_3, s4_4, sw0, sw1, cKs, cKn, true_and, and_true, List.map_cons, List.map_nil, Nat.reduceAdd, Nat.zero_add, Int.reduceAdd, Nat.reduceEqDiff, reduceIte, Classical.not_not, b_JA_fill2]
  refine ⟨isArr_of hz, ?_⟩
  have := loop n 0 (by omega) (by omega)
  rw [fil_0, ← hl] at this
  exact this
theorem c_JA_fill3 {z v : Int} (hz : arT z .long) : MS G d mi_JA_fill3 [vr z, vl v] M (fun r M' => r = none ∧ M' = fil M z 0 (alen z) v) := by
  obtain ⟨k, n, rfl, hs, hl⟩ := arT_at hz
  refine MS.by ck_JA_fill3 [some (vr k), some (vl v), none, none, none] fun _ _ => ?_
  have hn := arT_n hs
  have loop : ∀ (m : Nat) (i : Int), 0 ≤ i → i + m = n → AW G d mi_JA_fill3 (fun r M' => r = none ∧ M' = fil M k 0 (alen k) v) 6 [some (vr k), some (vl v), none, some (vi i), some (vi n)] [] (fil M k 0 i v) := by
    intro m
    induction m with
    | zero =>
      intro i h0 hi
      refine AW.run ck_JA_fill3 [6] 5 6 ?_
      simp only [wR, wB, wE0, wE1, wE2, wE3, g0, gS, s10, s11, s1S, s20, s21, s2S, kl0, kl1, kl2, kl3, sp0, sp1, sp2, sp3, cn1, cn2, cn3, cn4, cn5, cn6, jJa, lk0, lk1, jmS, jmN, s4_0, s4_1, s4_2, s4_3, s4_4, sw0, sw1, cKs, cKn, true_and, and_true, List.map_cons, List.map_nil, Nat.reduceAdd, Nat.zero_add, Int.reduceAdd, Nat.reduceEqDiff, reduceIte, Classical.not_not, b_JA_fill3]
      refine ⟨fun _ => ?_, fun h => absurd (by omega) h⟩
      rw [hl, show (n : Int) = i by omega]
    | succ m ih =>
      intro i h0 hi
      refine AW.run ck_JA_fill3 [6] 5 6 ?_
      simp only [wR, wB, wE0, wE1, wE2, wE3, g0, gS, s10, s11, s1S, s20, s21, s2S, kl0, kl1, kl2, kl3, sp0, sp1, sp2, sp3, cn1, cn2, cn3, cn4, cn5, cn6, jJa, lk0, lk1, jmS, jmN, s4_0, s4_1, s4_2, s4_3, s4_4, sw0, sw1, cKs, cKn, true_and, and_true, List.map_cons, List.map_nil, Nat.reduceAdd, Nat.zero_add, Int.reduceAdd, Nat.reduceEqDiff, reduceIte, Classical.not_not, b_JA_fill3]
      refine ⟨fun h => absurd h (by omega), fun _ => ⟨hz, ⟨h0, by omega⟩, ⟨by omega, by omega⟩, ?_⟩⟩
      rw [fil_s h0]
      exact ih (i + 1) (by omega) (by omega)
  refine AW.run ck_JA_fill3 [6] 5 0 ?_
  simp only [wR, wB, wE0, wE1, wE2, wE3, g0, gS, s10, s11, s1S, s20, s21, s2S, kl0, kl1, kl2, kl3, sp0, sp1, sp2, sp3, cn1, cn2, cn3, cn4, cn5, cn6, jJa, lk0, lk1, jmS, jmN, s4_0, s4_1, s4_2, s4_3, s4_4, sw0, sw1, cKs, cKn, true_and, and_true, List.map_cons, List.map_nil, Nat.reduceAdd, Nat.zero_add, Int.reduceAdd, Nat.reduceEqDiff, reduceIte, Classical.not_not, b_JA_fill3]
  refine ⟨isArr_of hz, ?_⟩
  have := loop n 0 (by omega) (by omega)
  rw [fil_0, ← hl] at this
  exact this
/-- Arrays.fill of some ints -/
theorem c_JA_fill {z lo hi v : Int} (hd : 1 ≤ d) (hz : arT z .int) (h1 : 0 ≤ lo) (h2 : lo ≤ hi) (h3 : hi ≤ alen z) : MS G d mi_JA_fill [vr z, vi lo, vi hi, vi v] M (fun r M' => r = none ∧ M' = fil M z lo hi v) := by
  obtain ⟨k, n, rfl, hs, hl⟩ := arT_at hz
  have hn := arT_n hs
  rw [hl] at h3
  refine MS.by ck_JA_fill [some (vr k), some (vi lo), some (vi hi), some (vi v), none] fun _ _ => ?_
  have loop : ∀ (m : Nat) (i : Int), lo ≤ i → i + m = hi → AW G d mi_JA_fill (fun r M' => r = none ∧ M' = fil M k lo hi v) 10 [some (vr k), some (vi lo), some (vi hi), some (vi v), some (vi i)] [] (fil M k lo i v) := by
    intro m
    induction m with
    | zero =>
      intro i h0 hii
      refine AW.run ck_JA_fill [10] 5 10 ?_
      simp only [wR, wB, wE0, wE1, wE2, wE3, g0, gS, s10, s11, s1S, s20, s21, s2S, kl0, kl1, kl2, kl3, sp0, sp1, sp2, sp3, cn1, cn2, cn3, cn4, cn5, cn6, jJa, lk0, lk1, jmS, jmN, s4_0, s4_1, s4_2, s4_3, s4_4, sw0, sw1, cKs, cKn, true_and, and_true, List.map_cons, List.map_nil, Nat.reduceAdd, Nat.zero_add, Int.reduceAdd, Nat.reduceEqDiff, reduceIte, Classical.not_not, b_JA_fill]
      refine ⟨fun _ => ?_, fun h => absurd (by omega) h⟩
      rw [show hi = i by omega]
    | succ m ih =>
      intro i h0 hii
      refine AW.run ck_JA_fill [10] 5 10 ?_
      simp only [wR, wB, wE0, wE1, wE2, wE3, g0, gS, s10, s11, s1S, s20, s21, s2S, kl0, kl1, kl2, kl3, sp0, sp1, sp2, sp3, cn1, cn2, cn3, cn4, cn5, cn6, jJa, lk0, lk1, jmS, jmN, s4_0, s4_1, s4_2, s4_3, s4_4, sw0, sw1, cKs, cKn, true_and, and_true, List.map_cons, List.map_nil, Nat.reduceAdd, Nat.zero_add, Int.reduceAdd, Nat.reduceEqDiff, reduceIte, Classical.not_not, b_JA_fill]
      refine ⟨fun h => absurd h (by omega), fun _ => ⟨hz, ⟨by omega, by omega⟩, ⟨by omega, by omega⟩, ?_⟩⟩
      rw [fil_s h0]
      exact ih (i + 1) (by omega) (by omega)
  refine AW.run ck_JA_fill [10] 5 0 ?_
  simp only [wR, wB, wE0, wE1, wE2, wE3, g0, gS, s10, s11, s1S, s20, s21, s2S, kl0, kl1, kl2, kl3, sp0, sp1, sp2, sp3, cn1, cn2, cn3, cn4, cn5, cn6, jJa, lk0, lk1, jmS, jmN, s4_0, s4_1, s4_2, s4_3, s4_4, sw0, sw1, cKs, cKn, true_and, and_true, List.map_cons, List.map_nil, Nat.reduceAdd, Nat.zero_add, Int.reduceAdd, Nat.reduceEqDiff, reduceIte, Classical.not_not, b_JA_fill]
  refine ⟨isArr_of hz, hd, MS.to (c_JA_rangeCheck h2 h1 (by omega)) fun _ => ?_⟩
  simp only [wR, wB, wE0, wE1, wE2, wE3, g0, gS, s10, s11, s1S, s20, s21, s2S, kl0, kl1, kl2, kl3, sp0, sp1, sp2, sp3, cn1, cn2, cn3, cn4, cn5, cn6, jJa, lk0, lk1, jmS, jmN, s4_0, s4_1, s4_2, s4_3, s4_4, sw0, sw1, cKs, cKn, true_and, and_true, List.map_cons, List.map_nil, Nat.reduceAdd, Nat.zero_add, Int.reduceAdd, Nat.reduceEqDiff, reduceIte, Classical.not_not, b_JA_fill]
  have := loop (hi - lo).toNat lo (by omega) (by omega)
  rwa [fil_0] at this
/-! texts -/
theorem c_JS_isLatin1 {z : Int} (hz : -13 ≤ z ∧ z ≤ -10) : MS G d mi_JS_isLatin1 [vr z] M (fun r M' => r = some (vi 1) ∧ M' = M) := by
  refine MS.run ck_JS_isLatin1 [some (vr z)] [] 10 fun _ _ => ?_
  simp only [wR, wB, wE0, wE1, wE2, wE3, g0, gS, s10, s11, s1S, s20, s21, s2S, kl0, kl1, kl2, kl3, sp0, sp1, sp2, sp3, cn1, cn2, cn3, cn4, cn5, cn6, jJa, lk0, lk1, jmS, jmN, s4_0, s4_1, s4_2, s4_3, s4_4, sw0, sw1, cKs, cKn, true_and, and_true, List.map_cons, List.map_nil, Nat.reduceAdd, Nat.zero_add, Int.reduceAdd, Nat.reduceEqDiff, reduceIte, Classical.not_not, b_JS_isLatin1]
  simp [hz]
theorem c_JS_coder {z : Int} (hz : -13 ≤ z ∧ z ≤ -10) : MS G d mi_JS_coder [vr z] M (fun r M' => r = some (vi 0) ∧ M' = M) := by
  refine MS.run ck_JS_coder [some (vr z)] [] 10 fun _ _ => ?_
  simp only [wR, wB, wE0, wE1, wE2, wE3, g0, gS, s10, s11, s1S, s20, s21, s2S, kl0, kl1, kl2, kl3, sp0, sp1, sp2, sp3, cn1, cn2, cn3, cn4, cn5, cn6, jJa, lk0, lk1, jmS, jmN, s4_0, s4_1, s4_2, s4_3, s4_4, sw0, sw1, cKs, cKn, true_and, and_true, List.map_cons, List.map_nil, Nat.reduceAdd, Nat.zero_add, Int.reduceAdd, Nat.reduceEqDiff, reduceIte, Classical.not_not, b_JS_coder]
  simp [hz]
theorem zcase {z : Int} (hz : -13 ≤ z ∧ z ≤ -10) : z = -10 ∨ z = -11 ∨ z = -12 ∨ z = -13 := by omega
theorem romN_shr {z : Int} (hz : -13 ≤ z ∧ z ≤ -10) : bShr (romN (z - 10)) 0 = romN (z - 10) := by
  rcases zcase hz with rfl | rfl | rfl | rfl <;> decide +kernel
theorem c_JS_length {z : Int} (hd : 1 ≤ d) (hz : -13 ≤ z ∧ z ≤ -10) : MS G d mi_JS_length [vr z] M (fun r M' => r = some (vi (romN (z - 10))) ∧ M' = M) := by
  refine MS.run ck_JS_length [some (vr z)] [] 10 fun _ _ => ?_
  simp only [wR, wB, wE0, wE1, wE2, wE3, g0, gS, s10, s11, s1S, s20, s21, s2S, kl0, kl1, kl2, kl3, sp0, sp1, sp2, sp3, cn1, cn2, cn3, cn4, cn5, cn6, jJa, lk0, lk1, jmS, jmN, s4_0, s4_1, s4_2, s4_3, s4_4, sw0, sw1, cKs, cKn, true_and, and_true, List.map_cons, List.map_nil, Nat.reduceAdd, Nat.zero_add, Int.reduceAdd, Nat.reduceEqDiff, reduceIte, Classical.not_not, b_JS_length]
  refine ⟨hz, ⟨by omega, by omega⟩, hz, hd, MS.to (c_JS_coder hz) fun _ => ?_⟩
  simp only [wR, wB, wE0, wE1, wE2, wE3, g0, gS, s10, s11, s1S, s20, s21, s2S, kl0, kl1, kl2, kl3, sp0, sp1, sp2, sp3, cn1, cn2, cn3, cn4, cn5, cn6, jJa, lk0, lk1, jmS, jmN, s4_0, s4_1, s4_2, s4_3, s4_4, sw0, sw1, cKs, cKn, true_and, and_true, List.map_cons, List.map_nil, Nat.reduceAdd, Nat.zero_add, Int.reduceAdd, Nat.reduceEqDiff, reduceIte, Classical.not_not, b_JS_length]
  rw [romN_shr hz]
theorem c_JP_checkIndex {a n f : Int} (h : 0 ≤ a ∧ a < n) : MS G d mi_JP_checkIndex [vi a, vi n, vr f] M (fun r M' => r = some (vi a) ∧ M' = M) := by
  refine MS.run ck_JP_checkIndex [some (vi a), some (vi n), some (vr f)] [] 10 fun _ _ => ?_
  simp only [wR, wB, wE0, wE1, wE2, wE3, g0, gS, s10, s11, s1S, s20, s21, s2S, kl0, kl1, kl2, kl3, sp0, sp1, sp2, sp3, cn1, cn2, cn3, cn4, cn5, cn6, jJa, lk0, lk1, jmS, jmN, s4_0, s4_1, s4_2, s4_3, s4_4, sw0, sw1, cKs, cKn, true_and, and_true, List.map_cons, List.map_nil, Nat.reduceAdd, Nat.zero_add, Int.reduceAdd, Nat.reduceEqDiff, reduceIte, Classical.not_not, b_JP_checkIndex]
  exact ⟨fun q => absurd q (by omega), fun _ => ⟨fun _ => trivial, fun q => absurd h.2 q⟩⟩
theorem c_JS_checkIndex {a n : Int} (hd : 1 ≤ d) (h : 0 ≤ a ∧ a < n) : MS G d mi_JS_checkIndex [vi a, vi n] M (fun r M' => r = none ∧ M' = M) := by
  refine MS.run ck_JS_checkIndex [some (vi a), some (vi n)] [] 10 fun _ _ => ?_
  simp only [wR, wB, wE0, wE1, wE2, wE3, g0, gS, s10, s11, s1S, s20, s21, s2S, kl0, kl1, kl2, kl3, sp0, sp1, sp2, sp3, cn1, cn2, cn3, cn4, cn5, cn6, jJa, lk0, lk1, jmS, jmN, s4_0, s4_1, s4_2, s4_3, s4_4, sw0, sw1, cKs, cKn, true_and, and_true, List.map_cons, List.map_nil, Nat.reduceAdd, Nat.zero_add, Int.reduceAdd, Nat.reduceEqDiff, reduceIte, Classical.not_not, b_JS_checkIndex]
  refine ⟨hd, MS.to (c_JP_checkIndex h) fun _ => ?_⟩
  simp only [wR, wB, wE0, wE1, wE2, wE3, g0, gS, s10, s11, s1S, s20, s21, s2S, kl0, kl1, kl2, kl3, sp0, sp1, sp2, sp3, cn1, cn2, cn3, cn4, cn5, cn6, jJa, lk0, lk1, jmS, jmN, s4_0, s4_1, s4_2, s4_3, s4_4, sw0, sw1, cKs, cKn, true_and, and_true, List.map_cons, List.map_nil, Nat.reduceAdd, Nat.zero_add, Int.reduceAdd, Nat.reduceEqDiff, reduceIte, Classical.not_not, b_JS_checkIndex]
theorem romS_pos {i : Nat} (hi : i < 4) (j : Int) : 0 ≤ romA (-20 - i) j ∧ romA (-20 - i) j ≤ 127 := by
  have h : ∀ i : Fin 4, (romL (-20 - i.val)).all (fun x => decide (0 ≤ x ∧ x ≤ 127)) = true := by decide +kernel
  have h2 := List.all_eq_true.mp (h ⟨i, hi⟩)
  unfold romA
  rw [List.getD_eq_getElem?_getD]
  cases hx : (romL (-20 - i))[j.toNat]? with
  | none => simp
  | some x => simpa using h2 x (List.mem_of_getElem? hx)
theorem romS_pos' {z : Int} (hz : -23 ≤ z ∧ z ≤ -20) (j : Int) : 0 ≤ romA z j ∧ romA z j ≤ 127 := by
  have := romS_pos (i := (-20 - z).toNat) (by omega) j
  rwa [show (-20 : Int) - ((-20 - z).toNat : Nat) = z by omega] at this
theorem wc_and {x : Int} (h : 0 ≤ x ∧ x ≤ 127) : wc (bAnd x 255) = x := by
  have key : ∀ n : Fin 128, wc (bAnd (n.val : Int) 255) = n.val := by decide +kernel
  have := key ⟨x.toNat, by omega⟩
  rwa [show ((x.toNat : Nat) : Int) = x by omega] at this
theorem c_JL_charAt {z i : Int} (hd : 2 ≤ d) (hz : -23 ≤ z ∧ z ≤ -20) (hi : 0 ≤ i ∧ i < romN z) : MS G d mi_JL_charAt [vr z, vi i] M (fun r M' => r = some (vi (romA z i)) ∧ M' = M) := by
  have hr := romS_pos' hz i
  refine MS.run ck_JL_charAt [some (vr z), some (vi i)] [] 10 fun _ _ => ?_
  simp only [wR, wB, wE0, wE1, wE2, wE3, g0, gS, s10, s11, s1S, s20, s21, s2S, kl0, kl1, kl2, kl3, sp0, sp1, sp2, sp3, cn1, cn2, cn3, cn4, cn5, cn6, jJa, lk0, lk1, jmS, jmN, s4_0, s4_1, s4_2, s4_3, s4_4, sw0, sw1, cKs, cKn, true_and, and_true, List.map_cons, List.map_nil, Nat.reduceAdd, Nat.zero_add, Int.reduceAdd, Nat.reduceEqDiff, reduceIte, Classical.not_not, b_JL_charAt]
  refine ⟨hz, by omega, MS.to (c_JS_checkIndex (by omega) hi) fun _ => ?_⟩
  simp only [wR, wB, wE0, wE1, wE2, wE3, g0, gS, s10, s11, s1S, s20, s21, s2S, kl0, kl1, kl2, kl3, sp0, sp1, sp2, sp3, cn1, cn2, cn3, cn4, cn5, cn6, jJa, lk0, lk1, jmS, jmN, s4_0, s4_1, s4_2, s4_3, s4_4, sw0, sw1, cKs, cKn, true_and, and_true, List.map_cons, List.map_nil, Nat.reduceAdd, Nat.zero_add, Int.reduceAdd, Nat.reduceEqDiff, reduceIte, Classical.not_not, b_JL_charAt]
  rw [wc_and hr]
  exact ⟨hz, hi, ⟨hr.1, by omega⟩, rfl⟩
theorem c_JS_charAt {z i : Int} (hd : 3 ≤ d) (hz : -13 ≤ z ∧ z ≤ -10) (hi : 0 ≤ i ∧ i < romN (z - 10)) : MS G d mi_JS_charAt [vr z, vi i] M (fun r M' => r = some (vi (romA (z - 10) i)) ∧ M' = M) := by
  have hr := romS_pos' (z := z - 10) ⟨by omega, by omega⟩ i
  refine MS.run ck_JS_charAt [some (vr z), some (vi i)] [] 10 fun _ _ => ?_
  simp only [wR, wB, wE0, wE1, wE2, wE3, g0, gS, s10, s11, s1S, s20, s21, s2S, kl0, kl1, kl2, kl3, sp0, sp1, sp2, sp3, cn1, cn2, cn3, cn4, cn5, cn6, jJa, lk0, lk1, jmS, jmN, s4_0, s4_1, s4_2, s4_3, s4_4, sw0, sw1, cKs, cKn, true_and, and_true, List.map_cons, List.map_nil, Nat.reduceAdd, Nat.zero_add, Int.reduceAdd, Nat.reduceEqDiff, reduceIte, Classical.not_not, b_JS_charAt]
  refine ⟨hz, by omega, MS.to (c_JS_isLatin1 hz) fun _ => ?_⟩
  simp only [wR, wB, wE0, wE1, wE2, wE3, g0, gS, s10, s11, s1S, s20, s21, s2S, kl0, kl1, kl2, kl3, sp0, sp1, sp2, sp3, cn1, cn2, cn3, cn4, cn5, cn6, jJa, lk0, lk1, jmS, jmN, s4_0, s4_1, s4_2, s4_3, s4_4, sw0, sw1, cKs, cKn, true_and, and_true, List.map_cons, List.map_nil, Nat.reduceAdd, Nat.zero_add, Int.reduceAdd, Nat.reduceEqDiff, reduceIte, Classical.not_not, b_JS_charAt]
  refine ⟨fun q => absurd q (by omega), fun _ => ⟨hz, by omega, MS.to (c_JL_charAt (by omega) ⟨by omega, by omega⟩ hi) fun _ => ?_⟩⟩
  simp only [wR, wB, wE0, wE1, wE2, wE3, g0, gS, s10, s11, s1S, s20, s21, s2S, kl0, kl1, kl2, kl3, sp0, sp1, sp2, sp3, cn1, cn2, cn3, cn4, cn5, cn6, jJa, lk0, lk1, jmS, jmN, s4_0, s4_1, s4_2, s4_3, s4_4, sw0, sw1, cKs, cKn, true_and, and_true, List.map_cons, List.map_nil, Nat.reduceAdd, Nat.zero_add, Int.reduceAdd, Nat.reduceEqDiff, reduceIte, Classical.not_not, b_JS_charAt]
  exact ⟨hr.1, by omega⟩
theorem w8_c {c : Int} (h : 0 ≤ c ∧ c < 256) : w8 c = if c < 128 then c else c - 256 := by
  have key : ∀ n : Fin 256, w8 (n.val : Int) = if (n.val : Int) < 128 then (n.val : Int) else (n.val : Int) - 256 := by decide +kernel
  have := key ⟨c.toNat, by omega⟩
  rwa [show ((c.toNat : Nat) : Int) = c by omega] at this
theorem c_JL_canEncode {c : Int} (h : 0 ≤ c ∧ c < 256) : MS G d mi_JL_canEncode [vi c] M (fun r M' => r = some (vi 1) ∧ M' = M) := by
  refine MS.run ck_JL_canEncode [some (vi c)] [] 10 fun _ _ => ?_
  simp only [wR, wB, wE0, wE1, wE2, wE3, g0, gS, s10, s11, s1S, s20, s21, s2S, kl0, kl1, kl2, kl3, sp0, sp1, sp2, sp3, cn1, cn2, cn3, cn4, cn5, cn6, jJa, lk0, lk1, jmS, jmN, s4_0, s4_1, s4_2, s4_3, s4_4, sw0, sw1, cKs, cKn, true_and, and_true, List.map_cons, List.map_nil, Nat.reduceAdd, Nat.zero_add, Int.reduceAdd, Nat.reduceEqDiff, reduceIte, Classical.not_not, b_JL_canEncode]
  refine ⟨fun q => absurd q (by omega), fun _ => ⟨fun q => absurd q (by omega), fun _ => Or.inr trivial⟩⟩
theorem c_JL_indexOfChar {z c : Int} (hz : -23 ≤ z ∧ z ≤ -20) (hc : 0 ≤ c ∧ c < 256) : MS G d mi_JL_indexOfChar [vr z, vi c, vi 0, vi (romN z)] M (fun r M' => (∃ x, r = some (vi x) ∧ (0 ≤ x ↔ ∃ j : Int, 0 ≤ j ∧ j < romN z ∧ romA z j = c)) ∧ M' = M) := by
  have hn : romN z ≤ 200 := by
    have := romS_len (-20 - z).toNat (by omega)
    rw [show (-20 : Int) - ((-20 - z).toNat : Nat) = z by omega] at this
    unfold romN; omega
  have hw := w8_c hc
  refine MS.by ck_JL_indexOfChar [some (vr z), some (vi c), some (vi 0), some (vi (romN z)), none, none] fun _ _ => ?_
  have loop : ∀ (m : Nat) (i : Int), 0 ≤ i → i + m = romN z → (∀ j, 0 ≤ j → j < i → ¬ romA z j = c) → AW G d mi_JL_indexOfChar (fun r M' => (∃ x, r = some (vi x) ∧ (0 ≤ x ↔ ∃ j : Int, 0 ≤ j ∧ j < romN z ∧ romA z j = c)) ∧ M' = M) 7 [some (vr z), some (vi c), some (vi 0), some (vi (romN z)), some (vi (w8 c)), some (vi i)] [] M := by
    intro m
    induction m with
    | zero =>
      intro i h0 hi hj
      refine AW.run ck_JL_indexOfChar [7] 5 7 ?_
      simp only [wR, wB, wE0, wE1, wE2, wE3, g0, gS, s10, s11, s1S, s20, s21, s2S, kl0, kl1, kl2, kl3, sp0, sp1, sp2, sp3, cn1, cn2, cn3, cn4, cn5, cn6, jJa, lk0, lk1, jmS, jmN, s4_0, s4_1, s4_2, s4_3, s4_4, sw0, sw1, cKs, cKn, true_and, and_true, List.map_cons, List.map_nil, Nat.reduceAdd, Nat.zero_add, Int.reduceAdd, Nat.reduceEqDiff, reduceIte, Classical.not_not, b_JL_indexOfChar]
      refine ⟨fun _ => ⟨-1, rfl, ⟨fun q => absurd q (by omega), fun ⟨j, a, b, e⟩ => absurd e (hj j a (by omega))⟩⟩, fun h => absurd (by omega) h⟩
    | succ m ih =>
      intro i h0 hi hj
      have hr := romS_pos' hz i
      refine AW.run ck_JL_indexOfChar [7] 5 7 ?_
      simp only [wR, wB, wE0, wE1, wE2, wE3, g0, gS, s10, s11, s1S, s20, s21, s2S, kl0, kl1, kl2, kl3, sp0, sp1, sp2, sp3, cn1, cn2, cn3, cn4, cn5, cn6, jJa, lk0, lk1, jmS, jmN, s4_0, s4_1, s4_2, s4_3, s4_4, sw0, sw1, cKs, cKn, true_and, and_true, List.map_cons, List.map_nil, Nat.reduceAdd, Nat.zero_add, Int.reduceAdd, Nat.reduceEqDiff, reduceIte, Classical.not_not, b_JL_indexOfChar]
      refine ⟨fun h => absurd h (by omega), fun _ => ⟨hz, ⟨h0, by omega⟩, fun hne => ⟨⟨by omega, by omega⟩, ?_⟩, fun he => ⟨i, rfl, fun _ => ⟨i, h0, by omega, ?_⟩, fun _ => h0⟩⟩⟩
      · refine ih (i + 1) (by omega) (by omega) fun j a b e => ?_
        by_cases hji : j = i
        · subst hji
          apply hne
          rw [e, hw]
          rw [e] at hr
          rw [if_pos (by omega)]
        · exact hj j a (by omega) e
      · rw [hw] at he
        split at he <;> omega
  refine AW.run ck_JL_indexOfChar [7] 5 0 ?_
  simp only [wR, wB, wE0, wE1, wE2, wE3, g0, gS, s10, s11, s1S, s20, s21, s2S, kl0, kl1, kl2, kl3, sp0, sp1, sp2, sp3, cn1, cn2, cn3, cn4, cn5, cn6, jJa, lk0, lk1, jmS, jmN, s4_0, s4_1, s4_2, s4_3, s4_4, sw0, sw1, cKs, cKn, true_and, and_true, List.map_cons, List.map_nil, Nat.reduceAdd, Nat.zero_add, Int.reduceAdd, Nat.reduceEqDiff, reduceIte, Classical.not_not, b_JL_indexOfChar]
  exact loop (romN z).toNat 0 (by omega) (by unfold romN; omega) (fun j a b => absurd b (by omega))
theorem c_JL_indexOf {z c : Int} (hd : 1 ≤ d) (hz : -23 ≤ z ∧ z ≤ -20) (hc : 0 ≤ c ∧ c < 256) : MS G d mi_JL_indexOf [vr z, vi c, vi 0, vi (romN z)] M (fun r M' => (∃ x, r = some (vi x) ∧ (0 ≤ x ↔ ∃ j : Int, 0 ≤ j ∧ j < romN z ∧ romA z j = c)) ∧ M' = M) := by
  have hp : 0 < romN z := by
    have hz' : z = -20 ∨ z = -21 ∨ z = -22 ∨ z = -23 := by omega
    rcases hz' with rfl | rfl | rfl | rfl <;> decide +kernel
  refine MS.run ck_JL_indexOf [some (vr z), some (vi c), some (vi 0), some (vi (romN z))] [] 10 fun _ _ => ?_
  simp only [wR, wB, wE0, wE1, wE2, wE3, g0, gS, s10, s11, s1S, s20, s21, s2S, kl0, kl1, kl2, kl3, sp0, sp1, sp2, sp3, cn1, cn2, cn3, cn4, cn5, cn6, jJa, lk0, lk1, jmS, jmN, s4_0, s4_1, s4_2, s4_3, s4_4, sw0, sw1, cKs, cKn, true_and, and_true, List.map_cons, List.map_nil, Nat.reduceAdd, Nat.zero_add, Int.reduceAdd, Nat.reduceEqDiff, reduceIte, Classical.not_not, b_JL_indexOf]
  refine ⟨hd, MS.to (c_JL_canEncode hc) fun _ => ?_⟩
  simp only [wR, wB, wE0, wE1, wE2, wE3, g0, gS, s10, s11, s1S, s20, s21, s2S, kl0, kl1, kl2, kl3, sp0, sp1, sp2, sp3, cn1, cn2, cn3, cn4, cn5, cn6, jJa, lk0, lk1, jmS, jmN, s4_0, s4_1, s4_2, s4_3, s4_4, sw0, sw1, cKs, cKn, true_and, and_true, List.map_cons, List.map_nil, Nat.reduceAdd, Nat.zero_add, Int.reduceAdd, Nat.reduceEqDiff, reduceIte, Classical.not_not, b_JL_indexOf]
  refine ⟨fun _ => ⟨hd, hz, hd, ?_⟩, fun q => absurd q (by omega)⟩
  rw [if_neg (by omega), if_neg (by omega)]
  refine ⟨fun _ => ⟨hd, (c_JL_indexOfChar hz hc).mono fun r M' _ h => ?_⟩, fun q => absurd hp q⟩
  obtain ⟨⟨x, rfl, hx⟩, rfl⟩ := h
  simp only [wR, wB, wE0, wE1, wE2, wE3, g0, gS, s10, s11, s1S, s20, s21, s2S, kl0, kl1, kl2, kl3, sp0, sp1, sp2, sp3, cn1, cn2, cn3, cn4, cn5, cn6, jJa, lk0, lk1, jmS, jmN, s4_0, s4_1, s4_2, s4_3, s4_4, sw0, sw1, cKs, cKn, true_and, and_true, List.map_cons, List.map_nil, Nat.reduceAdd, Nat.zero_add, Int.reduceAdd, Nat.reduceEqDiff, reduceIte, Classical.not_not, b_JL_indexOf]
  exact ⟨x, rfl, hx⟩
theorem c_JS_indexOf2 {z c : Int} (hd : 2 ≤ d) (hz : -13 ≤ z ∧ z ≤ -10) (hc : 0 ≤ c ∧ c < 256) : MS G d mi_JS_indexOf2 [vr z, vi c, vi 0] M (fun r M' => (∃ x, r = some (vi x) ∧ (0 ≤ x ↔ ∃ j : Int, 0 ≤ j ∧ j < romN (z - 10) ∧ romA (z - 10) j = c)) ∧ M' = M) := by
  refine MS.run ck_JS_indexOf2 [some (vr z), some (vi c), some (vi 0)] [] 10 fun _ _ => ?_
  simp only [wR, wB, wE0, wE1, wE2, wE3, g0, gS, s10, s11, s1S, s20, s21, s2S, kl0, kl1, kl2, kl3, sp0, sp1, sp2, sp3, cn1, cn2, cn3, cn4, cn5, cn6, jJa, lk0, lk1, jmS, jmN, s4_0, s4_1, s4_2, s4_3, s4_4, sw0, sw1, cKs, cKn, true_and, and_true, List.map_cons, List.map_nil, Nat.reduceAdd, Nat.zero_add, Int.reduceAdd, Nat.reduceEqDiff, reduceIte, Classical.not_not, b_JS_indexOf2]
  refine ⟨hz, by omega, MS.to (c_JS_isLatin1 hz) fun _ => ?_⟩
  simp only [wR, wB, wE0, wE1, wE2, wE3, g0, gS, s10, s11, s1S, s20, s21, s2S, kl0, kl1, kl2, kl3, sp0, sp1, sp2, sp3, cn1, cn2, cn3, cn4, cn5, cn6, jJa, lk0, lk1, jmS, jmN, s4_0, s4_1, s4_2, s4_3, s4_4, sw0, sw1, cKs, cKn, true_and, and_true, List.map_cons, List.map_nil, Nat.reduceAdd, Nat.zero_add, Int.reduceAdd, Nat.reduceEqDiff, reduceIte, Classical.not_not, b_JS_indexOf2]
  refine ⟨fun q => absurd q (by omega), fun _ => ⟨hz, hz, by omega, MS.to (c_JS_length (by omega) hz) fun _ => ?_⟩⟩
  simp only [wR, wB, wE0, wE1, wE2, wE3, g0, gS, s10, s11, s1S, s20, s21, s2S, kl0, kl1, kl2, kl3, sp0, sp1, sp2, sp3, cn1, cn2, cn3, cn4, cn5, cn6, jJa, lk0, lk1, jmS, jmN, s4_0, s4_1, s4_2, s4_3, s4_4, sw0, sw1, cKs, cKn, true_and, and_true, List.map_cons, List.map_nil, Nat.reduceAdd, Nat.zero_add, Int.reduceAdd, Nat.reduceEqDiff, reduceIte, Classical.not_not, b_JS_indexOf2]
  refine ⟨by omega, (c_JL_indexOf (by omega) ⟨by omega, by omega⟩ hc).mono fun r M' _ h => ?_⟩
  obtain ⟨⟨x, rfl, hx⟩, rfl⟩ := h
  simp only [wR, wB, wE0, wE1, wE2, wE3, g0, gS, s10, s11, s1S, s20, s21, s2S, kl0, kl1, kl2, kl3, sp0, sp1, sp2, sp3, cn1, cn2, cn3, cn4, cn5, cn6, jJa, lk0, lk1, jmS, jmN, s4_0, s4_1, s4_2, s4_3, s4_4, sw0, sw1, cKs, cKn, true_and, and_true, List.map_cons, List.map_nil, Nat.reduceAdd, Nat.zero_add, Int.reduceAdd, Nat.reduceEqDiff, reduceIte, Classical.not_not, b_JS_indexOf2]
  exact ⟨x, rfl, hx⟩
theorem c_JS_indexOf {z c : Int} (hd : 3 ≤ d) (hz : -13 ≤ z ∧ z ≤ -10) (hc : 0 ≤ c ∧ c < 256) : MS G d mi_JS_indexOf [vr z, vi c] M (fun r M' => (∃ x, r = some (vi x) ∧ (0 ≤ x ↔ ∃ j : Int, 0 ≤ j ∧ j < romN (z - 10) ∧ romA (z - 10) j = c)) ∧ M' = M) := by
  refine MS.run ck_JS_indexOf [some (vr z), some (vi c)] [] 10 fun _ _ => ?_
  simp only [wR, wB, wE0, wE1, wE2, wE3, g0, gS, s10, s11, s1S, s20, s21, s2S, kl0, kl1, kl2, kl3, sp0, sp1, sp2, sp3, cn1, cn2, cn3, cn4, cn5, cn6, jJa, lk0, lk1, jmS, jmN, s4_0, s4_1, s4_2, s4_3, s4_4, sw0, sw1, cKs, cKn, true_and, and_true, List.map_cons, List.map_nil, Nat.reduceAdd, Nat.zero_add, Int.reduceAdd, Nat.reduceEqDiff, reduceIte, Classical.not_not, b_JS_indexOf]
  refine ⟨hz, by omega, (c_JS_indexOf2 (by omega) hz hc).mono fun r M' _ h => ?_⟩
  obtain ⟨⟨x, rfl, hx⟩, rfl⟩ := h
  simp only [wR, wB, wE0, wE1, wE2, wE3, g0, gS, s10, s11, s1S, s20, s21, s2S, kl0, kl1, kl2, kl3, sp0, sp1, sp2, sp3, cn1, cn2, cn3, cn4, cn5, cn6, jJa, lk0, lk1, jmS, jmN, s4_0, s4_1, s4_2, s4_3, s4_4, sw0, sw1, cKs, cKn, true_and, and_true, List.map_cons, List.map_nil, Nat.reduceAdd, Nat.zero_add, Int.reduceAdd, Nat.reduceEqDiff, reduceIte, Classical.not_not, b_JS_indexOf]
  exact ⟨x, rfl, hx⟩
end JDK
