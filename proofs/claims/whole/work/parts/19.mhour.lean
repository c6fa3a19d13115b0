/-- sums of the first n -/
def sumN (f : Nat → Nat) : Nat → Nat
  | 0 => 0
  | n + 1 => sumN f n + f n
theorem sumN_le {f : Nat → Nat} (c : Nat) : ∀ n, (∀ p, p < n → f p ≤ c) → sumN f n ≤ c * n
  | 0, _ => by simp [sumN]
  | n + 1, h => by
    have := sumN_le c n (fun p hp => h p (by omega))
    have := h n (by omega)
    simp only [sumN, Nat.mul_succ]
    omega
/-- the strengths laid out of a stand -/
def laySt (M : AM) (s n : Nat) : AM := fun x y => if x = 118 ∧ 24 ≤ y ∧ y < 24 + (n : Int) then (dig s (y - 24).toNat : Int) else M x y
section MQ
variable {G : AG} {d : Nat} {M : AM}
theorem c_Md_hourTo {h : Hl} {sd : Nat → Nat} {s set cold : Nat} (hd : 3 ≤ d) (ok : HlOK h) (hH : MH (M 118) h) (hS : MSd (M 118) h.P sd) (hs : s < 100000) (hset : set < 32) (hc : cold ≤ 9) :
    MS G d mi_Md_hourTo [vr 117, vi s, vi set, vi cold] M (fun r M' => r = some (vi (nxt h sd cold s set)) ∧ Same [122, 123] M M') := by
  have hP5 := ok.1
  have m1 := hH.2.1
  refine MS.by ck_Md_hourTo [some (vr 117), some (vi s), some (vi set), some (vi cold), none, none] fun _ _ => ?_
  have loop : ∀ (k : Nat) (N : AM), k ≤ h.P → Same [122, 123] M N → AW G d mi_Md_hourTo (fun r M' => r = some (vi (nxt h sd cold s set)) ∧ Same [122, 123] M M') 13 [some (vr 117), some (vi s), some (vi set), some (vi cold), some (vi (codT (fun p => tired h sd cold set p (dig s p)) k (h.P - k))), some (vi ((k : Int) - 1))] [] N := by
    intro k
    induction k with
    | zero =>
      intro N _ hN
      refine AW.run ck_Md_hourTo [13] 8 13 ?_
      simp only [wR, wB, wE0, wE1, wE2, wE3, g0, gS, s10, s11, s1S, s20, s21, s2S, kl0, kl1, kl2, kl3, sp0, sp1, sp2, sp3, cn1, cn2, cn3, cn4, cn5, cn6, jJa, lk0, lk1, jmS, jmN, s4_0, s4_1, s4_2, s4_3, s4_4, sw0, sw1, cKs, cKn, true_and, and_true, List.map_cons, List.map_nil, Nat.reduceAdd, Nat.zero_add, Int.reduceAdd, Nat.reduceEqDiff, reduceIte, Classical.not_not, b_Md_hourTo, shMd]
      exact ⟨fun _ => ⟨rfl, hN⟩, fun h => absurd (by omega) h⟩
    | succ k ih =>
      intro N hk hN
      have e118 : N 118 = M 118 := hN 118 (by (first | decide | (simp only [List.mem_cons, List.not_mem_nil, or_false, not_or, not_false_eq_true, and_true]; omega) | (simp [List.mem_cons]; done)))
      have hl := codT_lt (f := fun p => tired h sd cold set p (dig s p)) (h.P - (k + 1)) (k + 1) (fun p a b => tired_le _ _ _ _ _ _)
      have hl5 : 5 ^ (h.P - (k + 1)) ≤ 5 ^ 4 := Nat.pow_le_pow_right (by omega) (by omega)
      have ht := tired_le h sd cold set k (dig s k)
      have e : (5 : Int) * (codT (fun p => tired h sd cold set p (dig s p)) (k + 1) (h.P - (k + 1)) : Nat) + (tired h sd cold set k (dig s k) : Nat) = ((codT (fun p => tired h sd cold set p (dig s p)) k (h.P - k) : Nat) : Int) := by
        rw [show h.P - k = (h.P - (k + 1)) + 1 by omega]
        simp only [codT]
        omega
      refine AW.run ck_Md_hourTo [13] 8 13 ?_
      simp only [wR, wB, wE0, wE1, wE2, wE3, g0, gS, s10, s11, s1S, s20, s21, s2S, kl0, kl1, kl2, kl3, sp0, sp1, sp2, sp3, cn1, cn2, cn3, cn4, cn5, cn6, jJa, lk0, lk1, jmS, jmN, s4_0, s4_1, s4_2, s4_3, s4_4, sw0, sw1, cKs, cKn, true_and, and_true, List.map_cons, List.map_nil, Nat.reduceAdd, Nat.zero_add, Int.reduceAdd, Nat.reduceEqDiff, reduceIte, Classical.not_not, b_Md_hourTo, shMd]
      rw [show ((k + 1 : Nat) : Int) - 1 = k by omega]
      (repeat' (first | omega | exact ⟨by omega, by omega⟩ | (with_reducible exact Or.inr trivial) | (with_reducible exact Or.inl trivial) | (with_reducible assumption) | (with_reducible exact Same.refl) | (with_reducible rfl) | (with_reducible refine And.intro ?_ ?_) | (with_reducible intro _)))
      refine (c_Md_tiredTo (by omega) ok (by rw [e118]; exact hH) (by rw [e118]; exact hS) hs hset (show k < h.P by omega) hc).mono ?_
      rintro r M' okM' ⟨rfl, hs2⟩
      simp only [wR, wB, wE0, wE1, wE2, wE3, g0, gS, s10, s11, s1S, s20, s21, s2S, kl0, kl1, kl2, kl3, sp0, sp1, sp2, sp3, cn1, cn2, cn3, cn4, cn5, cn6, jJa, lk0, lk1, jmS, jmN, s4_0, s4_1, s4_2, s4_3, s4_4, sw0, sw1, cKs, cKn, true_and, and_true, List.map_cons, List.map_nil, Nat.reduceAdd, Nat.zero_add, Int.reduceAdd, Nat.reduceEqDiff, reduceIte, Classical.not_not, b_Md_hourTo, shMd]
      (repeat' (first | omega | exact ⟨by omega, by omega⟩ | (with_reducible exact Or.inr trivial) | (with_reducible exact Or.inl trivial) | (with_reducible assumption) | (with_reducible exact Same.refl) | (with_reducible rfl) | (with_reducible refine And.intro ?_ ?_) | (with_reducible intro _)))
      rw [e]
      exact ih M' (by omega) (hN.trans hs2)
  refine AW.run ck_Md_hourTo [13] 8 0 ?_
  simp only [wR, wB, wE0, wE1, wE2, wE3, g0, gS, s10, s11, s1S, s20, s21, s2S, kl0, kl1, kl2, kl3, sp0, sp1, sp2, sp3, cn1, cn2, cn3, cn4, cn5, cn6, jJa, lk0, lk1, jmS, jmN, s4_0, s4_1, s4_2, s4_3, s4_4, sw0, sw1, cKs, cKn, true_and, and_true, List.map_cons, List.map_nil, Nat.reduceAdd, Nat.zero_add, Int.reduceAdd, Nat.reduceEqDiff, reduceIte, Classical.not_not, b_Md_hourTo, shMd, m1]
  (repeat' (first | omega | exact ⟨by omega, by omega⟩ | (with_reducible exact Or.inr trivial) | (with_reducible exact Or.inl trivial) | (with_reducible assumption) | (with_reducible exact Same.refl) | (with_reducible rfl) | (with_reducible refine And.intro ?_ ?_) | (with_reducible intro _)))
  have := loop h.P M (Nat.le_refl _) Same.refl
  rw [Nat.sub_self] at this
  exact this
theorem c_Md_countsIn {h : Hl} {sd : Nat → Nat} {s p cold : Nat} (hd : 2 ≤ d) (ok : HlOK h) (hH : MH (M 118) h) (hS : MSd (M 118) h.P sd) (hp : p < h.P) (hC : M 118 29 = cold) (hc : cold ≤ 9) :
    MS G d mi_Md_countsIn [vr 117, vi s, vi p] M (fun r M' => r = some (vi (if cnts h sd cold p (dig s p) = true then 1 else 0)) ∧ Same [122, 123] M M') := by
  have hP5 := ok.1
  obtain ⟨m0, m1, m2, m3, m4, m5⟩ := hH
  have hw := m3 p hp
  have hsd := hS p hp
  have hdg := dig_lt s p
  refine MS.run ck_Md_countsIn [some (vr 117), some (vi s), some (vi p)] [] 10 fun _ _ => ?_
  have h3 := m5.1
  rw [show (3 : Int) + ((1 : Nat) : Int) = 4 from rfl] at h3
  simp only [wR, wB, wE0, wE1, wE2, wE3, g0, gS, s10, s11, s1S, s20, s21, s2S, kl0, kl1, kl2, kl3, sp0, sp1, sp2, sp3, cn1, cn2, cn3, cn4, cn5, cn6, jJa, lk0, lk1, jmS, jmN, s4_0, s4_1, s4_2, s4_3, s4_4, sw0, sw1, cKs, cKn, true_and, and_true, List.map_cons, List.map_nil, Nat.reduceAdd, Nat.zero_add, Int.reduceAdd, Nat.reduceEqDiff, reduceIte, Classical.not_not, b_Md_countsIn, shMd]
  by_cases h0 : h.cN = 0
  · rw [if_pos h0] at h3
    (repeat' (first | omega | exact ⟨by omega, by omega⟩ | (with_reducible exact Or.inr trivial) | (with_reducible exact Or.inl trivial) | (with_reducible assumption) | (with_reducible exact Same.refl) | (with_reducible rfl) | (with_reducible refine And.intro ?_ ?_) | (with_reducible intro _)))
    rw [if_pos (by unfold cnts; simp [h0])]
  · rw [if_neg h0] at h3
    obtain ⟨f, hf, hn, hfn, hco⟩ := m5.2 h0
    (repeat' (first | omega | exact ⟨by omega, by omega⟩ | (with_reducible exact Or.inr trivial) | (with_reducible exact Or.inl trivial) | (with_reducible assumption) | (with_reducible exact Same.refl) | (with_reducible rfl) | (with_reducible refine And.intro ?_ ?_) | (with_reducible intro _)))
    refine MS.to (c_Md_strengthIn (by omega) (by omega)) fun _ => ?_
    simp only [wR, wB, wE0, wE1, wE2, wE3, g0, gS, s10, s11, s1S, s20, s21, s2S, kl0, kl1, kl2, kl3, sp0, sp1, sp2, sp3, cn1, cn2, cn3, cn4, cn5, cn6, jJa, lk0, lk1, jmS, jmN, s4_0, s4_1, s4_2, s4_3, s4_4, sw0, sw1, cKs, cKn, true_and, and_true, List.map_cons, List.map_nil, Nat.reduceAdd, Nat.zero_add, Int.reduceAdd, Nat.reduceEqDiff, reduceIte, Classical.not_not, b_Md_countsIn, shMd, hC]
    (repeat' (first | omega | exact ⟨by omega, by omega⟩ | (with_reducible exact Or.inr trivial) | (with_reducible exact Or.inl trivial) | (with_reducible assumption) | (with_reducible exact Same.refl) | (with_reducible rfl) | (with_reducible refine And.intro ?_ ?_) | (with_reducible intro _)))
    have hnum := wvC_num (h := h) (sd := sd) (cold := cold) (p := p) (str := dig s p) ok hsd.2 hc (by omega) (by omega)
    have ew : wvC h sd cold p (dig s p) = wv p (M 118 (19 + (p : Int))) (dig s p) (M 118 (9 + (p : Int))) (M 118 (14 + (p : Int))) cold 0 0 0 := by
      rw [hsd.1, hw.1, hw.2]; rfl
    refine (c_Md_reckons (law := 1) (p := p) (n := h.cN) (f := f) (code := h.cC) (b := false) (hl := 0) (mt := 0) (ot := 0) (by omega) (by omega) (by omega) hf hn hfn hco (ok.2.2.2.2.1 h0) (fun k hk a b => by have := ok.2.2.2.2.2.1 k hk; omega) (by rw [← ew]; exact hnum)).mono ?_
    rintro r M' okM' ⟨⟨x, rfl, hx⟩, hs2⟩
    rw [← ew] at hx
    simp only [wR, wB, wE0, wE1, wE2, wE3, g0, gS, s10, s11, s1S, s20, s21, s2S, kl0, kl1, kl2, kl3, sp0, sp1, sp2, sp3, cn1, cn2, cn3, cn4, cn5, cn6, jJa, lk0, lk1, jmS, jmN, s4_0, s4_1, s4_2, s4_3, s4_4, sw0, sw1, cKs, cKn, true_and, and_true, List.map_cons, List.map_nil, Nat.reduceAdd, Nat.zero_add, Int.reduceAdd, Nat.reduceEqDiff, reduceIte, Classical.not_not, b_Md_countsIn, shMd]
    have e : (cnts h sd cold p (dig s p) = true) ↔ x = 1 := by
      unfold cnts
      rw [hx]
      simp [h0, hd0]
    (repeat' (first | omega | exact ⟨by omega, by omega⟩ | (with_reducible exact Or.inr trivial) | (with_reducible exact Or.inl trivial) | (with_reducible assumption) | (with_reducible exact Same.refl) | (with_reducible rfl) | (with_reducible refine And.intro ?_ ?_) | (with_reducible intro _)))
    · rw [if_neg (by rw [e]; omega)]
    · rw [if_pos (by rw [e]; omega)]
theorem c_Md_countIn {h : Hl} {sd : Nat → Nat} {s set side cold : Nat} (hd : 3 ≤ d) (ok : HlOK h) (hH : MH (M 118) h) (hS : MSd (M 118) h.P sd) (hset : set < 32) (hC : M 118 29 = cold) (hc : cold ≤ 9) :
    MS G d mi_Md_countIn [vr 117, vi s, vi set, vi side] M (fun r M' => r = some (vi (hands h sd cold s set side)) ∧ Same [122, 123] M M') := by
  have hP5 := ok.1
  have m1 := hH.2.1
  refine MS.by ck_Md_countIn [some (vr 117), some (vi s), some (vi set), some (vi side), none, none] fun _ _ => ?_
  generalize hQ : (fun (r : Option AV) (M' : AM) => r = some (vi (hands h sd cold s set side)) ∧ Same [122, 123] M M') = Q
  generalize hf : (fun p => decide (set / 2 ^ p % 2 = 1 ∧ sd p = side) && cnts h sd cold p (dig s p)) = f
  have loop : ∀ (m i : Nat) (N : AM), i + m = h.P → Same [122, 123] M N → AW G d mi_Md_countIn Q 6 [some (vr 117), some (vi s), some (vi set), some (vi side), some (vi (cntP f i)), some (vi i)] [] N := by
    intro m
    induction m with
    | zero =>
      intro i N hi hN
      have e118 : N 118 = M 118 := hN 118 (by (first | decide | (simp only [List.mem_cons, List.not_mem_nil, or_false, not_or, not_false_eq_true, and_true]; omega) | (simp [List.mem_cons]; done)))
      refine AW.run ck_Md_countIn [6] 8 6 ?_
      simp only [wR, wB, wE0, wE1, wE2, wE3, g0, gS, s10, s11, s1S, s20, s21, s2S, kl0, kl1, kl2, kl3, sp0, sp1, sp2, sp3, cn1, cn2, cn3, cn4, cn5, cn6, jJa, lk0, lk1, jmS, jmN, s4_0, s4_1, s4_2, s4_3, s4_4, sw0, sw1, cKs, cKn, true_and, and_true, List.map_cons, List.map_nil, Nat.reduceAdd, Nat.zero_add, Int.reduceAdd, Nat.reduceEqDiff, reduceIte, Classical.not_not, b_Md_countIn, shMd, e118, m1]
      (repeat' (first | omega | exact ⟨by omega, by omega⟩ | (with_reducible exact Or.inr trivial) | (with_reducible exact Or.inl trivial) | (with_reducible assumption) | (with_reducible exact Same.refl) | (with_reducible rfl) | (with_reducible refine And.intro ?_ ?_) | (with_reducible intro _)))
      subst hQ
      obtain rfl : i = h.P := by omega
      exact ⟨by rw [← hf]; rfl, hN⟩
    | succ m ih =>
      intro i N hi hN
      have e118 : N 118 = M 118 := hN 118 (by (first | decide | (simp only [List.mem_cons, List.not_mem_nil, or_false, not_or, not_false_eq_true, and_true]; omega) | (simp [List.mem_cons]; done)))
      have hl := cntP_le f i
      have hsi := hS i (by omega)
      have fin : ∀ (N' : AM) (x : Int), x = (if f i = true then 1 else 0) → Same [122, 123] M N' → AW G d mi_Md_countIn Q 58 [some (vr 117), some (vi s), some (vi set), some (vi side), some (vi (cntP f i)), some (vi i)] [vi x, vi (cntP f i)] N' := by
        intro N' x hx hs'
        have key := ih (i + 1) N' (by omega) hs'
        have hx2 : x = 0 ∨ x = 1 := by rw [hx]; split <;> simp
        refine AW.run ck_Md_countIn [6] 8 58 ?_
        simp only [wR, wB, wE0, wE1, wE2, wE3, g0, gS, s10, s11, s1S, s20, s21, s2S, kl0, kl1, kl2, kl3, sp0, sp1, sp2, sp3, cn1, cn2, cn3, cn4, cn5, cn6, jJa, lk0, lk1, jmS, jmN, s4_0, s4_1, s4_2, s4_3, s4_4, sw0, sw1, cKs, cKn, true_and, and_true, List.map_cons, List.map_nil, Nat.reduceAdd, Nat.zero_add, Int.reduceAdd, Nat.reduceEqDiff, reduceIte, Classical.not_not, b_Md_countIn, shMd, ce]
        (repeat' (first | omega | exact ⟨by omega, by omega⟩ | (with_reducible exact Or.inr trivial) | (with_reducible exact Or.inl trivial) | (with_reducible assumption) | (with_reducible exact Same.refl) | (with_reducible rfl) | (with_reducible refine And.intro ?_ ?_) | (with_reducible intro _)))
        have e : (cntP f i : Int) + x = ((cntP f (i + 1) : Nat) : Int) := by
          simp only [cntP]
          rw [hx]
          split <;> simp
        rw [e]
        exact key
      have hb2 : set / 2 ^ i % 2 < 2 := Nat.mod_lt _ (by omega)
      refine AW.run ck_Md_countIn [58] 8 6 ?_
      simp only [wR, wB, wE0, wE1, wE2, wE3, g0, gS, s10, s11, s1S, s20, s21, s2S, kl0, kl1, kl2, kl3, sp0, sp1, sp2, sp3, cn1, cn2, cn3, cn4, cn5, cn6, jJa, lk0, lk1, jmS, jmN, s4_0, s4_1, s4_2, s4_3, s4_4, sw0, sw1, cKs, cKn, true_and, and_true, List.map_cons, List.map_nil, Nat.reduceAdd, Nat.zero_add, Int.reduceAdd, Nat.reduceEqDiff, reduceIte, Classical.not_not, b_Md_countIn, shMd, e118, m1]
      (repeat' (first | omega | exact ⟨by omega, by omega⟩ | (with_reducible exact Or.inr trivial) | (with_reducible exact Or.inl trivial) | (with_reducible assumption) | (with_reducible exact Same.refl) | (with_reducible rfl) | (with_reducible refine And.intro ?_ ?_) | (with_reducible intro _)))
      refine MS.to (c_Md_isIn (by omega) (by omega)) fun _ => ?_
      simp only [wR, wB, wE0, wE1, wE2, wE3, g0, gS, s10, s11, s1S, s20, s21, s2S, kl0, kl1, kl2, kl3, sp0, sp1, sp2, sp3, cn1, cn2, cn3, cn4, cn5, cn6, jJa, lk0, lk1, jmS, jmN, s4_0, s4_1, s4_2, s4_3, s4_4, sw0, sw1, cKs, cKn, true_and, and_true, List.map_cons, List.map_nil, Nat.reduceAdd, Nat.zero_add, Int.reduceAdd, Nat.reduceEqDiff, reduceIte, Classical.not_not, b_Md_countIn, shMd, e118, hsi.1]
      (repeat' (first | omega | exact ⟨by omega, by omega⟩ | (with_reducible exact Or.inr trivial) | (with_reducible exact Or.inl trivial) | (with_reducible assumption) | (with_reducible exact Same.refl) | (with_reducible rfl) | (with_reducible refine And.intro ?_ ?_) | (with_reducible intro _)))
      · refine fin N 0 ?_ hN
        rw [if_neg]
        subst hf
        simp
        omega
      · refine fin N 0 ?_ hN
        rw [if_neg]
        subst hf
        simp
        omega
      · refine (c_Md_countsIn (by omega) ok (by rw [e118]; exact hH) (by rw [e118]; exact hS) (show i < h.P by omega) (by rw [e118]; exact hC) hc).mono ?_
        rintro r M' okM' ⟨rfl, hs2⟩
        simp only [wR, wB, wE0, wE1, wE2, wE3, g0, gS, s10, s11, s1S, s20, s21, s2S, kl0, kl1, kl2, kl3, sp0, sp1, sp2, sp3, cn1, cn2, cn3, cn4, cn5, cn6, jJa, lk0, lk1, jmS, jmN, s4_0, s4_1, s4_2, s4_3, s4_4, sw0, sw1, cKs, cKn, true_and, and_true, List.map_cons, List.map_nil, Nat.reduceAdd, Nat.zero_add, Int.reduceAdd, Nat.reduceEqDiff, reduceIte, Classical.not_not, b_Md_countIn, shMd]
        have hfi : f i = cnts h sd cold i (dig s i) := by
          subst hf
          simp
          omega
        rw [← hfi]
        refine ⟨fun q => ?_, fun q => ?_⟩
        · refine fin M' 0 ?_ (hN.trans hs2)
          by_cases hq : f i = true
          · rw [if_pos hq] at q; omega
          · rw [if_neg hq]
        · refine fin M' 1 ?_ (hN.trans hs2)
          by_cases hq : f i = true
          · rw [if_pos hq]
          · rw [if_neg hq] at q; omega
  refine AW.run ck_Md_countIn [6] 8 0 ?_
  simp only [wR, wB, wE0, wE1, wE2, wE3, g0, gS, s10, s11, s1S, s20, s21, s2S, kl0, kl1, kl2, kl3, sp0, sp1, sp2, sp3, cn1, cn2, cn3, cn4, cn5, cn6, jJa, lk0, lk1, jmS, jmN, s4_0, s4_1, s4_2, s4_3, s4_4, sw0, sw1, cKs, cKn, true_and, and_true, List.map_cons, List.map_nil, Nat.reduceAdd, Nat.zero_add, Int.reduceAdd, Nat.reduceEqDiff, reduceIte, Classical.not_not, b_Md_countIn]
  exact loop h.P 0 M (by omega) Same.refl
theorem c_Md_standing {h : Hl} {sd : Nat → Nat} {s set cold : Nat} (hd : 4 ≤ d) (ok : HlOK h) (hH : MH (M 118) h) (hS : MSd (M 118) h.P sd) (hset : set < 32) (hC : M 118 29 = cold) (hc : cold ≤ 9) :
    MS G d mi_Md_standing [vr 117, vi s, vi set] M (fun r M' => r = some (vi (stood h sd cold s set)) ∧ Same [122, 123] M M') := by
  have m2 := hH.2.2.1
  refine MS.run ck_Md_standing [some (vr 117), some (vi s), some (vi set)] [] 10 fun _ _ => ?_
  simp only [wR, wB, wE0, wE1, wE2, wE3, g0, gS, s10, s11, s1S, s20, s21, s2S, kl0, kl1, kl2, kl3, sp0, sp1, sp2, sp3, cn1, cn2, cn3, cn4, cn5, cn6, jJa, lk0, lk1, jmS, jmN, s4_0, s4_1, s4_2, s4_3, s4_4, sw0, sw1, cKs, cKn, true_and, and_true, List.map_cons, List.map_nil, Nat.reduceAdd, Nat.zero_add, Int.reduceAdd, Nat.reduceEqDiff, reduceIte, Classical.not_not, b_Md_standing, shMd]
  refine ⟨by omega, (c_Md_countIn (side := 0) (by omega) ok hH hS hset hC hc).mono ?_⟩
  rintro r M' okM' ⟨rfl, hs⟩
  have e118 : M' 118 = M 118 := hs 118 (by (first | decide | (simp only [List.mem_cons, List.not_mem_nil, or_false, not_or, not_false_eq_true, and_true]; omega) | (simp [List.mem_cons]; done)))
  simp only [wR, wB, wE0, wE1, wE2, wE3, g0, gS, s10, s11, s1S, s20, s21, s2S, kl0, kl1, kl2, kl3, sp0, sp1, sp2, sp3, cn1, cn2, cn3, cn4, cn5, cn6, jJa, lk0, lk1, jmS, jmN, s4_0, s4_1, s4_2, s4_3, s4_4, sw0, sw1, cKs, cKn, true_and, and_true, List.map_cons, List.map_nil, Nat.reduceAdd, Nat.zero_add, Int.reduceAdd, Nat.reduceEqDiff, reduceIte, Classical.not_not, b_Md_standing, shMd, e118, m2]
  refine ⟨by omega, fun q => ⟨by omega, ?_⟩, fun q => ⟨by omega, ?_⟩⟩
  all_goals
    refine (c_Md_countIn (side := 1) (by omega) ok (by rw [e118]; exact hH) (by rw [e118]; exact hS) hset (by rw [e118]; exact hC) hc).mono ?_
    rintro r M2 okM2 ⟨rfl, hs2⟩
    have e118' : M2 118 = M 118 := (hs.trans hs2) 118 (by (first | decide | (simp only [List.mem_cons, List.not_mem_nil, or_false, not_or, not_false_eq_true, and_true]; omega) | (simp [List.mem_cons]; done)))
    simp only [wR, wB, wE0, wE1, wE2, wE3, g0, gS, s10, s11, s1S, s20, s21, s2S, kl0, kl1, kl2, kl3, sp0, sp1, sp2, sp3, cn1, cn2, cn3, cn4, cn5, cn6, jJa, lk0, lk1, jmS, jmN, s4_0, s4_1, s4_2, s4_3, s4_4, sw0, sw1, cKs, cKn, true_and, and_true, List.map_cons, List.map_nil, Nat.reduceAdd, Nat.zero_add, Int.reduceAdd, Nat.reduceEqDiff, reduceIte, Classical.not_not, b_Md_standing, shMd, e118', m2]
    unfold stood
    refine ⟨by omega, fun q2 => ⟨?_, hs.trans hs2⟩, fun q2 => ⟨?_, hs.trans hs2⟩⟩
  · rw [if_neg (by omega), if_neg (by omega)]; decide +kernel
  · rw [if_neg (by omega), if_pos (by omega)]; decide +kernel
  · rw [if_pos (by omega), if_neg (by omega)]; decide +kernel
  · rw [if_pos (by omega), if_pos (by omega)]; decide +kernel
/-- those who can hold, by strengths -/
def ablM (P : Nat) (st : Nat → Nat) : Nat := bitsP (fun p => decide (0 < st p)) P
theorem ablM_lt {P : Nat} {st : Nat → Nat} (h : P ≤ 5) : ablM P st < 32 := bitsP32 h
theorem ablS_cod {P : Nat} {st : Nat → Nat} (h : ∀ p, p < P → st p ≤ 4) : ablS P (cod st P) = ablM P st := by
  refine bitsP_congr P (fun p hp => ?_)
  rw [dig_cod0 h, if_pos hp]
def whyS (P : Nat) (st : Nat → Nat) (v : Int) : Int := if 0 ≤ v ∧ v < ((2 ^ P : Nat) : Int) then (if v.toNat &&& (31 ^^^ ablM P st) = 0 then 0 else 2) else 1
theorem c_Md_whySet {P : Nat} {st : Nat → Nat} {v : Int} (hd : 3 ≤ d) (hP : M 118 1 = P) (hP5 : P ≤ 5) (hst : MSt (M 118) P st) :
    MS G d mi_Md_whySet [vr 117, vl v] M (fun r M' => r = some (vi (whyS P st v)) ∧ M' = M) := by
  have h32 : 2 ^ P ≤ 2 ^ 5 := Nat.pow_le_pow_right (by omega) hP5
  refine MS.run ck_Md_whySet [some (vr 117), some (vl v), none] [] 10 fun _ _ => ?_
  simp only [wR, wB, wE0, wE1, wE2, wE3, g0, gS, s10, s11, s1S, s20, s21, s2S, kl0, kl1, kl2, kl3, sp0, sp1, sp2, sp3, cn1, cn2, cn3, cn4, cn5, cn6, jJa, lk0, lk1, jmS, jmN, s4_0, s4_1, s4_2, s4_3, s4_4, sw0, sw1, cKs, cKn, true_and, and_true, List.map_cons, List.map_nil, Nat.reduceAdd, Nat.zero_add, Int.reduceAdd, Nat.reduceEqDiff, reduceIte, Classical.not_not, b_Md_whySet, shMd]
  refine ⟨by omega, MS.to (c_Md_isSet (by omega) hP hP5) fun _ => ?_⟩
  simp only [wR, wB, wE0, wE1, wE2, wE3, g0, gS, s10, s11, s1S, s20, s21, s2S, kl0, kl1, kl2, kl3, sp0, sp1, sp2, sp3, cn1, cn2, cn3, cn4, cn5, cn6, jJa, lk0, lk1, jmS, jmN, s4_0, s4_1, s4_2, s4_3, s4_4, sw0, sw1, cKs, cKn, true_and, and_true, List.map_cons, List.map_nil, Nat.reduceAdd, Nat.zero_add, Int.reduceAdd, Nat.reduceEqDiff, reduceIte, Classical.not_not, b_Md_whySet, shMd]
  unfold whyS
  by_cases h : 0 ≤ v ∧ v < ((2 ^ P : Nat) : Int)
  · rw [if_pos h, if_pos h]
    obtain ⟨n, rfl⟩ := Int.eq_ofNat_of_zero_le h.1
    have hn : n < 2 ^ P := by omega
    have ew : w3 (n : Int) = n := w3_id ⟨by omega, by omega⟩
    (repeat' (first | omega | exact ⟨by omega, by omega⟩ | (with_reducible exact Or.inr trivial) | (with_reducible exact Or.inl trivial) | (with_reducible assumption) | (with_reducible exact Same.refl) | (with_reducible rfl) | (with_reducible refine And.intro ?_ ?_) | (with_reducible intro _)))
    refine MS.to (c_Md_standNow hP hP5 hst) fun _ => ?_
    simp only [wR, wB, wE0, wE1, wE2, wE3, g0, gS, s10, s11, s1S, s20, s21, s2S, kl0, kl1, kl2, kl3, sp0, sp1, sp2, sp3, cn1, cn2, cn3, cn4, cn5, cn6, jJa, lk0, lk1, jmS, jmN, s4_0, s4_1, s4_2, s4_3, s4_4, sw0, sw1, cKs, cKn, true_and, and_true, List.map_cons, List.map_nil, Nat.reduceAdd, Nat.zero_add, Int.reduceAdd, Nat.reduceEqDiff, reduceIte, Classical.not_not, b_Md_whySet, shMd, ew]
    (repeat' (first | omega | exact ⟨by omega, by omega⟩ | (with_reducible exact Or.inr trivial) | (with_reducible exact Or.inl trivial) | (with_reducible assumption) | (with_reducible exact Same.refl) | (with_reducible rfl) | (with_reducible refine And.intro ?_ ?_) | (with_reducible intro _)))
    refine MS.to (c_Md_ableIn (by omega) hP hP5) fun _ => ?_
    have e : bitsP (fun p => decide (0 < dig (cod st P) p)) P = ablM P st := ablS_cod (fun p hp => (hst p hp).2)
    rw [e]
    simp only [wR, wB, wE0, wE1, wE2, wE3, g0, gS, s10, s11, s1S, s20, s21, s2S, kl0, kl1, kl2, kl3, sp0, sp1, sp2, sp3, cn1, cn2, cn3, cn4, cn5, cn6, jJa, lk0, lk1, jmS, jmN, s4_0, s4_1, s4_2, s4_3, s4_4, sw0, sw1, cKs, cKn, true_and, and_true, List.map_cons, List.map_nil, Nat.reduceAdd, Nat.zero_add, Int.reduceAdd, Nat.reduceEqDiff, reduceIte, Classical.not_not, b_Md_whySet, shMd, bAndN_n (show n < 32 by omega) (ablM_lt (st := st) hP5), Int.toNat_natCast]
    refine ⟨fun q => ?_, fun q => ?_⟩
    · rw [if_pos (by omega)]
    · rw [if_neg (by omega)]
  · rw [if_neg h, if_neg h]
    (repeat' (first | omega | exact ⟨by omega, by omega⟩ | (with_reducible exact Or.inr trivial) | (with_reducible exact Or.inl trivial) | (with_reducible assumption) | (with_reducible exact Same.refl) | (with_reducible rfl) | (with_reducible refine And.intro ?_ ?_) | (with_reducible intro _)))
theorem c_Md_sumIn {P s : Nat} (hd : 2 ≤ d) (hP : M 118 1 = P) (hP5 : P ≤ 5) : MS G d mi_Md_sumIn [vr 117, vi s] M (fun r M' => r = some (vi (sumN (dig s) P)) ∧ M' = M) := by
  refine MS.by ck_Md_sumIn [some (vr 117), some (vi s), none, none] fun _ _ => ?_
  have loop : ∀ (m i : Nat), i + m = P → AW G d mi_Md_sumIn (fun r M' => r = some (vi (sumN (dig s) P)) ∧ M' = M) 4 [some (vr 117), some (vi s), some (vi (sumN (dig s) i)), some (vi i)] [] M := by
    intro m
    induction m with
    | zero =>
      intro i hi
      refine AW.run ck_Md_sumIn [4] 8 4 ?_
      simp only [wR, wB, wE0, wE1, wE2, wE3, g0, gS, s10, s11, s1S, s20, s21, s2S, kl0, kl1, kl2, kl3, sp0, sp1, sp2, sp3, cn1, cn2, cn3, cn4, cn5, cn6, jJa, lk0, lk1, jmS, jmN, s4_0, s4_1, s4_2, s4_3, s4_4, sw0, sw1, cKs, cKn, true_and, and_true, List.map_cons, List.map_nil, Nat.reduceAdd, Nat.zero_add, Int.reduceAdd, Nat.reduceEqDiff, reduceIte, Classical.not_not, b_Md_sumIn, shMd, hP]
      (repeat' (first | omega | exact ⟨by omega, by omega⟩ | (with_reducible exact Or.inr trivial) | (with_reducible exact Or.inl trivial) | (with_reducible assumption) | (with_reducible exact Same.refl) | (with_reducible rfl) | (with_reducible refine And.intro ?_ ?_) | (with_reducible intro _)))
      rw [show i = P by omega]
    | succ m ih =>
      intro i hi
      have key := ih (i + 1) (by omega)
      have hl := sumN_le (f := dig s) 4 i (fun p _ => by have := dig_lt s p; omega)
      have hg := dig_lt s i
      refine AW.run ck_Md_sumIn [4] 8 4 ?_
      simp only [wR, wB, wE0, wE1, wE2, wE3, g0, gS, s10, s11, s1S, s20, s21, s2S, kl0, kl1, kl2, kl3, sp0, sp1, sp2, sp3, cn1, cn2, cn3, cn4, cn5, cn6, jJa, lk0, lk1, jmS, jmN, s4_0, s4_1, s4_2, s4_3, s4_4, sw0, sw1, cKs, cKn, true_and, and_true, List.map_cons, List.map_nil, Nat.reduceAdd, Nat.zero_add, Int.reduceAdd, Nat.reduceEqDiff, reduceIte, Classical.not_not, b_Md_sumIn, shMd, hP]
      (repeat' (first | omega | exact ⟨by omega, by omega⟩ | (with_reducible exact Or.inr trivial) | (with_reducible exact Or.inl trivial) | (with_reducible assumption) | (with_reducible exact Same.refl) | (with_reducible rfl) | (with_reducible refine And.intro ?_ ?_) | (with_reducible intro _)))
      refine MS.to (c_Md_strengthIn (by omega) (by omega)) fun _ => ?_
      simp only [wR, wB, wE0, wE1, wE2, wE3, g0, gS, s10, s11, s1S, s20, s21, s2S, kl0, kl1, kl2, kl3, sp0, sp1, sp2, sp3, cn1, cn2, cn3, cn4, cn5, cn6, jJa, lk0, lk1, jmS, jmN, s4_0, s4_1, s4_2, s4_3, s4_4, sw0, sw1, cKs, cKn, true_and, and_true, List.map_cons, List.map_nil, Nat.reduceAdd, Nat.zero_add, Int.reduceAdd, Nat.reduceEqDiff, reduceIte, Classical.not_not, b_Md_sumIn, shMd, ce]
      (repeat' (first | omega | exact ⟨by omega, by omega⟩ | (with_reducible exact Or.inr trivial) | (with_reducible exact Or.inl trivial) | (with_reducible assumption) | (with_reducible exact Same.refl) | (with_reducible rfl) | (with_reducible refine And.intro ?_ ?_) | (with_reducible intro _)))
      exact key
  refine AW.run ck_Md_sumIn [4] 8 0 ?_
  simp only [wR, wB, wE0, wE1, wE2, wE3, g0, gS, s10, s11, s1S, s20, s21, s2S, kl0, kl1, kl2, kl3, sp0, sp1, sp2, sp3, cn1, cn2, cn3, cn4, cn5, cn6, jJa, lk0, lk1, jmS, jmN, s4_0, s4_1, s4_2, s4_3, s4_4, sw0, sw1, cKs, cKn, true_and, and_true, List.map_cons, List.map_nil, Nat.reduceAdd, Nat.zero_add, Int.reduceAdd, Nat.reduceEqDiff, reduceIte, Classical.not_not, b_Md_sumIn]
  exact loop P 0 (by omega)
theorem c_Md_isStand {P s : Nat} (hd : 2 ≤ d) (hP : M 118 1 = P) (hP5 : P ≤ 5) : MS G d mi_Md_isStand [vr 117, vi s] M (fun r M' => r = none ∧ M' = laySt M s P) := by
  refine MS.by ck_Md_isStand [some (vr 117), some (vi s), none] fun _ _ => ?_
  have e1 : ∀ i, i ≤ 5 → laySt M s i 118 1 = P := by
    intro i hi
    unfold laySt
    rw [if_neg (by omega), hP]
  have loop : ∀ (m i : Nat), i + m = P → AW G d mi_Md_isStand (fun r M' => r = none ∧ M' = laySt M s P) 2 [some (vr 117), some (vi s), some (vi i)] [] (laySt M s i) := by
    intro m
    induction m with
    | zero =>
      intro i hi
      refine AW.run ck_Md_isStand [2] 8 2 ?_
      simp only [wR, wB, wE0, wE1, wE2, wE3, g0, gS, s10, s11, s1S, s20, s21, s2S, kl0, kl1, kl2, kl3, sp0, sp1, sp2, sp3, cn1, cn2, cn3, cn4, cn5, cn6, jJa, lk0, lk1, jmS, jmN, s4_0, s4_1, s4_2, s4_3, s4_4, sw0, sw1, cKs, cKn, true_and, and_true, List.map_cons, List.map_nil, Nat.reduceAdd, Nat.zero_add, Int.reduceAdd, Nat.reduceEqDiff, reduceIte, Classical.not_not, b_Md_isStand, shMd, e1 i (by omega)]
      (repeat' (first | omega | exact ⟨by omega, by omega⟩ | (with_reducible exact Or.inr trivial) | (with_reducible exact Or.inl trivial) | (with_reducible assumption) | (with_reducible exact Same.refl) | (with_reducible rfl) | (with_reducible refine And.intro ?_ ?_) | (with_reducible intro _)))
      rw [show i = P by omega]
    | succ m ih =>
      intro i hi
      have key := ih (i + 1) (by omega)
      have e2 : up (laySt M s i) 118 (24 + (i : Int)) (dig s i) = laySt M s (i + 1) := by
        funext x y
        unfold up laySt
        by_cases q : x = 118 ∧ y = 24 + (i : Int)
        · rw [if_pos q, if_pos (by omega), show (y - 24).toNat = i by omega]
        · rw [if_neg q]
          by_cases q2 : x = 118 ∧ 24 ≤ y ∧ y < 24 + (i : Int)
          · rw [if_pos q2, if_pos (by omega)]
          · rw [if_neg q2, if_neg (by omega)]
      refine AW.run ck_Md_isStand [2] 8 2 ?_
      simp only [wR, wB, wE0, wE1, wE2, wE3, g0, gS, s10, s11, s1S, s20, s21, s2S, kl0, kl1, kl2, kl3, sp0, sp1, sp2, sp3, cn1, cn2, cn3, cn4, cn5, cn6, jJa, lk0, lk1, jmS, jmN, s4_0, s4_1, s4_2, s4_3, s4_4, sw0, sw1, cKs, cKn, true_and, and_true, List.map_cons, List.map_nil, Nat.reduceAdd, Nat.zero_add, Int.reduceAdd, Nat.reduceEqDiff, reduceIte, Classical.not_not, b_Md_isStand, shMd, e1 i (by omega)]
      (repeat' (first | omega | exact ⟨by omega, by omega⟩ | (with_reducible exact Or.inr trivial) | (with_reducible exact Or.inl trivial) | (with_reducible assumption) | (with_reducible exact Same.refl) | (with_reducible rfl) | (with_reducible refine And.intro ?_ ?_) | (with_reducible intro _)))
      refine MS.to (c_Md_strengthIn (by omega) (by omega)) fun _ => ?_
      simp only [wR, wB, wE0, wE1, wE2, wE3, g0, gS, s10, s11, s1S, s20, s21, s2S, kl0, kl1, kl2, kl3, sp0, sp1, sp2, sp3, cn1, cn2, cn3, cn4, cn5, cn6, jJa, lk0, lk1, jmS, jmN, s4_0, s4_1, s4_2, s4_3, s4_4, sw0, sw1, cKs, cKn, true_and, and_true, List.map_cons, List.map_nil, Nat.reduceAdd, Nat.zero_add, Int.reduceAdd, Nat.reduceEqDiff, reduceIte, Classical.not_not, b_Md_isStand, shMd, ce]
      (repeat' (first | omega | exact ⟨by omega, by omega⟩ | (with_reducible exact Or.inr trivial) | (with_reducible exact Or.inl trivial) | (with_reducible assumption) | (with_reducible exact Same.refl) | (with_reducible rfl) | (with_reducible refine And.intro ?_ ?_) | (with_reducible intro _)))
      rw [e2]
      exact key
  refine AW.run ck_Md_isStand [2] 8 0 ?_
  simp only [wR, wB, wE0, wE1, wE2, wE3, g0, gS, s10, s11, s1S, s20, s21, s2S, kl0, kl1, kl2, kl3, sp0, sp1, sp2, sp3, cn1, cn2, cn3, cn4, cn5, cn6, jJa, lk0, lk1, jmS, jmN, s4_0, s4_1, s4_2, s4_3, s4_4, sw0, sw1, cKs, cKn, true_and, and_true, List.map_cons, List.map_nil, Nat.reduceAdd, Nat.zero_add, Int.reduceAdd, Nat.reduceEqDiff, reduceIte, Classical.not_not, b_Md_isStand]
  have := loop P 0 (by omega)
  have e0 : laySt M s 0 = M := by
    funext x y
    unfold laySt
    rw [if_neg (by omega)]
  rw [e0] at this
  exact this
end MQ
