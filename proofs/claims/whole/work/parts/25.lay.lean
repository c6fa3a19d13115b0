/-! Steps: the tables laid out -/
/-- parts added to a row of a table -/
def addP (M : AM) (tb a f pw n : Int) : AM := fun x y => if x = tb ∧ a ≤ y ∧ y < a + n then M tb y + M 35 (f + (y - a)) * pw else M x y
theorem addP_0 {M : AM} {tb a f pw : Int} : addP M tb a f pw 0 = M := by
  funext x y
  unfold addP
  rw [if_neg (by omega)]
theorem addP_s {M : AM} {tb a f pw n : Int} (hn : 0 ≤ n) (h : tb ≠ 35) : up (addP M tb a f pw n) tb (a + n) (addP M tb a f pw n tb (a + n) + addP M tb a f pw n 35 (f + n) * pw) = addP M tb a f pw (n + 1) := by
  funext x y
  have e1 : addP M tb a f pw n tb (a + n) = M tb (a + n) := by unfold addP; rw [if_neg (by omega)]
  have e2 : addP M tb a f pw n 35 (f + n) = M 35 (f + n) := by unfold addP; rw [if_neg (by omega)]
  rw [e1, e2]
  unfold up addP
  by_cases q : x = tb ∧ y = a + n
  · rw [if_pos q, if_pos (by omega), q.2, show a + n - a = n by omega]
  · rw [if_neg q]
    by_cases q2 : x = tb ∧ a ≤ y ∧ y < a + n
    · rw [if_pos q2, if_pos (by omega)]
    · rw [if_neg q2, if_neg (by omega)]
section SU
variable {G : AG} {d : Nat} {M : AM}
theorem c_St_addParts {tb a f pw : Int} {n : Nat} (ht : arT tb .int) (hn : tb ≠ 35) (h2 : M 33 2 = n) (ha : 0 ≤ a) (ha2 : a + n ≤ alen tb) (hl : alen tb ≤ 4000) (hf : 0 ≤ f) (hf2 : f + n ≤ 800) (hp0 : 0 ≤ pw) (hp : pw ≤ 625) (hT : ∀ k : Nat, k < n → 0 ≤ M tb (a + k) ∧ M tb (a + k) ≤ 100000) (hQ : ∀ k : Nat, k < n → 0 ≤ M 35 (f + k) ∧ M 35 (f + k) ≤ 4) :
    MS G d mi_St_addParts [vr 33, vr tb, vi a, vi f, vi pw] M (fun r M' => r = none ∧ M' = addP M tb a f pw n) := by
  have hne : tb ≠ 33 := fun e => isO_arT shSt.1 ht e.symm
  refine MS.by ck_St_addParts [some (vr 33), some (vr tb), some (vi a), some (vi f), some (vi pw), none] fun _ _ => ?_
  have loop : ∀ (k i : Nat), i + k = n → AW G d mi_St_addParts (fun r M' => r = none ∧ M' = addP M tb a f pw n) 3 [some (vr 33), some (vr tb), some (vi a), some (vi f), some (vi pw), some (vi i)] [] (addP M tb a f pw i) := by
    intro k
    induction k with
    | zero =>
      intro i hi
      have e3 : addP M tb a f pw i 33 2 = n := by unfold addP; rw [if_neg (by omega)]; exact h2
      refine AW.run ck_St_addParts [3] 8 3 ?_
      simp only [wR, wB, wE0, wE1, wE2, wE3, g0, gS, s10, s11, s1S, s20, s21, s2S, kl0, kl1, kl2, kl3, sp0, sp1, sp2, sp3, cn1, cn2, cn3, cn4, cn5, cn6, jJa, lk0, lk1, jmS, jmN, s4_0, s4_1, s4_2, s4_3, s4_4, sw0, sw1, cKs, cKn, true_and, and_true, List.map_cons, List.map_nil, Nat.reduceAdd, Nat.zero_add, Int.reduceAdd, Nat.reduceEqDiff, reduceIte, Classical.not_not, b_St_addParts, shSt, e3]
      (repeat' (first | omega | exact ⟨by omega, by omega⟩ | (with_reducible exact Or.inr trivial) | (with_reducible exact Or.inl trivial) | (with_reducible assumption) | (with_reducible exact Same.refl) | (with_reducible rfl) | (with_reducible refine And.intro ?_ ?_) | (with_reducible intro _)))
      rw [show n = i by omega]
    | succ k ih =>
      intro i hi
      have e3 : addP M tb a f pw i 33 2 = n := by unfold addP; rw [if_neg (by omega)]; exact h2
      have e1 : addP M tb a f pw i tb (a + i) = M tb (a + i) := by unfold addP; rw [if_neg (by omega)]
      have e2 : addP M tb a f pw i 35 (f + i) = M 35 (f + i) := by unfold addP; rw [if_neg (by omega)]
      have t1 := hT i (by omega)
      have t2 := hQ i (by omega)
      have m1 : 0 ≤ M 35 (f + i) * pw := Int.mul_nonneg t2.1 hp0
      have m2 : M 35 (f + i) * pw ≤ 4 * 625 := Int.mul_le_mul t2.2 hp hp0 (by omega)
      have key := addP_s (M := M) (tb := tb) (a := a) (f := f) (pw := pw) (n := i) (by omega) hn
      refine AW.run ck_St_addParts [3] 8 3 ?_
      simp only [wR, wB, wE0, wE1, wE2, wE3, g0, gS, s10, s11, s1S, s20, s21, s2S, kl0, kl1, kl2, kl3, sp0, sp1, sp2, sp3, cn1, cn2, cn3, cn4, cn5, cn6, jJa, lk0, lk1, jmS, jmN, s4_0, s4_1, s4_2, s4_3, s4_4, sw0, sw1, cKs, cKn, true_and, and_true, List.map_cons, List.map_nil, Nat.reduceAdd, Nat.zero_add, Int.reduceAdd, Nat.reduceEqDiff, reduceIte, Classical.not_not, b_St_addParts, shSt, e3, ht, ce]
      rw [e1, e2] at key ⊢
      (repeat' (first | omega | exact ⟨by omega, by omega⟩ | (with_reducible exact Or.inr trivial) | (with_reducible exact Or.inl trivial) | (with_reducible assumption) | (with_reducible exact Same.refl) | (with_reducible rfl) | (with_reducible refine And.intro ?_ ?_) | (with_reducible intro _)))
      rw [key]
      exact ih (i + 1) (by omega)
  refine AW.run ck_St_addParts [3] 8 0 ?_
  simp only [wR, wB, wE0, wE1, wE2, wE3, g0, gS, s10, s11, s1S, s20, s21, s2S, kl0, kl1, kl2, kl3, sp0, sp1, sp2, sp3, cn1, cn2, cn3, cn4, cn5, cn6, jJa, lk0, lk1, jmS, jmN, s4_0, s4_1, s4_2, s4_3, s4_4, sw0, sw1, cKs, cKn, true_and, and_true, List.map_cons, List.map_nil, Nat.reduceAdd, Nat.zero_add, Int.reduceAdd, Nat.reduceEqDiff, reduceIte, Classical.not_not, b_St_addParts]
  have := loop n 0 (by omega)
  rwa [show (((0 : Nat) : Int)) = 0 from rfl, addP_0] at this
def wb (W p : Nat) : Bool := decide (W / 2 ^ p % 2 = 1)
theorem wb_iff {W p : Nat} : wb W p = true ↔ W / 2 ^ p % 2 = 1 := by unfold wb; exact decide_eq_true_iff
/-- what lies in the tables, of the first n people from one on -/
def lyT (h : Hl) (sd : Nat → Nat) (cold W f code set n : Nat) : Nat := sumN (fun i => if wb W (f + i) = true then prt h sd cold set (f + i) (dig code i) * 5 ^ (f + i) else 0) n
def lyA (W f code n : Nat) : Nat := sumN (fun i => if wb W (f + i) = true ∧ 0 < dig code i then 2 ^ (f + i) else 0) n
def lyC (h : Hl) (sd : Nat → Nat) (cold W f code n : Nat) : Nat := sumN (fun i => if wb W (f + i) = true ∧ cnts h sd cold (f + i) (dig code i) = true then 2 ^ (f + i) else 0) n
theorem sumN_p2 {g : Nat → Nat} {f : Nat} : ∀ n, (∀ i, i < n → g i ≤ 2 ^ (f + i)) → sumN g n + 2 ^ f ≤ 2 ^ (f + n)
  | 0, _ => by simp [sumN]
  | n + 1, h => by
    have ih := sumN_p2 (g := g) (f := f) n (fun i hi => h i (by omega))
    have := h n (by omega)
    have e : (2 : Nat) ^ (f + (n + 1)) = 2 ^ (f + n) + 2 ^ (f + n) := by rw [← Nat.add_assoc, Nat.pow_succ]; omega
    simp only [sumN]
    omega
theorem sumN_p2' {g : Nat → Nat} {f n : Nat} (h : ∀ i, i < n → g i ≤ 2 ^ (f + i)) : sumN g n < 2 ^ (f + n) := by
  have := sumN_p2 (g := g) (f := f) n h
  have : 0 < 2 ^ f := Nat.pow_pos (by omega)
  omega
theorem lyA_lt (W f code n : Nat) : lyA W f code n < 2 ^ (f + n) := sumN_p2' (fun i _ => by
  split
  · exact Nat.le_refl _
  · exact Nat.zero_le _)
theorem lyC_lt (h : Hl) (sd : Nat → Nat) (cold W f code n : Nat) : lyC h sd cold W f code n < 2 ^ (f + n) := sumN_p2' (fun i _ => by
  split
  · exact Nat.le_refl _
  · exact Nat.zero_le _)
theorem lyT_le {h : Hl} {sd : Nat → Nat} {cold W f code set n : Nat} (hn : f + n ≤ 5) : lyT h sd cold W f code set n ≤ 2500 * n := sumN_le 2500 n (fun i hi => by
  split
  · have h1 := prt_le h sd cold set (f + i) (dig code i)
    have h2 : 5 ^ (f + i) ≤ 5 ^ 4 := Nat.pow_le_pow_right (by omega) (by omega)
    exact Nat.mul_le_mul h1 h2
  · omega)
/-- the rows of a table that stand -/
def LY (M : AM) (tb ab ct : Int) (h : Hl) (sd : Nat → Nat) (cold W f n c : Nat) : Prop := ∀ code : Nat, code < c → M ab code = lyA W f code n ∧ M ct code = lyC h sd cold W f code n ∧ ∀ set : Nat, set < 2 ^ h.P → M tb ((code : Int) * 32 + set) = lyT h sd cold W f code set n
def LYr (M : AM) (tb ab ct : Int) (h : Hl) (sd : Nat → Nat) (cold W f n code : Nat) : Prop := M ab code = lyA W f code n ∧ M ct code = lyC h sd cold W f code n ∧ ∀ set : Nat, set < 2 ^ h.P → M tb ((code : Int) * 32 + set) = lyT h sd cold W f code set n
set_option maxRecDepth 20000 in
theorem c_St_layOut {h : Hl} {sd : Nat → Nat} {cold W f en n k : Nat} {tb ab ct : Int} (hd : 2 ≤ d) (ok : HlOK h) (hT : PT M h sd cold (5 * h.P)) (h1 : M 33 1 = h.P) (h2 : M 33 2 = ((2 ^ h.P : Nat) : Int)) (h4 : M 33 4 = W) (hW : W < 32) (hf : f ≤ 3) (hfe : f < en) (hen : en ≤ 5) (hn : n = (if h.P < en then h.P else en) - f) (ht : arT tb .int) (hab : arT ab .int) (hct : arT ct .int) (lt : alen tb = 32 * (k : Int)) (la : alen ab = k) (lc : alen ct = k) (hk : k ≤ 125) (hkn : 5 ^ n ≤ k) (d1 : tb ≠ ab) (d2 : tb ≠ ct) (d3 : ab ≠ ct) (d4 : tb ≠ 35) (d5 : tb ≠ 36) (d6 : ab ≠ 35) (d7 : ab ≠ 36) (d8 : ct ≠ 35) (d9 : ct ≠ 36) :
    MS G d mi_St_layOut [vr 33, vi f, vi en, vr tb, vr ab, vr ct] M (fun r M' => r = none ∧ LY M' tb ab ct h sd cold W f n (5 ^ n) ∧ Same [tb, ab, ct] M M') := by
  have hP5 := ok.1
  have h32 := p2_32 hP5
  have e1 : tb ≠ 33 := fun e => isO_arT shSt.1 ht e.symm
  have e2 : ab ≠ 33 := fun e => isO_arT shSt.1 hab e.symm
  have e3 : ct ≠ 33 := fun e => isO_arT shSt.1 hct e.symm
  have hn2 : f + n ≤ 5 := by split at hn <;> omega
  have hn3 : n ≠ 0 → f + n ≤ h.P := by split at hn <;> omega
  have h33 : ∀ N : AM, Same [tb, ab, ct] M N → ∀ y, N 33 y = M 33 y := fun N hN y => hN.at 33 y (by (first | decide | (simp only [List.mem_cons, List.not_mem_nil, or_false, not_or, not_false_eq_true, and_true]; omega) | (simp [List.mem_cons]; done)))
  have h35 : ∀ N : AM, Same [tb, ab, ct] M N → ∀ y, N 35 y = M 35 y := fun N hN y => hN.at 35 y (by (first | decide | (simp only [List.mem_cons, List.not_mem_nil, or_false, not_or, not_false_eq_true, and_true]; omega) | (simp [List.mem_cons]; done)))
  have h36 : ∀ N : AM, Same [tb, ab, ct] M N → ∀ y, N 36 y = M 36 y := fun N hN y => hN.at 36 y (by (first | decide | (simp only [List.mem_cons, List.not_mem_nil, or_false, not_or, not_false_eq_true, and_true]; omega) | (simp [List.mem_cons]; done)))
  refine MS.by ck_St_layOut [some (vr 33), some (vi f), some (vi en), some (vr tb), some (vr ab), some (vr ct), none, none, none, none, none, none, none] fun _ _ => ?_
  generalize hQ : (fun (r : Option AV) (M' : AM) => r = none ∧ LY M' tb ab ct h sd cold W f n (5 ^ n) ∧ Same [tb, ab, ct] M M') = Q
  generalize hla : (if h.P < en then h.P else en) = la' at hn
  -- the people of a row
  have l85 : ∀ (code : Nat), code < 5 ^ n → (∀ (N : AM) (l9 l10 l11 l12 : Option AV), Same [tb, ab, ct] M N → LY N tb ab ct h sd cold W f n (code + 1) → AW G d mi_St_layOut Q 209 [some (vr 33), some (vi f), some (vi en), some (vr tb), some (vr ab), some (vr ct), some (vi la'), some (vi ((5 ^ n : Nat) : Int)), some (vi code), l9, l10, l11, l12] [] N) → ∀ (m i : Nat) (N : AM) (l11 l12 : Option AV), i + m = n → Same [tb, ab, ct] M N → LY N tb ab ct h sd cold W f n code → LYr N tb ab ct h sd cold W f i code → AW G d mi_St_layOut Q 85 [some (vr 33), some (vi f), some (vi en), some (vr tb), some (vr ab), some (vr ct), some (vi la'), some (vi ((5 ^ n : Nat) : Int)), some (vi code), some (vi ((code / 5 ^ i : Nat) : Int)), some (vi ((f + i : Nat) : Int)), l11, l12] [] N := by
    as_aux_lemma =>
      intro code hcode next m
      induction m with
      | zero =>
        intro i N l11 l12 hi hN hL hR
        refine AW.run ck_St_layOut [209] 8 85 ?_
        simp only [wR, wB, wE0, wE1, wE2, wE3, g0, gS, s10, s11, s1S, s20, s21, s2S, kl0, kl1, kl2, kl3, sp0, sp1, sp2, sp3, cn1, cn2, cn3, cn4, cn5, cn6, jJa, lk0, lk1, jmS, jmN, s4_0, s4_1, s4_2, s4_3, s4_4, sw0, sw1, cKs, cKn, true_and, and_true, List.map_cons, List.map_nil, Nat.reduceAdd, Nat.zero_add, Int.reduceAdd, Nat.reduceEqDiff, reduceIte, Classical.not_not, b_St_layOut]
        (repeat' (first | omega | exact ⟨by omega, by omega⟩ | (with_reducible exact Or.inr trivial) | (with_reducible exact Or.inl trivial) | (with_reducible assumption) | (with_reducible exact Same.refl) | (with_reducible rfl) | (with_reducible refine And.intro ?_ ?_) | (with_reducible intro _)))
        refine next N _ _ _ _ hN ?_
        intro c hc
        rcases Nat.lt_or_ge c code with q | q
        · exact hL c q
        · obtain rfl : c = code := by omega
          obtain rfl : i = n := by omega
          exact hR
      | succ m ih =>
        intro i N l11 l12 hi hN hL hR
        have hdi : code / 5 ^ i % 5 < 5 := Nat.mod_lt _ (by omega)
        have hi1 : code / 5 ^ i / 5 = code / 5 ^ (i + 1) := by rw [Nat.div_div_eq_div_mul, Nat.pow_succ]
        have hle : code / 5 ^ i ≤ code := Nat.div_le_self _ _
        have hp5 : 5 ^ (f + i) ≤ 5 ^ 4 := Nat.pow_le_pow_right (by omega) (by omega)
        have hpp : 0 < 5 ^ (f + i) := Nat.pow_pos (by omega)
        have hWb : W / 2 ^ (f + i) % 2 < 2 := Nat.mod_lt _ (by omega)
        -- behind a person
        have a200 : ∀ (N' : AM) (l12 : Option AV), Same [tb, ab, ct] M N' → LY N' tb ab ct h sd cold W f n code → LYr N' tb ab ct h sd cold W f (i + 1) code → AW G d mi_St_layOut Q 200 [some (vr 33), some (vi f), some (vi en), some (vr tb), some (vr ab), some (vr ct), some (vi la'), some (vi ((5 ^ n : Nat) : Int)), some (vi code), some (vi ((code / 5 ^ (i + 1) : Nat) : Int)), some (vi ((f + i : Nat) : Int)), some (vi ((code / 5 ^ i % 5 : Nat) : Int)), l12] [] N' := by
          intro N' l12 hN' hL' hR'
          refine AW.run ck_St_layOut [85] 8 200 ?_
          simp only [wR, wB, wE0, wE1, wE2, wE3, g0, gS, s10, s11, s1S, s20, s21, s2S, kl0, kl1, kl2, kl3, sp0, sp1, sp2, sp3, cn1, cn2, cn3, cn4, cn5, cn6, jJa, lk0, lk1, jmS, jmN, s4_0, s4_1, s4_2, s4_3, s4_4, sw0, sw1, cKs, cKn, true_and, and_true, List.map_cons, List.map_nil, Nat.reduceAdd, Nat.zero_add, Int.reduceAdd, Nat.reduceEqDiff, reduceIte, Classical.not_not, b_St_layOut]
          (repeat' (first | omega | exact ⟨by omega, by omega⟩ | (with_reducible exact Or.inr trivial) | (with_reducible exact Or.inl trivial) | (with_reducible assumption) | (with_reducible exact Same.refl) | (with_reducible rfl) | (with_reducible refine And.intro ?_ ?_) | (with_reducible intro _)))
          have := ih (i + 1) N' (some (vi ((code / 5 ^ i % 5 : Nat) : Int))) l12 (by omega) hN' hL' hR'
          rw [show ((f + (i + 1) : Nat) : Int) = ((f + i : Nat) : Int) + 1 by omega] at this
          exact this
        obtain ⟨r1, r2, r3⟩ := hR
        have hlA := lyA_lt W f code i
        have hlC := lyC_lt h sd cold W f code i
        have h2p : 2 ^ (f + i) ≤ 2 ^ 5 := Nat.pow_le_pow_right (by omega) (by omega)
        have hrow := hT (5 * (f + i) + code / 5 ^ i % 5) (by omega)
        rw [show (5 * (f + i) + code / 5 ^ i % 5) / 5 = f + i by omega, show (5 * (f + i) + code / 5 ^ i % 5) % 5 = dig code i by unfold dig; omega] at hrow
        have er : ((f + i : Nat) : Int) * 5 + ((code / 5 ^ i % 5 : Nat) : Int) = ((5 * (f + i) + code / 5 ^ i % 5 : Nat) : Int) := by omega
        have orx : ∀ (a : Nat) (b : Bool), a < 2 ^ (f + i) → bOr (a : Int) (if b = true then ((2 ^ (f + i) : Nat) : Int) else 0) = ((a + (if b = true then 2 ^ (f + i) else 0) : Nat) : Int) := by
          intro a b ha
          cases b
          · simp only [Bool.false_eq_true, if_false, Nat.add_zero]
            exact or_0 (by omega)
          · simp only [if_true]
            have := or_new ha (by omega)
            rwa [show bShl 1 ((f + i : Nat) : Int) = ((2 ^ (f + i) : Nat) : Int) by rw [show (1 : Int) = ((1 : Nat) : Int) from rfl, bShl_n (by omega) (by omega), Nat.one_mul]] at this
        have e2p : bShl 1 ((f + i : Nat) : Int) = ((2 ^ (f + i) : Nat) : Int) := by rw [show (1 : Int) = ((1 : Nat) : Int) from rfl, bShl_n (by omega) (by omega), Nat.one_mul]
        -- with the counting bit found
        have a177 : ∀ N' : AM, wb W (f + i) = true → Same [tb, ab, ct] M N' → LY N' tb ab ct h sd cold W f n code → N' ab code = lyA W f code (i + 1) → N' ct code = lyC h sd cold W f code i → (∀ set : Nat, set < 2 ^ h.P → N' tb ((code : Int) * 32 + set) = lyT h sd cold W f code set i) → AW G d mi_St_layOut Q 177 [some (vr 33), some (vi f), some (vi en), some (vr tb), some (vr ab), some (vr ct), some (vi la'), some (vi ((5 ^ n : Nat) : Int)), some (vi code), some (vi ((code / 5 ^ (i + 1) : Nat) : Int)), some (vi ((f + i : Nat) : Int)), some (vi ((code / 5 ^ i % 5 : Nat) : Int)), some (vi ((5 * (f + i) + code / 5 ^ i % 5 : Nat) : Int))] [vi (if cnts h sd cold (f + i) (dig code i) = true then ((2 ^ (f + i) : Nat) : Int) else 0), vi (lyC h sd cold W f code i), vi code, vr ct] N' := by
          intro N' hwb hN' hL' q1 q2 q3
          refine AW.run ck_St_layOut [200] 8 177 ?_
          simp only [wR, wB, wE0, wE1, wE2, wE3, g0, gS, s10, s11, s1S, s20, s21, s2S, kl0, kl1, kl2, kl3, sp0, sp1, sp2, sp3, cn1, cn2, cn3, cn4, cn5, cn6, jJa, lk0, lk1, jmS, jmN, s4_0, s4_1, s4_2, s4_3, s4_4, sw0, sw1, cKs, cKn, true_and, and_true, List.map_cons, List.map_nil, Nat.reduceAdd, Nat.zero_add, Int.reduceAdd, Nat.reduceEqDiff, reduceIte, Classical.not_not, b_St_layOut, shSt, hct, romP (show f + i < 6 by omega)]
          rw [orx _ _ hlC]
          (repeat' (first | omega | exact ⟨by omega, by omega⟩ | (with_reducible exact Or.inr trivial) | (with_reducible exact Or.inl trivial) | (with_reducible assumption) | (with_reducible exact Same.refl) | (with_reducible rfl) | (with_reducible refine And.intro ?_ ?_) | (with_reducible intro _)))
          have hct2 : ∀ set : Nat, set < 2 ^ h.P → up N' ct (code : Int) ((lyC h sd cold W f code i + if cnts h sd cold (f + i) (dig code i) = true then 2 ^ (f + i) else 0 : Nat) : Int) 35 (((5 * (f + i) + code / 5 ^ i % 5 : Nat) : Int) * 32 + set) = prt h sd cold set (f + i) (dig code i) := by
            intro set hset
            rw [up_ne1 (by omega), h35 N' hN']
            exact hrow.2 set hset
          refine MS.to (c_St_addParts (n := 2 ^ h.P) ht d4 (by rw [up_ne1 (by omega), h33 N' hN', h2]) (by omega) (by omega) (by omega) (by omega) (by omega) (by omega) (by omega) ?_ ?_) fun _ => ?_
          · intro set hset
            rw [up_ne1 (by omega), q3 set hset]
            have := lyT_le (h := h) (sd := sd) (cold := cold) (W := W) (f := f) (code := code) (set := set) (n := i) (by omega)
            omega
          · intro set hset
            rw [hct2 set hset]
            have := prt_le h sd cold set (f + i) (dig code i)
            omega
          simp only [wR, wB, wE0, wE1, wE2, wE3, g0, gS, s10, s11, s1S, s20, s21, s2S, kl0, kl1, kl2, kl3, sp0, sp1, sp2, sp3, cn1, cn2, cn3, cn4, cn5, cn6, jJa, lk0, lk1, jmS, jmN, s4_0, s4_1, s4_2, s4_3, s4_4, sw0, sw1, cKs, cKn, true_and, and_true, List.map_cons, List.map_nil, Nat.reduceAdd, Nat.zero_add, Int.reduceAdd, Nat.reduceEqDiff, reduceIte, Classical.not_not, b_St_layOut]
          refine a200 _ _ ?_ ?_ ?_
          · intro x hx
            simp only [List.mem_cons, List.not_mem_nil, or_false, not_or] at hx
            funext y
            unfold addP
            rw [if_neg (by omega), up_ne1 (by omega), hN' x (by (first | decide | (simp only [List.mem_cons, List.not_mem_nil, or_false, not_or, not_false_eq_true, and_true]; omega) | (simp [List.mem_cons]; done)))]
          · intro c hc
            obtain ⟨u1, u2, u3⟩ := hL' c hc
            refine ⟨?_, ?_, fun set hset => ?_⟩
            · unfold addP; rw [if_neg (by omega), up_ne1 (by omega), u1]
            · unfold addP; rw [if_neg (by omega), up_ne2 (by omega), u2]
            · unfold addP; rw [if_neg (by omega), up_ne1 (by omega), u3 set hset]
          · refine ⟨?_, ?_, fun set hset => ?_⟩
            · unfold addP; rw [if_neg (by omega), up_ne1 (by omega), q1]
            · unfold addP; rw [if_neg (by omega), up_eq]
              unfold lyC
              simp only [sumN, hwb, true_and]
            · unfold addP; rw [if_pos (by omega), up_ne1 (by omega), q3 set hset, show (((5 * (f + i) + code / 5 ^ i % 5 : Nat) : Int) * 32 + ((code : Int) * 32 + (set : Int) - (code : Int) * 32)) = ((5 * (f + i) + code / 5 ^ i % 5 : Nat) : Int) * 32 + set by omega, hct2 set hset]
              unfold lyT
              simp only [sumN, hwb, if_true]
              omega
        have a148 : wb W (f + i) = true → AW G d mi_St_layOut Q 148 [some (vr 33), some (vi f), some (vi en), some (vr tb), some (vr ab), some (vr ct), some (vi la'), some (vi ((5 ^ n : Nat) : Int)), some (vi code), some (vi ((code / 5 ^ (i + 1) : Nat) : Int)), some (vi ((f + i : Nat) : Int)), some (vi ((code / 5 ^ i % 5 : Nat) : Int)), some (vi ((5 * (f + i) + code / 5 ^ i % 5 : Nat) : Int))] [vi (if decide (0 < dig code i) = true then ((2 ^ (f + i) : Nat) : Int) else 0), vi (lyA W f code i), vi code, vr ab] N := by
          intro hwb
          refine AW.run ck_St_layOut [177] 8 148 ?_
          simp only [wR, wB, wE0, wE1, wE2, wE3, g0, gS, s10, s11, s1S, s20, s21, s2S, kl0, kl1, kl2, kl3, sp0, sp1, sp2, sp3, cn1, cn2, cn3, cn4, cn5, cn6, jJa, lk0, lk1, jmS, jmN, s4_0, s4_1, s4_2, s4_3, s4_4, sw0, sw1, cKs, cKn, true_and, and_true, List.map_cons, List.map_nil, Nat.reduceAdd, Nat.zero_add, Int.reduceAdd, Nat.reduceEqDiff, reduceIte, Classical.not_not, b_St_layOut, shSt, hct, hab, up_ne1 (show ct ≠ ab by omega), up_ne1 (show (36 : Int) ≠ ab by omega), h36 N hN, hrow.1, r2, e2p]
          rw [orx _ _ hlA]
          have fin := a177 (up N ab code ((lyA W f code i + (if decide (0 < dig code i) = true then 2 ^ (f + i) else 0) : Nat) : Int)) hwb (hN.up (by simp)) ?_ ?_ ?_ ?_
          · by_cases q : cnts h sd cold (f + i) (dig code i) = true
            · rw [if_pos q] at fin ⊢
              (repeat' (first | omega | exact ⟨by omega, by omega⟩ | (with_reducible exact Or.inr trivial) | (with_reducible exact Or.inl trivial) | (with_reducible assumption) | (with_reducible exact Same.refl) | (with_reducible rfl) | (with_reducible refine And.intro ?_ ?_) | (with_reducible intro _)))
            · rw [if_neg q] at fin ⊢
              (repeat' (first | omega | exact ⟨by omega, by omega⟩ | (with_reducible exact Or.inr trivial) | (with_reducible exact Or.inl trivial) | (with_reducible assumption) | (with_reducible exact Same.refl) | (with_reducible rfl) | (with_reducible refine And.intro ?_ ?_) | (with_reducible intro _)))
          · intro c hc
            obtain ⟨u1, u2, u3⟩ := hL c hc
            refine ⟨?_, ?_, fun set hset => ?_⟩
            · rw [up_ne2 (by omega), u1]
            · rw [up_ne1 (by omega), u2]
            · rw [up_ne1 (by omega), u3 set hset]
          · rw [up_eq]
            unfold lyA
            simp only [sumN, hwb, true_and, decide_eq_true_eq]
          · rw [up_ne1 (by omega), r2]
          · intro set hset
            rw [up_ne1 (by omega), r3 set hset]
        refine AW.run ck_St_layOut [148, 200] 8 85 ?_
        simp only [wR, wB, wE0, wE1, wE2, wE3, g0, gS, s10, s11, s1S, s20, s21, s2S, kl0, kl1, kl2, kl3, sp0, sp1, sp2, sp3, cn1, cn2, cn3, cn4, cn5, cn6, jJa, lk0, lk1, jmS, jmN, s4_0, s4_1, s4_2, s4_3, s4_4, sw0, sw1, cKs, cKn, true_and, and_true, List.map_cons, List.map_nil, Nat.reduceAdd, Nat.zero_add, Int.reduceAdd, Nat.reduceEqDiff, reduceIte, Classical.not_not, b_St_layOut, shSt, hab, h33 N hN, h4, bit_n (show W < 2 ^ 31 by omega) (show f + i < 32 by omega), e2p, er, r1]
        rw [show ((code / 5 ^ i : Nat) : Int) / 5 = ((code / 5 ^ (i + 1) : Nat) : Int) by rw [← hi1]; omega, show ((code / 5 ^ i : Nat) : Int) % 5 = ((code / 5 ^ i % 5 : Nat) : Int) by omega, er]
        have edig : dig code i = code / 5 ^ i % 5 := rfl
        have hq0 : (0 : Int) ≤ ((code / 5 ^ i : Nat) : Int) := Int.natCast_nonneg _
        (repeat' (first | omega | exact ⟨by omega, by omega⟩ | (with_reducible exact Or.inr trivial) | (with_reducible exact Or.inl trivial) | (with_reducible assumption) | (with_reducible exact Same.refl) | (with_reducible rfl) | (with_reducible refine And.intro ?_ ?_) | (with_reducible intro _)))
        · refine a200 N _ hN hL ⟨?_, ?_, fun set hset => ?_⟩
          · rw [r1]; unfold lyA; simp only [sumN]; rw [if_neg (by rw [wb_iff]; omega)]; rfl
          · rw [r2]; unfold lyC; simp only [sumN]; rw [if_neg (by rw [wb_iff]; omega)]; rfl
          · rw [r3 set hset]; unfold lyT; simp only [sumN]; rw [if_neg (by rw [wb_iff]; omega)]; rfl
        · have := a148 (by rw [wb_iff]; omega)
          rw [if_neg (by rw [decide_eq_true_eq]; omega)] at this
          exact this
        · have := a148 (by rw [wb_iff]; omega)
          rw [if_pos (by rw [decide_eq_true_eq]; omega)] at this
          exact this
  -- the codes
  have l33 : ∀ (m code : Nat) (N : AM) (l9 l10 l11 l12 : Option AV), code + m = 5 ^ n → Same [tb, ab, ct] M N → LY N tb ab ct h sd cold W f n code → AW G d mi_St_layOut Q 33 [some (vr 33), some (vi f), some (vi en), some (vr tb), some (vr ab), some (vr ct), some (vi la'), some (vi ((5 ^ n : Nat) : Int)), some (vi code), l9, l10, l11, l12] [] N := by
    as_aux_lemma =>
      intro m
      induction m with
      | zero =>
        intro code N l9 l10 l11 l12 hc hN hL
        refine AW.run ck_St_layOut [] 8 33 ?_
        simp only [wR, wB, wE0, wE1, wE2, wE3, g0, gS, s10, s11, s1S, s20, s21, s2S, kl0, kl1, kl2, kl3, sp0, sp1, sp2, sp3, cn1, cn2, cn3, cn4, cn5, cn6, jJa, lk0, lk1, jmS, jmN, s4_0, s4_1, s4_2, s4_3, s4_4, sw0, sw1, cKs, cKn, true_and, and_true, List.map_cons, List.map_nil, Nat.reduceAdd, Nat.zero_add, Int.reduceAdd, Nat.reduceEqDiff, reduceIte, Classical.not_not, b_St_layOut, isArr_of hab]
        subst hQ
        (repeat' (first | omega | exact ⟨by omega, by omega⟩ | (with_reducible exact Or.inr trivial) | (with_reducible exact Or.inl trivial) | (with_reducible assumption) | (with_reducible exact Same.refl) | (with_reducible rfl) | (with_reducible refine And.intro ?_ ?_) | (with_reducible intro _)))
        rw [← hc]
        exact hL
      | succ m ih =>
        intro code N l9 l10 l11 l12 hc hN hL
        refine AW.run ck_St_layOut [85] 8 33 ?_
        simp only [wR, wB, wE0, wE1, wE2, wE3, g0, gS, s10, s11, s1S, s20, s21, s2S, kl0, kl1, kl2, kl3, sp0, sp1, sp2, sp3, cn1, cn2, cn3, cn4, cn5, cn6, jJa, lk0, lk1, jmS, jmN, s4_0, s4_1, s4_2, s4_3, s4_4, sw0, sw1, cKs, cKn, true_and, and_true, List.map_cons, List.map_nil, Nat.reduceAdd, Nat.zero_add, Int.reduceAdd, Nat.reduceEqDiff, reduceIte, Classical.not_not, b_St_layOut, isArr_of hab, hab, hct]
        (repeat' (first | omega | exact ⟨by omega, by omega⟩ | (with_reducible exact Or.inr trivial) | (with_reducible exact Or.inl trivial) | (with_reducible assumption) | (with_reducible exact Same.refl) | (with_reducible rfl) | (with_reducible refine And.intro ?_ ?_) | (with_reducible intro _)))
        refine MS.to (c_JA_fill (by omega) ht (by omega) (by omega) (by omega)) fun _ => ?_
        simp only [wR, wB, wE0, wE1, wE2, wE3, g0, gS, s10, s11, s1S, s20, s21, s2S, kl0, kl1, kl2, kl3, sp0, sp1, sp2, sp3, cn1, cn2, cn3, cn4, cn5, cn6, jJa, lk0, lk1, jmS, jmN, s4_0, s4_1, s4_2, s4_3, s4_4, sw0, sw1, cKs, cKn, true_and, and_true, List.map_cons, List.map_nil, Nat.reduceAdd, Nat.zero_add, Int.reduceAdd, Nat.reduceEqDiff, reduceIte, Classical.not_not, b_St_layOut]
        have := l85 code (by omega) (fun N' l9 l10 l11 l12 hN' hL' => ?_) n 0 (fil (up (up N ab code 0) ct code 0) tb (code * 32) (code * 32 + 32) 0) l11 l12 (by omega) ?_ ?_ ?_
        · rw [Nat.pow_zero, Nat.div_one] at this
          exact this
        · refine AW.run ck_St_layOut [33] 8 209 ?_
          simp only [wR, wB, wE0, wE1, wE2, wE3, g0, gS, s10, s11, s1S, s20, s21, s2S, kl0, kl1, kl2, kl3, sp0, sp1, sp2, sp3, cn1, cn2, cn3, cn4, cn5, cn6, jJa, lk0, lk1, jmS, jmN, s4_0, s4_1, s4_2, s4_3, s4_4, sw0, sw1, cKs, cKn, true_and, and_true, List.map_cons, List.map_nil, Nat.reduceAdd, Nat.zero_add, Int.reduceAdd, Nat.reduceEqDiff, reduceIte, Classical.not_not, b_St_layOut, ce]
          (repeat' (first | omega | exact ⟨by omega, by omega⟩ | (with_reducible exact Or.inr trivial) | (with_reducible exact Or.inl trivial) | (with_reducible assumption) | (with_reducible exact Same.refl) | (with_reducible rfl) | (with_reducible refine And.intro ?_ ?_) | (with_reducible intro _)))
          exact ih (code + 1) N' _ _ _ _ (by omega) hN' hL'
        · intro x hx
          simp only [List.mem_cons, List.not_mem_nil, or_false, not_or] at hx
          funext y
          unfold fil
          rw [if_neg (by omega), up_ne1 (by omega), up_ne1 (by omega), hN x (by (first | decide | (simp only [List.mem_cons, List.not_mem_nil, or_false, not_or, not_false_eq_true, and_true]; omega) | (simp [List.mem_cons]; done)))]
        · intro c hcc
          obtain ⟨u1, u2, u3⟩ := hL c hcc
          refine ⟨?_, ?_, fun set hset => ?_⟩
          · unfold fil; rw [if_neg (by omega), up_ne1 (by omega), up_ne2 (by omega), u1]
          · unfold fil; rw [if_neg (by omega), up_ne2 (by omega), up_ne1 (by omega), u2]
          · unfold fil; rw [if_neg (by omega), up_ne1 (by omega), up_ne1 (by omega), u3 set hset]
        · refine ⟨?_, ?_, fun set hset => ?_⟩
          · unfold fil; rw [if_neg (by omega), up_ne1 (by omega), up_eq]; rfl
          · unfold fil; rw [if_neg (by omega), up_eq]; rfl
          · unfold fil; rw [if_pos (by omega)]; rfl
  have a28 : AW G d mi_St_layOut Q 28 [some (vr 33), some (vi f), some (vi en), some (vr tb), some (vr ab), some (vr ct), some (vi la'), none, none, none, none, none, none] [vi ((5 ^ n : Nat) : Int)] M := by
    refine AW.run ck_St_layOut [33] 8 28 ?_
    simp only [wR, wB, wE0, wE1, wE2, wE3, g0, gS, s10, s11, s1S, s20, s21, s2S, kl0, kl1, kl2, kl3, sp0, sp1, sp2, sp3, cn1, cn2, cn3, cn4, cn5, cn6, jJa, lk0, lk1, jmS, jmN, s4_0, s4_1, s4_2, s4_3, s4_4, sw0, sw1, cKs, cKn, true_and, and_true, List.map_cons, List.map_nil, Nat.reduceAdd, Nat.zero_add, Int.reduceAdd, Nat.reduceEqDiff, reduceIte, Classical.not_not, b_St_layOut]
    exact l33 (5 ^ n) 0 M _ _ _ _ (by omega) Same.refl (fun c hc => absurd hc (by omega))
  refine AW.run ck_St_layOut [28] 8 0 ?_
  simp only [wR, wB, wE0, wE1, wE2, wE3, g0, gS, s10, s11, s1S, s20, s21, s2S, kl0, kl1, kl2, kl3, sp0, sp1, sp2, sp3, cn1, cn2, cn3, cn4, cn5, cn6, jJa, lk0, lk1, jmS, jmN, s4_0, s4_1, s4_2, s4_3, s4_4, sw0, sw1, cKs, cKn, true_and, and_true, List.map_cons, List.map_nil, Nat.reduceAdd, Nat.zero_add, Int.reduceAdd, Nat.reduceEqDiff, reduceIte, Classical.not_not, b_St_layOut, shSt, h1]
  have ei : (if (h.P : Int) < (en : Int) then (h.P : Int) else (en : Int)) = (la' : Int) := by
    rw [← hla]
    by_cases q : h.P < en
    · rw [if_pos q, if_pos (by omega)]
    · rw [if_neg q, if_neg (by omega)]
  rw [ei]
  have hla5 : la' ≤ 5 := by rw [← hla]; split <;> omega
  (repeat' (first | omega | exact ⟨by omega, by omega⟩ | (with_reducible exact Or.inr trivial) | (with_reducible exact Or.inl trivial) | (with_reducible assumption) | (with_reducible exact Same.refl) | (with_reducible rfl) | (with_reducible refine And.intro ?_ ?_) | (with_reducible intro _)))
  · rw [show n = 0 by omega] at a28
    exact a28
  · rw [show (la' : Int) - f = (n : Int) by omega, romP (show n < 6 by omega)]
    exact a28
end SU
