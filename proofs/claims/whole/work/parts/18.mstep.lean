/-! halls and moments, and what an hour makes of them -/
def Hl : Type := Nat × Nat × Nat × (Nat → Nat) × (Nat → Nat) × (Nat × (Nat → Int)) × Nat × (Nat → Int)
def Hl.P (h : Hl) : Nat := h.1
def Hl.must (h : Hl) : Nat := h.2.1
def Hl.lines (h : Hl) : Nat := h.2.2.1
def Hl.wt (h : Hl) : Nat → Nat := h.2.2.2.1
def Hl.rd (h : Hl) : Nat → Nat := h.2.2.2.2.1
def Hl.tN (h : Hl) : Nat := h.2.2.2.2.2.1.1
def Hl.tC (h : Hl) : Nat → Int := h.2.2.2.2.2.1.2
def Hl.cN (h : Hl) : Nat := h.2.2.2.2.2.2.1
def Hl.cC (h : Hl) : Nat → Int := h.2.2.2.2.2.2.2
def Mo : Type := (Nat → Nat) × (Nat → Nat) × Nat × Nat
def Mo.sd (m : Mo) : Nat → Nat := m.1
def Mo.st (m : Mo) : Nat → Nat := m.2.1
def Mo.cold (m : Mo) : Nat := m.2.2.1
def Mo.hrs (m : Mo) : Nat := m.2.2.2
def HlOK (h : Hl) : Prop := h.P ≤ 5 ∧ h.must ≤ 5 ∧ (∀ p, h.wt p ≤ 9 ∧ h.rd p ≤ 1) ∧ (h.tN ≠ 0 → WfL h.tC h.tN true) ∧ (h.cN ≠ 0 → WfL h.cC h.cN false) ∧ (∀ k, k < h.cN → h.cC k < 1006 ∨ 3000 ≤ h.cC k) ∧ h.tN ≤ 900 ∧ h.cN ≤ 900 ∧ h.lines ≤ 1000
def MoOK (m : Mo) : Prop := (∀ p, m.sd p ≤ 1 ∧ m.st p ≤ 4) ∧ m.cold ≤ 9
def clp (x : Int) : Nat := if x < 0 then 0 else if 4 < x then 4 else x.toNat
theorem clp_le (x : Int) : clp x ≤ 4 := by unfold clp; (repeat' split) <;> omega
def sideS (sd : Nat → Nat) (P k : Nat) : Nat := bitsP (fun p => decide (sd p = k)) P
def hd0 (l : List Int) : Int := match l with
  | [] => 0
  | x :: _ => x
/-- the words of tiring -/
def wvT (h : Hl) (sd : Nat → Nat) (cold set p str : Nat) : Int → Int := wv p (sd p) str (h.wt p) (h.rd p) cold ((set / 2 ^ p % 2 : Nat) : Int) ((pop (set &&& sideS sd h.P (sd p)) : Int) - ((set / 2 ^ p % 2 : Nat) : Int)) ((pop set : Int) - (pop (set &&& sideS sd h.P (sd p)) : Int))
def tired (h : Hl) (sd : Nat → Nat) (cold set p str : Nat) : Nat :=
  clp (if h.tN = 0 then (if h.rd p = 1 then (str : Int) else if set / 2 ^ p % 2 = 1 then (str : Int) - 1 else (str : Int) + 1) else hd0 (vals h.tC (wvT h sd cold set p str) h.tN))
theorem tired_le (h : Hl) (sd : Nat → Nat) (cold set p str : Nat) : tired h sd cold set p str ≤ 4 := clp_le _
def wvC (h : Hl) (sd : Nat → Nat) (cold p str : Nat) : Int → Int := wv p (sd p) str (h.wt p) (h.rd p) cold 0 0 0
def cnts (h : Hl) (sd : Nat → Nat) (cold p str : Nat) : Bool := decide (h.cN = 0 ∨ hd0 (vals h.cC (wvC h sd cold p str) h.cN) = 1)
def nxt (h : Hl) (sd : Nat → Nat) (cold s set : Nat) : Nat := cod (fun p => tired h sd cold set p (dig s p)) h.P
/-- how many of the first n have a property -/
def cntP (f : Nat → Bool) : Nat → Nat
  | 0 => 0
  | n + 1 => cntP f n + (if f n = true then 1 else 0)
theorem cntP_le (f : Nat → Bool) : ∀ n, cntP f n ≤ n
  | 0 => by simp [cntP]
  | n + 1 => by have := cntP_le f n; simp only [cntP]; split <;> omega
def hands (h : Hl) (sd : Nat → Nat) (cold s set side : Nat) : Nat := cntP (fun p => decide (set / 2 ^ p % 2 = 1 ∧ sd p = side) && cnts h sd cold p (dig s p)) h.P
def stood (h : Hl) (sd : Nat → Nat) (cold s set : Nat) : Nat := (if h.must ≤ hands h sd cold s set 0 then 1 else 0) + (if h.must ≤ hands h sd cold s set 1 then 2 else 0)
def ablS (P s : Nat) : Nat := bitsP (fun p => decide (0 < dig s p)) P
theorem pop_le {a : Nat} (h : a < 32) : pop a ≤ 5 := by
  have key : ∀ a : Fin 32, pop a.val ≤ 5 := by decide +kernel
  exact key ⟨a, h⟩
theorem pop_sub {a b : Nat} (ha : a < 32) (hb : b < 32) : pop (a &&& b) ≤ pop a := by
  have key : ∀ a b : Fin 32, pop (a.val &&& b.val) ≤ pop a.val := by decide +kernel
  exact key ⟨a, ha⟩ ⟨b, hb⟩
theorem bitsP32 {f : Nat → Bool} {n : Nat} (h : n ≤ 5) : bitsP f n < 32 := by
  have := bitsP_lt f n
  have : 2 ^ n ≤ 2 ^ 5 := Nat.pow_le_pow_right (by omega) h
  omega
theorem sideS_lt {sd : Nat → Nat} {P k : Nat} (h : P ≤ 5) : sideS sd P k < 32 := bitsP32 h
theorem wvT_num {h : Hl} {sd : Nat → Nat} {cold set p str : Nat} (ok : HlOK h) (hs : sd p ≤ 1) (hc : cold ≤ 9) (hset : set < 32) (hp : p < 5) (hstr : str ≤ 4) : ∀ j : Int, 0 ≤ j → j < 9 → numV (wvT h sd cold set p str j) := by
  intro j _ _
  have h1 := (ok.2.2.1 p).1
  have h2 := (ok.2.2.1 p).2
  have h3 := pop_le hset
  have h4 := pop_sub hset (sideS_lt (sd := sd) (k := sd p) ok.1)
  have h5 : set / 2 ^ p % 2 < 2 := Nat.mod_lt _ (by omega)
  unfold wvT wv numV
  repeat' split
  all_goals omega
theorem wvC_num {h : Hl} {sd : Nat → Nat} {cold p str : Nat} (ok : HlOK h) (hs : sd p ≤ 1) (hc : cold ≤ 9) (hp : p < 5) (hstr : str ≤ 4) : ∀ j : Int, 0 ≤ j → j < 9 → numV (wvC h sd cold p str j) := by
  intro j _ _
  have h1 := (ok.2.2.1 p).1
  have h2 := (ok.2.2.1 p).2
  unfold wvC wv numV
  repeat' split
  all_goals omega
/-- a law in the model's row -/
def MLaw (A : Int → Int) (l n : Nat) (code : Nat → Int) : Prop := A (3 + (l : Int)) = (if n = 0 then 0 else 1) ∧ (n ≠ 0 → ∃ f : Nat, A (5 + (l : Int)) = f ∧ A (7 + (l : Int)) = n ∧ f + n ≤ 900 ∧ ∀ k : Nat, k < n → A (153 + (f : Int) + k) = code k)
/-- a hall in the model's row -/
def MH (A : Int → Int) (h : Hl) : Prop := A 0 = h.lines ∧ A 1 = h.P ∧ A 2 = h.must ∧ (∀ p : Nat, p < h.P → A (9 + (p : Int)) = h.wt p ∧ A (14 + (p : Int)) = h.rd p) ∧ MLaw A 0 h.tN h.tC ∧ MLaw A 1 h.cN h.cC
def MSd (A : Int → Int) (P : Nat) (sd : Nat → Nat) : Prop := ∀ p : Nat, p < P → A (19 + (p : Int)) = sd p ∧ sd p ≤ 1
def MSt (A : Int → Int) (P : Nat) (st : Nat → Nat) : Prop := ∀ p : Nat, p < P → A (24 + (p : Int)) = st p ∧ st p ≤ 4
theorem dig_cod {f : Nat → Nat} : ∀ (n k : Nat), (∀ p, k ≤ p → p < k + n → f p ≤ 4) → ∀ i, dig (codT f k n) i = if i < n then f (k + i) else 0
  | 0, k, _, i => by simp [codT, dig]
  | n + 1, k, h, 0 => by
    have h2 := h k (by omega) (by omega)
    simp only [codT, dig, Nat.pow_zero, Nat.div_one, Nat.add_zero]
    rw [if_pos (by omega)]
    omega
  | n + 1, k, h, i + 1 => by
    have h2 := h k (by omega) (by omega)
    have ih := dig_cod n (k + 1) (fun p a b => h p (by omega) (by omega)) i
    unfold dig at ih ⊢
    simp only [codT]
    rw [Nat.pow_succ, Nat.mul_comm (5 ^ i) 5, ← Nat.div_div_eq_div_mul, show (f k + 5 * codT f (k + 1) n) / 5 = codT f (k + 1) n by omega, ih]
    by_cases q : i < n
    · rw [if_pos q, if_pos (by omega), show k + 1 + i = k + (i + 1) by omega]
    · rw [if_neg q, if_neg (by omega)]
theorem dig_cod0 {f : Nat → Nat} {P : Nat} (h : ∀ p, p < P → f p ≤ 4) (i : Nat) : dig (cod f P) i = if i < P then f i else 0 := by
  have := dig_cod P 0 (fun p _ b => h p (by omega)) i
  rw [Nat.zero_add] at this
  exact this
theorem bitsP_congr {f g : Nat → Bool} : ∀ (n : Nat), (∀ p, p < n → f p = g p) → bitsP f n = bitsP g n
  | 0, _ => rfl
  | n + 1, h => by simp only [bitsP, bitsP_congr n (fun p hp => h p (by omega)), h n (by omega)]
theorem cntP_congr {f g : Nat → Bool} : ∀ (n : Nat), (∀ p, p < n → f p = g p) → cntP f n = cntP g n
  | 0, _ => rfl
  | n + 1, h => by simp only [cntP, cntP_congr n (fun p hp => h p (by omega)), h n (by omega)]
theorem codT_congr {f g : Nat → Nat} : ∀ (n k : Nat), (∀ p, k ≤ p → p < k + n → f p = g p) → codT f k n = codT g k n
  | 0, _, _ => rfl
  | n + 1, k, h => by simp only [codT, codT_congr n (k + 1) (fun p a b => h p (by omega) (by omega)), h k (by omega) (by omega)]
theorem cod_congr {f g : Nat → Nat} {P : Nat} (h : ∀ p, p < P → f p = g p) : cod f P = cod g P := codT_congr P 0 (fun p _ b => h p (by omega))
theorem cod_lt {f : Nat → Nat} {P : Nat} (hP : P ≤ 5) (h : ∀ p, p < P → f p ≤ 4) : cod f P < 3125 := by
  have h1 := codT_lt (f := f) P 0 (fun p _ b => h p (by omega))
  have h2 : 5 ^ P ≤ 5 ^ 5 := Nat.pow_le_pow_right (by omega) hP
  unfold cod
  omega
theorem nxt_lt {h : Hl} {sd : Nat → Nat} {cold s set : Nat} (ok : HlOK h) : nxt h sd cold s set < 3125 := cod_lt ok.1 (fun _ _ => tired_le _ _ _ _ _ _)
section MP
variable {G : AG} {d : Nat} {M : AM}
theorem c_Md_tiredTo {h : Hl} {sd : Nat → Nat} {s set p cold : Nat} (hd : 2 ≤ d) (ok : HlOK h) (hH : MH (M 118) h) (hS : MSd (M 118) h.P sd) (hs : s < 100000) (hset : set < 32) (hp : p < h.P) (hc : cold ≤ 9) :
    MS G d mi_Md_tiredTo [vr 117, vi s, vi set, vi p, vi cold] M (fun r M' => r = some (vi (tired h sd cold set p (dig s p))) ∧ Same [122, 123] M M') := by
  have hP5 := ok.1
  obtain ⟨m0, m1, m2, m3, m4, m5⟩ := hH
  have hw := m3 p hp
  have hsd := hS p hp
  have hdg := dig_lt s p
  have hrd := (ok.2.2.1 p).2
  have hb2 : set / 2 ^ p % 2 < 2 := Nat.mod_lt _ (by omega)
  have hpop := pop_le hset
  have hsl := sideS_lt (sd := sd) (k := sd p) hP5
  have hpop2 := pop_sub hset hsl
  have hand : set &&& sideS sd h.P (sd p) < 32 := Nat.lt_of_le_of_lt Nat.and_le_left hset
  have eand : bAnd (set : Int) ((sideS sd h.P (sd p) : Nat) : Int) = ((set &&& sideS sd h.P (sd p) : Nat) : Int) := bAnd_n (by omega)
  refine MS.by ck_Md_tiredTo [some (vr 117), some (vi s), some (vi set), some (vi p), some (vi cold), none, none, none, none] fun _ _ => ?_
  have fin : ∀ (x : Int) (N : AM) (l : Option AV), inI x → clp x = tired h sd cold set p (dig s p) → Same [122, 123] M N → AW G d mi_Md_tiredTo (fun r M' => r = some (vi (tired h sd cold set p (dig s p))) ∧ Same [122, 123] M M') 128 [some (vr 117), some (vi s), some (vi set), some (vi p), some (vi cold), some (vi ((set / 2 ^ p % 2 : Nat) : Int)), some (vi (dig s p)), some (vi x), l] [] N := by
    intro x N l hx e hN
    refine AW.run ck_Md_tiredTo [] 8 128 ?_
    simp only [wR, wB, wE0, wE1, wE2, wE3, g0, gS, s10, s11, s1S, s20, s21, s2S, kl0, kl1, kl2, kl3, sp0, sp1, sp2, sp3, cn1, cn2, cn3, cn4, cn5, cn6, jJa, lk0, lk1, jmS, jmN, s4_0, s4_1, s4_2, s4_3, s4_4, sw0, sw1, cKs, cKn, true_and, and_true, List.map_cons, List.map_nil, Nat.reduceAdd, Nat.zero_add, Int.reduceAdd, Nat.reduceEqDiff, reduceIte, Classical.not_not, b_Md_tiredTo]
    have e' : ((tired h sd cold set p (dig s p) : Nat) : Int) = if x < 0 then 0 else if 4 < x then 4 else x := by rw [← e]; unfold clp; (repeat' split) <;> omega
    rw [e']
    (repeat' (first | omega | exact ⟨by omega, by omega⟩ | (with_reducible exact Or.inr trivial) | (with_reducible exact Or.inl trivial) | (with_reducible assumption) | (with_reducible exact Same.refl) | (with_reducible rfl) | (with_reducible refine And.intro ?_ ?_) | (with_reducible intro _)))
    all_goals first | exact hN | rw [if_pos (by omega)] | rw [if_neg (by omega), if_pos (by omega)] | rw [if_neg (by omega), if_neg (by omega)]
  have mid : ∀ x : Int, inI x → (h.tN = 0 → clp x = tired h sd cold set p (dig s p)) → AW G d mi_Md_tiredTo (fun r M' => r = some (vi (tired h sd cold set p (dig s p))) ∧ Same [122, 123] M M') 49 [some (vr 117), some (vi s), some (vi set), some (vi p), some (vi cold), some (vi ((set / 2 ^ p % 2 : Nat) : Int)), some (vi (dig s p)), none, none] [vi x] M := by
    intro x hx hcl
    have hx1 := hx.1
    have hx2 := hx.2
    refine AW.run ck_Md_tiredTo [128] 8 49 ?_
    simp only [wR, wB, wE0, wE1, wE2, wE3, g0, gS, s10, s11, s1S, s20, s21, s2S, kl0, kl1, kl2, kl3, sp0, sp1, sp2, sp3, cn1, cn2, cn3, cn4, cn5, cn6, jJa, lk0, lk1, jmS, jmN, s4_0, s4_1, s4_2, s4_3, s4_4, sw0, sw1, cKs, cKn, true_and, and_true, List.map_cons, List.map_nil, Nat.reduceAdd, Nat.zero_add, Int.reduceAdd, Nat.reduceEqDiff, reduceIte, Classical.not_not, b_Md_tiredTo, shMd, hsd.1]
    have h3 := m4.1
    rw [show (3 : Int) + ((0 : Nat) : Int) = 3 from rfl] at h3
    by_cases h0 : h.tN = 0
    · rw [if_pos h0] at h3
      (repeat' (first | omega | exact ⟨by omega, by omega⟩ | (with_reducible exact Or.inr trivial) | (with_reducible exact Or.inl trivial) | (with_reducible assumption) | (with_reducible exact Same.refl) | (with_reducible rfl) | (with_reducible refine And.intro ?_ ?_) | (with_reducible intro _)))
      exact fin x M _ hx (hcl h0) Same.refl
    · rw [if_neg h0] at h3
      obtain ⟨f, hf, hn, hfn, hco⟩ := m4.2 h0
      (repeat' (first | omega | exact ⟨by omega, by omega⟩ | (with_reducible exact Or.inr trivial) | (with_reducible exact Or.inl trivial) | (with_reducible assumption) | (with_reducible exact Same.refl) | (with_reducible rfl) | (with_reducible refine And.intro ?_ ?_) | (with_reducible intro _)))
      refine MS.to (c_Md_sideOf m1 hP5 (fun q hq => (hS q hq).1)) fun _ => ?_
      simp only [wR, wB, wE0, wE1, wE2, wE3, g0, gS, s10, s11, s1S, s20, s21, s2S, kl0, kl1, kl2, kl3, sp0, sp1, sp2, sp3, cn1, cn2, cn3, cn4, cn5, cn6, jJa, lk0, lk1, jmS, jmN, s4_0, s4_1, s4_2, s4_3, s4_4, sw0, sw1, cKs, cKn, true_and, and_true, List.map_cons, List.map_nil, Nat.reduceAdd, Nat.zero_add, Int.reduceAdd, Nat.reduceEqDiff, reduceIte, Classical.not_not, b_Md_tiredTo, shMd, hsd.1, show bitsP (fun q => decide (sd q = sd p)) h.P = sideS sd h.P (sd p) from rfl, eand]
      (repeat' (first | omega | exact ⟨by omega, by omega⟩ | (with_reducible exact Or.inr trivial) | (with_reducible exact Or.inl trivial) | (with_reducible assumption) | (with_reducible exact Same.refl) | (with_reducible rfl) | (with_reducible refine And.intro ?_ ?_) | (with_reducible intro _)))
      refine MS.to (c_Md_bitsOf hand) fun _ => ?_
      simp only [wR, wB, wE0, wE1, wE2, wE3, g0, gS, s10, s11, s1S, s20, s21, s2S, kl0, kl1, kl2, kl3, sp0, sp1, sp2, sp3, cn1, cn2, cn3, cn4, cn5, cn6, jJa, lk0, lk1, jmS, jmN, s4_0, s4_1, s4_2, s4_3, s4_4, sw0, sw1, cKs, cKn, true_and, and_true, List.map_cons, List.map_nil, Nat.reduceAdd, Nat.zero_add, Int.reduceAdd, Nat.reduceEqDiff, reduceIte, Classical.not_not, b_Md_tiredTo, shMd]
      (repeat' (first | omega | exact ⟨by omega, by omega⟩ | (with_reducible exact Or.inr trivial) | (with_reducible exact Or.inl trivial) | (with_reducible assumption) | (with_reducible exact Same.refl) | (with_reducible rfl) | (with_reducible refine And.intro ?_ ?_) | (with_reducible intro _)))
      refine MS.to (c_Md_bitsOf hset) fun _ => ?_
      simp only [wR, wB, wE0, wE1, wE2, wE3, g0, gS, s10, s11, s1S, s20, s21, s2S, kl0, kl1, kl2, kl3, sp0, sp1, sp2, sp3, cn1, cn2, cn3, cn4, cn5, cn6, jJa, lk0, lk1, jmS, jmN, s4_0, s4_1, s4_2, s4_3, s4_4, sw0, sw1, cKs, cKn, true_and, and_true, List.map_cons, List.map_nil, Nat.reduceAdd, Nat.zero_add, Int.reduceAdd, Nat.reduceEqDiff, reduceIte, Classical.not_not, b_Md_tiredTo, shMd]
      (repeat' (first | omega | exact ⟨by omega, by omega⟩ | (with_reducible exact Or.inr trivial) | (with_reducible exact Or.inl trivial) | (with_reducible assumption) | (with_reducible exact Same.refl) | (with_reducible rfl) | (with_reducible refine And.intro ?_ ?_) | (with_reducible intro _)))
      generalize hN : up (up (up M 123 6 _) 123 7 _) 123 8 _ = N
      have hsame : Same [122, 123] M N := by subst hN; exact (((Same.refl.up (by (first | decide | (simp only [List.mem_cons, List.not_mem_nil, or_false, not_or, not_false_eq_true, and_true]; omega) | (simp [List.mem_cons]; done)))).up (by (first | decide | (simp only [List.mem_cons, List.not_mem_nil, or_false, not_or, not_false_eq_true, and_true]; omega) | (simp [List.mem_cons]; done)))).up (by (first | decide | (simp only [List.mem_cons, List.not_mem_nil, or_false, not_or, not_false_eq_true, and_true]; omega) | (simp [List.mem_cons]; done))))
      have e118 : N 118 = M 118 := hsame 118 (by (first | decide | (simp only [List.mem_cons, List.not_mem_nil, or_false, not_or, not_false_eq_true, and_true]; omega) | (simp [List.mem_cons]; done)))
      have hnum := wvT_num (h := h) (sd := sd) (cold := cold) (set := set) (p := p) (str := dig s p) ok hsd.2 hc hset (by omega) (by omega)
      have ew : wvT h sd cold set p (dig s p) = wv p (N 118 (19 + (p : Int))) (dig s p) (N 118 (9 + (p : Int))) (N 118 (14 + (p : Int))) cold ((set / 2 ^ p % 2 : Nat) : Int) ((pop (set &&& sideS sd h.P (sd p)) : Int) - ((set / 2 ^ p % 2 : Nat) : Int)) ((pop set : Int) - (pop (set &&& sideS sd h.P (sd p)) : Int)) := by
        rw [e118, hsd.1, hw.1, hw.2]; rfl
      refine (c_Md_reckons (law := 0) (p := p) (n := h.tN) (f := f) (code := h.tC) (b := true) (hl := ((set / 2 ^ p % 2 : Nat) : Int)) (mt := (pop (set &&& sideS sd h.P (sd p)) : Int) - ((set / 2 ^ p % 2 : Nat) : Int)) (ot := (pop set : Int) - (pop (set &&& sideS sd h.P (sd p)) : Int)) (by omega) (by omega) (by omega) (by rw [e118]; exact hf) (by rw [e118]; exact hn) hfn (fun k hk => by rw [e118]; exact hco k hk) (ok.2.2.2.1 h0) ?_ (by rw [← ew]; exact hnum)).mono ?_
      · intro k hk a b
        subst hN
        unfold wv up
        rcases (show h.tC k = 1006 ∨ h.tC k = 1007 ∨ h.tC k = 1008 by omega) with q | q | q <;> rw [q] <;> simp
      · rintro r M' okM' ⟨⟨x, rfl, hx⟩, hs2⟩
        simp only [wR, wB, wE0, wE1, wE2, wE3, g0, gS, s10, s11, s1S, s20, s21, s2S, kl0, kl1, kl2, kl3, sp0, sp1, sp2, sp3, cn1, cn2, cn3, cn4, cn5, cn6, jJa, lk0, lk1, jmS, jmN, s4_0, s4_1, s4_2, s4_3, s4_4, sw0, sw1, cKs, cKn, true_and, and_true, List.map_cons, List.map_nil, Nat.reduceAdd, Nat.zero_add, Int.reduceAdd, Nat.reduceEqDiff, reduceIte, Classical.not_not, b_Md_tiredTo, shMd]
        rw [← ew] at hx
        have hkd := vals_kd hnum h.tN _ (ok.2.2.2.1 h0).2
        rw [hx] at hkd
        have hxn : numV x := hkd.1
        obtain ⟨x1, x2⟩ := hxn
        refine fin x M' _ ⟨by omega, by omega⟩ ?_ (hsame.trans hs2)
        unfold tired
        rw [if_neg h0, hx]
        rfl
  refine AW.run ck_Md_tiredTo [49] 8 0 ?_
  simp only [wR, wB, wE0, wE1, wE2, wE3, g0, gS, s10, s11, s1S, s20, s21, s2S, kl0, kl1, kl2, kl3, sp0, sp1, sp2, sp3, cn1, cn2, cn3, cn4, cn5, cn6, jJa, lk0, lk1, jmS, jmN, s4_0, s4_1, s4_2, s4_3, s4_4, sw0, sw1, cKs, cKn, true_and, and_true, List.map_cons, List.map_nil, Nat.reduceAdd, Nat.zero_add, Int.reduceAdd, Nat.reduceEqDiff, reduceIte, Classical.not_not, b_Md_tiredTo, shMd, bit_n (show set < 2 ^ 31 by omega) (show p < 32 by omega)]
  (repeat' (first | omega | exact ⟨by omega, by omega⟩ | (with_reducible exact Or.inr trivial) | (with_reducible exact Or.inl trivial) | (with_reducible assumption) | (with_reducible exact Same.refl) | (with_reducible rfl) | (with_reducible refine And.intro ?_ ?_) | (with_reducible intro _)))
  refine MS.to (c_Md_strengthIn (by omega) (by omega)) fun _ => ?_
  simp only [wR, wB, wE0, wE1, wE2, wE3, g0, gS, s10, s11, s1S, s20, s21, s2S, kl0, kl1, kl2, kl3, sp0, sp1, sp2, sp3, cn1, cn2, cn3, cn4, cn5, cn6, jJa, lk0, lk1, jmS, jmN, s4_0, s4_1, s4_2, s4_3, s4_4, sw0, sw1, cKs, cKn, true_and, and_true, List.map_cons, List.map_nil, Nat.reduceAdd, Nat.zero_add, Int.reduceAdd, Nat.reduceEqDiff, reduceIte, Classical.not_not, b_Md_tiredTo, shMd, hw.2]
  (repeat' (first | omega | exact ⟨by omega, by omega⟩ | (with_reducible exact Or.inr trivial) | (with_reducible exact Or.inl trivial) | (with_reducible assumption) | (with_reducible exact Same.refl) | (with_reducible rfl) | (with_reducible refine And.intro ?_ ?_) | (with_reducible intro _)))
  · refine mid _ ⟨by omega, by omega⟩ (fun h0 => ?_)
    unfold tired
    rw [if_pos h0, if_neg (by omega), if_neg (by omega)]
  · refine mid _ ⟨by omega, by omega⟩ (fun h0 => ?_)
    unfold tired
    rw [if_pos h0, if_neg (by omega), if_pos (by omega)]
  · refine mid _ ⟨by omega, by omega⟩ (fun h0 => ?_)
    unfold tired
    rw [if_pos h0, if_pos (by omega)]
end MP
