/-! the model's small methods -/
section MB
variable {G : AG} {d : Nat} {M : AM}
theorem c_Md_within {v lo hi : Int} : MS G d mi_Md_within [vl v, vl lo, vl hi] M (fun r M' => r = some (vi (if lo ≤ v ∧ v ≤ hi then 1 else 0)) ∧ M' = M) := by
  refine MS.run ck_Md_within [some (vl v), none, some (vl lo), none, some (vl hi), none] [] 10 fun _ _ => ?_
  simp only [wR, wB, wE0, wE1, wE2, wE3, g0, gS, s10, s11, s1S, s20, s21, s2S, kl0, kl1, kl2, kl3, sp0, sp1, sp2, sp3, cn1, cn2, cn3, cn4, cn5, cn6, jJa, lk0, lk1, jmS, jmN, s4_0, s4_1, s4_2, s4_3, s4_4, sw0, sw1, cKs, cKn, true_and, and_true, List.map_cons, List.map_nil, Nat.reduceAdd, Nat.zero_add, Int.reduceAdd, Nat.reduceEqDiff, reduceIte, Classical.not_not, b_Md_within, cmp3_lt, cmp3_gt]
  refine ⟨fun h => ⟨by simp, ?_⟩, fun h => ⟨fun h2 => ⟨by simp, ?_⟩, fun h2 => ⟨by simp, ?_⟩⟩⟩
  · rw [if_neg (by omega)]
  · rw [if_neg (by omega)]
  · rw [if_pos (by omega)]
theorem lShr_n {a b : Nat} (ha : a < 2 ^ 31) (hb : b < 64) : lShr (a : Int) (b : Int) = ((a / 2 ^ b : Nat) : Int) := by
  have key : ∀ k, k < 64 → (((nI k).toInt64 &&& 63).toBitVec.smod 64).toNat = k := by decide +kernel
  have h2 : a / 2 ^ b ≤ a := Nat.div_le_self _ _
  unfold lShr
  rw [show i6 (a : Int) = lN a from rfl, i3_n, pf_shr (key b hb) (by omega), pf_lI (by omega)]
theorem lAnd_1 {a : Nat} (ha : a < 2 ^ 31) : lAnd (a : Int) 1 = ((a % 2 : Nat) : Int) := by
  unfold lAnd
  have e : (lN a &&& 1) = lN (a % 2) := by
    apply Int64.toBitVec_inj.mp
    show BitVec.ofNat 64 a &&& BitVec.ofNat 64 1 = BitVec.ofNat 64 (a % 2)
    apply BitVec.eq_of_toNat_eq
    have e1 : a % 2 ^ 64 = a := Nat.mod_eq_of_lt (by omega)
    have e2 : a % 2 % 2 ^ 64 = a % 2 := Nat.mod_eq_of_lt (by omega)
    rw [BitVec.toNat_and, BitVec.toNat_ofNat, BitVec.toNat_ofNat, BitVec.toNat_ofNat, e1, e2]
    exact Nat.and_one_is_mod a
  rw [show i6 (a : Int) = lN a from rfl, show i6 1 = 1 from rfl, e, pf_lI (by omega)]
theorem c_Md_isIn {a k : Nat} (ha : a < 2 ^ 31) (hk : k < 64) : MS G d mi_Md_isIn [vl a, vi k] M (fun r M' => r = some (vi ((a / 2 ^ k % 2 : Nat) : Int)) ∧ M' = M) := by
  have h2 : a / 2 ^ k < 2 ^ 31 := Nat.lt_of_le_of_lt (Nat.div_le_self _ _) ha
  refine MS.run ck_Md_isIn [some (vl a), none, some (vi k)] [] 10 fun _ _ => ?_
  simp only [wR, wB, wE0, wE1, wE2, wE3, g0, gS, s10, s11, s1S, s20, s21, s2S, kl0, kl1, kl2, kl3, sp0, sp1, sp2, sp3, cn1, cn2, cn3, cn4, cn5, cn6, jJa, lk0, lk1, jmS, jmN, s4_0, s4_1, s4_2, s4_3, s4_4, sw0, sw1, cKs, cKn, true_and, and_true, List.map_cons, List.map_nil, Nat.reduceAdd, Nat.zero_add, Int.reduceAdd, Nat.reduceEqDiff, reduceIte, Classical.not_not, b_Md_isIn, lShr_n ha hk, lAnd_1 h2, cmp3_eq]
  refine ⟨fun h => ⟨by simp, ?_⟩, fun h => ⟨by simp, ?_⟩⟩
  · rw [show a / 2 ^ k % 2 = 0 by omega]; rfl
  · rw [show a / 2 ^ k % 2 = 1 by omega]; rfl
/-- the first n bits of a set, counted -/
def bitN (a : Nat) : Nat → Nat
  | 0 => 0
  | n + 1 => bitN a n + a / 2 ^ n % 2
theorem bitN_le (a : Nat) : ∀ n, bitN a n ≤ n
  | 0 => by simp [bitN]
  | n + 1 => by have := bitN_le a n; simp only [bitN]; omega
theorem bitN_pop {a : Nat} (h : a < 32) : bitN a 10 = pop a := by
  have key : ∀ a : Fin 32, bitN a.val 10 = pop a.val := by decide +kernel
  exact key ⟨a, h⟩
theorem c_Md_bitsOf {a : Nat} (h1 : a < 32) : MS G d mi_Md_bitsOf [vi a] M (fun r M' => r = some (vi (pop a)) ∧ M' = M) := by
  refine MS.by ck_Md_bitsOf [some (vi a), none, none] fun _ _ => ?_
  have loop : ∀ (m i : Nat), i + m = 10 → AW G d mi_Md_bitsOf (fun r M' => r = some (vi (pop a)) ∧ M' = M) 4 [some (vi a), some (vi (bitN a i)), some (vi i)] [] M := by
    intro m
    induction m with
    | zero =>
      intro i hi
      refine AW.run ck_Md_bitsOf [4] 8 4 ?_
      simp only [wR, wB, wE0, wE1, wE2, wE3, g0, gS, s10, s11, s1S, s20, s21, s2S, kl0, kl1, kl2, kl3, sp0, sp1, sp2, sp3, cn1, cn2, cn3, cn4, cn5, cn6, jJa, lk0, lk1, jmS, jmN, s4_0, s4_1, s4_2, s4_3, s4_4, sw0, sw1, cKs, cKn, true_and, and_true, List.map_cons, List.map_nil, Nat.reduceAdd, Nat.zero_add, Int.reduceAdd, Nat.reduceEqDiff, reduceIte, Classical.not_not, b_Md_bitsOf]
      refine ⟨fun _ => ?_, fun h => absurd (by omega) h⟩
      rw [show i = 10 by omega, bitN_pop h1]
    | succ m ih =>
      intro i hi
      have key := ih (i + 1) (by omega)
      have hl := bitN_le a i
      refine AW.run ck_Md_bitsOf [4] 8 4 ?_
      simp only [wR, wB, wE0, wE1, wE2, wE3, g0, gS, s10, s11, s1S, s20, s21, s2S, kl0, kl1, kl2, kl3, sp0, sp1, sp2, sp3, cn1, cn2, cn3, cn4, cn5, cn6, jJa, lk0, lk1, jmS, jmN, s4_0, s4_1, s4_2, s4_3, s4_4, sw0, sw1, cKs, cKn, true_and, and_true, List.map_cons, List.map_nil, Nat.reduceAdd, Nat.zero_add, Int.reduceAdd, Nat.reduceEqDiff, reduceIte, Classical.not_not, b_Md_bitsOf, ce, bit_n (show a < 2 ^ 31 by omega) (show i < 32 by omega)]
      refine ⟨fun h => absurd h (by omega), fun _ => ⟨⟨by omega, by omega⟩, ⟨by omega, by omega⟩, ?_⟩⟩
      rw [show ((bitN a i : Nat) : Int) + ((a / 2 ^ i % 2 : Nat) : Int) = ((bitN a (i + 1) : Nat) : Int) from rfl]
      exact key
  refine AW.run ck_Md_bitsOf [4] 8 0 ?_
  simp only [wR, wB, wE0, wE1, wE2, wE3, g0, gS, s10, s11, s1S, s20, s21, s2S, kl0, kl1, kl2, kl3, sp0, sp1, sp2, sp3, cn1, cn2, cn3, cn4, cn5, cn6, jJa, lk0, lk1, jmS, jmN, s4_0, s4_1, s4_2, s4_3, s4_4, sw0, sw1, cKs, cKn, true_and, and_true, List.map_cons, List.map_nil, Nat.reduceAdd, Nat.zero_add, Int.reduceAdd, Nat.reduceEqDiff, reduceIte, Classical.not_not, b_Md_bitsOf]
  exact loop 10 0 (by omega)
theorem c_Md_placeOf {p : Nat} (hp : p ≤ 5) : MS G d mi_Md_placeOf [vi p] M (fun r M' => r = some (vi ((5 ^ p : Nat) : Int)) ∧ M' = M) := by
  refine MS.by ck_Md_placeOf [some (vi p), none, none] fun _ _ => ?_
  have loop : ∀ (m i : Nat), i + m = p → AW G d mi_Md_placeOf (fun r M' => r = some (vi ((5 ^ p : Nat) : Int)) ∧ M' = M) 4 [some (vi p), some (vi ((5 ^ i : Nat) : Int)), some (vi i)] [] M := by
    intro m
    induction m with
    | zero =>
      intro i hi
      refine AW.run ck_Md_placeOf [4] 8 4 ?_
      simp only [wR, wB, wE0, wE1, wE2, wE3, g0, gS, s10, s11, s1S, s20, s21, s2S, kl0, kl1, kl2, kl3, sp0, sp1, sp2, sp3, cn1, cn2, cn3, cn4, cn5, cn6, jJa, lk0, lk1, jmS, jmN, s4_0, s4_1, s4_2, s4_3, s4_4, sw0, sw1, cKs, cKn, true_and, and_true, List.map_cons, List.map_nil, Nat.reduceAdd, Nat.zero_add, Int.reduceAdd, Nat.reduceEqDiff, reduceIte, Classical.not_not, b_Md_placeOf]
      refine ⟨fun _ => ?_, fun h => absurd (by omega) h⟩
      rw [show i = p by omega]
    | succ m ih =>
      intro i hi
      have key := ih (i + 1) (by omega)
      have h5 : ((5 ^ i : Nat) : Int) ≤ 625 := by
        have : 5 ^ i ≤ 5 ^ 4 := Nat.pow_le_pow_right (by omega) (by omega)
        omega
      have h50 : (0 : Int) ≤ ((5 ^ i : Nat) : Int) := Int.natCast_nonneg _
      have e : ((5 ^ i : Nat) : Int) * 5 = ((5 ^ (i + 1) : Nat) : Int) := by rw [Nat.pow_succ]; omega
      refine AW.run ck_Md_placeOf [4] 8 4 ?_
      simp only [wR, wB, wE0, wE1, wE2, wE3, g0, gS, s10, s11, s1S, s20, s21, s2S, kl0, kl1, kl2, kl3, sp0, sp1, sp2, sp3, cn1, cn2, cn3, cn4, cn5, cn6, jJa, lk0, lk1, jmS, jmN, s4_0, s4_1, s4_2, s4_3, s4_4, sw0, sw1, cKs, cKn, true_and, and_true, List.map_cons, List.map_nil, Nat.reduceAdd, Nat.zero_add, Int.reduceAdd, Nat.reduceEqDiff, reduceIte, Classical.not_not, b_Md_placeOf, ce]
      refine ⟨fun h => absurd h (by omega), fun _ => ⟨⟨by omega, by omega⟩, ⟨by omega, by omega⟩, ?_⟩⟩
      rw [e]
      exact key
  refine AW.run ck_Md_placeOf [4] 8 0 ?_
  simp only [wR, wB, wE0, wE1, wE2, wE3, g0, gS, s10, s11, s1S, s20, s21, s2S, kl0, kl1, kl2, kl3, sp0, sp1, sp2, sp3, cn1, cn2, cn3, cn4, cn5, cn6, jJa, lk0, lk1, jmS, jmN, s4_0, s4_1, s4_2, s4_3, s4_4, sw0, sw1, cKs, cKn, true_and, and_true, List.map_cons, List.map_nil, Nat.reduceAdd, Nat.zero_add, Int.reduceAdd, Nat.reduceEqDiff, reduceIte, Classical.not_not, b_Md_placeOf]
  exact loop p 0 (by omega)
/-- the strength of p in a stand -/
def dig (s p : Nat) : Nat := s / 5 ^ p % 5
theorem dig_lt (s p : Nat) : dig s p < 5 := Nat.mod_lt _ (by omega)
theorem c_Md_strengthIn {s p : Nat} (hd : 1 ≤ d) (hp : p ≤ 5) : MS G d mi_Md_strengthIn [vi s, vi p] M (fun r M' => r = some (vi (dig s p)) ∧ M' = M) := by
  refine MS.run ck_Md_strengthIn [some (vi s), some (vi p)] [] 10 fun _ _ => ?_
  simp only [wR, wB, wE0, wE1, wE2, wE3, g0, gS, s10, s11, s1S, s20, s21, s2S, kl0, kl1, kl2, kl3, sp0, sp1, sp2, sp3, cn1, cn2, cn3, cn4, cn5, cn6, jJa, lk0, lk1, jmS, jmN, s4_0, s4_1, s4_2, s4_3, s4_4, sw0, sw1, cKs, cKn, true_and, and_true, List.map_cons, List.map_nil, Nat.reduceAdd, Nat.zero_add, Int.reduceAdd, Nat.reduceEqDiff, reduceIte, Classical.not_not, b_Md_strengthIn]
  refine ⟨hd, MS.to (c_Md_placeOf hp) fun _ => ?_⟩
  have h5 : 0 < 5 ^ p := Nat.pow_pos (by omega)
  have h50 : (0 : Int) < ((5 ^ p : Nat) : Int) := Int.natCast_pos.mpr h5
  simp only [wR, wB, wE0, wE1, wE2, wE3, g0, gS, s10, s11, s1S, s20, s21, s2S, kl0, kl1, kl2, kl3, sp0, sp1, sp2, sp3, cn1, cn2, cn3, cn4, cn5, cn6, jJa, lk0, lk1, jmS, jmN, s4_0, s4_1, s4_2, s4_3, s4_4, sw0, sw1, cKs, cKn, true_and, and_true, List.map_cons, List.map_nil, Nat.reduceAdd, Nat.zero_add, Int.reduceAdd, Nat.reduceEqDiff, reduceIte, Classical.not_not, b_Md_strengthIn]
  have e : ((s : Int) / ((5 ^ p : Nat) : Int)) % 5 = ((dig s p : Nat) : Int) := by unfold dig; rw [Int.natCast_emod, Int.natCast_ediv]; rfl
  refine ⟨by omega, h50, Int.ediv_nonneg (by omega) (by omega), by omega, ?_⟩
  rw [e]
/-- a stand out of strengths: those from k on, n of them -/
def codT (f : Nat → Nat) : Nat → Nat → Nat
  | _, 0 => 0
  | k, n + 1 => f k + 5 * codT f (k + 1) n
def cod (f : Nat → Nat) (P : Nat) : Nat := codT f 0 P
theorem codT_lt {f : Nat → Nat} : ∀ (n k : Nat), (∀ p, k ≤ p → p < k + n → f p ≤ 4) → codT f k n < 5 ^ n
  | 0, _, _ => by simp [codT]
  | n + 1, k, h => by
    have h1 := codT_lt n (k + 1) (fun p a b => h p (by omega) (by omega))
    have h2 := h k (by omega) (by omega)
    simp only [codT, Nat.pow_succ]
    omega
theorem c_Md_standNow {P : Nat} {st : Nat → Nat} (hP : M 118 1 = P) (hP5 : P ≤ 5) (hst : ∀ p : Nat, p < P → M 118 (24 + (p : Int)) = st p ∧ st p ≤ 4) : MS G d mi_Md_standNow [vr 117] M (fun r M' => r = some (vi (cod st P)) ∧ M' = M) := by
  refine MS.by ck_Md_standNow [some (vr 117), none, none] fun _ _ => ?_
  have loop : ∀ (k : Nat), k ≤ P → AW G d mi_Md_standNow (fun r M' => r = some (vi (cod st P)) ∧ M' = M) 11 [some (vr 117), some (vi (codT st k (P - k))), some (vi ((k : Int) - 1))] [] M := by
    intro k
    induction k with
    | zero =>
      intro _
      refine AW.run ck_Md_standNow [11] 8 11 ?_
      simp only [wR, wB, wE0, wE1, wE2, wE3, g0, gS, s10, s11, s1S, s20, s21, s2S, kl0, kl1, kl2, kl3, sp0, sp1, sp2, sp3, cn1, cn2, cn3, cn4, cn5, cn6, jJa, lk0, lk1, jmS, jmN, s4_0, s4_1, s4_2, s4_3, s4_4, sw0, sw1, cKs, cKn, true_and, and_true, List.map_cons, List.map_nil, Nat.reduceAdd, Nat.zero_add, Int.reduceAdd, Nat.reduceEqDiff, reduceIte, Classical.not_not, b_Md_standNow, shMd]
      exact ⟨fun _ => rfl, fun h => absurd (by omega) h⟩
    | succ k ih =>
      intro hk
      have key := ih (by omega)
      obtain ⟨hs, hs4⟩ := hst k (by omega)
      have hl := codT_lt (f := st) (P - (k + 1)) (k + 1) (fun p a b => (hst p (by omega)).2)
      have hl5 : 5 ^ (P - (k + 1)) ≤ 5 ^ 4 := Nat.pow_le_pow_right (by omega) (by omega)
      have e : (5 : Int) * (codT st (k + 1) (P - (k + 1)) : Nat) + (st k : Nat) = ((codT st k (P - k) : Nat) : Int) := by
        rw [show P - k = (P - (k + 1)) + 1 by omega]
        simp only [codT]
        omega
      refine AW.run ck_Md_standNow [11] 8 11 ?_
      simp only [wR, wB, wE0, wE1, wE2, wE3, g0, gS, s10, s11, s1S, s20, s21, s2S, kl0, kl1, kl2, kl3, sp0, sp1, sp2, sp3, cn1, cn2, cn3, cn4, cn5, cn6, jJa, lk0, lk1, jmS, jmN, s4_0, s4_1, s4_2, s4_3, s4_4, sw0, sw1, cKs, cKn, true_and, and_true, List.map_cons, List.map_nil, Nat.reduceAdd, Nat.zero_add, Int.reduceAdd, Nat.reduceEqDiff, reduceIte, Classical.not_not, b_Md_standNow, shMd]
      rw [show ((k + 1 : Nat) : Int) - 1 = k by omega, hs]
      refine ⟨fun h => absurd h (by omega), fun _ => ⟨⟨by omega, by omega⟩, ⟨by omega, by omega⟩, ⟨by omega, by omega⟩, ⟨by omega, by omega⟩, ⟨by omega, by omega⟩, ?_⟩⟩
      rw [e]
      exact key
  refine AW.run ck_Md_standNow [11] 8 0 ?_
  simp only [wR, wB, wE0, wE1, wE2, wE3, g0, gS, s10, s11, s1S, s20, s21, s2S, kl0, kl1, kl2, kl3, sp0, sp1, sp2, sp3, cn1, cn2, cn3, cn4, cn5, cn6, jJa, lk0, lk1, jmS, jmN, s4_0, s4_1, s4_2, s4_3, s4_4, sw0, sw1, cKs, cKn, true_and, and_true, List.map_cons, List.map_nil, Nat.reduceAdd, Nat.zero_add, Int.reduceAdd, Nat.reduceEqDiff, reduceIte, Classical.not_not, b_Md_standNow, shMd, hP]
  refine ⟨by omega, ⟨by omega, by omega⟩, ?_⟩
  have := loop P (Nat.le_refl _)
  rw [Nat.sub_self] at this
  exact this
/-- what the state holds of people: P of them, their sides, strengths, weights, rods -/
def Ppl (M : AM) (P : Nat) (sd st : Nat → Nat) : Prop := M 118 1 = P ∧ P ≤ 5 ∧ (∀ p : Nat, p < P → M 118 (19 + (p : Int)) = sd p ∧ sd p ≤ 1) ∧ ∀ p : Nat, p < P → M 118 (24 + (p : Int)) = st p ∧ st p ≤ 4
/-- who of the first n has a property, as bits -/
def bitsP (f : Nat → Bool) : Nat → Nat
  | 0 => 0
  | n + 1 => bitsP f n + (if f n = true then 2 ^ n else 0)
theorem bitsP_lt (f : Nat → Bool) : ∀ n, bitsP f n < 2 ^ n
  | 0 => by simp [bitsP]
  | n + 1 => by
    have := bitsP_lt f n
    have e : (2 : Nat) ^ (n + 1) = 2 ^ n + 2 ^ n := by rw [Nat.pow_succ]; omega
    simp only [bitsP]
    split <;> omega
theorem or_0 {a : Nat} (h : a < 2 ^ 31) : bOr (a : Int) 0 = a := by
  have := bOr_n (b := 0) h (by decide)
  simpa using this
theorem c_Md_sideOf {P s : Nat} {sd : Nat → Nat} (hP : M 118 1 = P) (hP5 : P ≤ 5) (hsd : ∀ p : Nat, p < P → M 118 (19 + (p : Int)) = sd p) : MS G d mi_Md_sideOf [vr 117, vi s] M (fun r M' => r = some (vi (bitsP (fun p => decide (sd p = s)) P)) ∧ M' = M) := by
  refine MS.by ck_Md_sideOf [some (vr 117), some (vi s), none, none] fun _ _ => ?_
  have loop : ∀ (m i : Nat), i + m = P → AW G d mi_Md_sideOf (fun r M' => r = some (vi (bitsP (fun p => decide (sd p = s)) P)) ∧ M' = M) 4 [some (vr 117), some (vi s), some (vi (bitsP (fun p => decide (sd p = s)) i)), some (vi i)] [] M := by
    intro m
    induction m with
    | zero =>
      intro i hi
      refine AW.run ck_Md_sideOf [4] 8 4 ?_
      simp only [wR, wB, wE0, wE1, wE2, wE3, g0, gS, s10, s11, s1S, s20, s21, s2S, kl0, kl1, kl2, kl3, sp0, sp1, sp2, sp3, cn1, cn2, cn3, cn4, cn5, cn6, jJa, lk0, lk1, jmS, jmN, s4_0, s4_1, s4_2, s4_3, s4_4, sw0, sw1, cKs, cKn, true_and, and_true, List.map_cons, List.map_nil, Nat.reduceAdd, Nat.zero_add, Int.reduceAdd, Nat.reduceEqDiff, reduceIte, Classical.not_not, b_Md_sideOf, shMd, hP]
      refine ⟨by omega, fun _ => ?_, fun h => absurd (by omega) h⟩
      rw [show i = P by omega]
    | succ m ih =>
      intro i hi
      have key := ih (i + 1) (by omega)
      have hl := bitsP_lt (fun p => decide (sd p = s)) i
      have h30 : 2 ^ i ≤ 2 ^ 5 := Nat.pow_le_pow_right (by omega) (by omega)
      refine AW.run ck_Md_sideOf [4] 8 4 ?_
      simp only [wR, wB, wE0, wE1, wE2, wE3, g0, gS, s10, s11, s1S, s20, s21, s2S, kl0, kl1, kl2, kl3, sp0, sp1, sp2, sp3, cn1, cn2, cn3, cn4, cn5, cn6, jJa, lk0, lk1, jmS, jmN, s4_0, s4_1, s4_2, s4_3, s4_4, sw0, sw1, cKs, cKn, true_and, and_true, List.map_cons, List.map_nil, Nat.reduceAdd, Nat.zero_add, Int.reduceAdd, Nat.reduceEqDiff, reduceIte, Classical.not_not, b_Md_sideOf, shMd, hP, ce, hsd i (by omega)]
      refine ⟨by omega, fun h => absurd h (by omega), fun _ => ⟨⟨by omega, by omega⟩, ⟨by omega, by omega⟩, fun hn => ⟨⟨by omega, by omega⟩, ?_⟩, fun he => ⟨⟨by omega, by omega⟩, ?_⟩⟩⟩
      · rw [or_0 (by omega)]
        simp only [bitsP, decide_eq_true_eq, if_neg (show ¬ sd i = s by omega), Nat.add_zero] at key
        exact key
      · rw [or_new hl (by omega)]
        simp only [bitsP, decide_eq_true_eq, if_pos (show sd i = s by omega)] at key
        exact key
  refine AW.run ck_Md_sideOf [4] 8 0 ?_
  simp only [wR, wB, wE0, wE1, wE2, wE3, g0, gS, s10, s11, s1S, s20, s21, s2S, kl0, kl1, kl2, kl3, sp0, sp1, sp2, sp3, cn1, cn2, cn3, cn4, cn5, cn6, jJa, lk0, lk1, jmS, jmN, s4_0, s4_1, s4_2, s4_3, s4_4, sw0, sw1, cKs, cKn, true_and, and_true, List.map_cons, List.map_nil, Nat.reduceAdd, Nat.zero_add, Int.reduceAdd, Nat.reduceEqDiff, reduceIte, Classical.not_not, b_Md_sideOf]
  exact loop P 0 (by omega)
theorem c_Md_ableIn {P s : Nat} (hd : 2 ≤ d) (hP : M 118 1 = P) (hP5 : P ≤ 5) : MS G d mi_Md_ableIn [vr 117, vi s] M (fun r M' => r = some (vi (bitsP (fun p => decide (0 < dig s p)) P)) ∧ M' = M) := by
  refine MS.by ck_Md_ableIn [some (vr 117), some (vi s), none, none] fun _ _ => ?_
  have loop : ∀ (m i : Nat), i + m = P → AW G d mi_Md_ableIn (fun r M' => r = some (vi (bitsP (fun p => decide (0 < dig s p)) P)) ∧ M' = M) 4 [some (vr 117), some (vi s), some (vi (bitsP (fun p => decide (0 < dig s p)) i)), some (vi i)] [] M := by
    intro m
    induction m with
    | zero =>
      intro i hi
      refine AW.run ck_Md_ableIn [4] 8 4 ?_
      simp only [wR, wB, wE0, wE1, wE2, wE3, g0, gS, s10, s11, s1S, s20, s21, s2S, kl0, kl1, kl2, kl3, sp0, sp1, sp2, sp3, cn1, cn2, cn3, cn4, cn5, cn6, jJa, lk0, lk1, jmS, jmN, s4_0, s4_1, s4_2, s4_3, s4_4, sw0, sw1, cKs, cKn, true_and, and_true, List.map_cons, List.map_nil, Nat.reduceAdd, Nat.zero_add, Int.reduceAdd, Nat.reduceEqDiff, reduceIte, Classical.not_not, b_Md_ableIn, shMd, hP]
      refine ⟨by omega, fun _ => ?_, fun h => absurd (by omega) h⟩
      rw [show i = P by omega]
    | succ m ih =>
      intro i hi
      have key := ih (i + 1) (by omega)
      have hl := bitsP_lt (fun p => decide (0 < dig s p)) i
      have h30 : 2 ^ i ≤ 2 ^ 5 := Nat.pow_le_pow_right (by omega) (by omega)
      refine AW.run ck_Md_ableIn [4] 8 4 ?_
      simp only [wR, wB, wE0, wE1, wE2, wE3, g0, gS, s10, s11, s1S, s20, s21, s2S, kl0, kl1, kl2, kl3, sp0, sp1, sp2, sp3, cn1, cn2, cn3, cn4, cn5, cn6, jJa, lk0, lk1, jmS, jmN, s4_0, s4_1, s4_2, s4_3, s4_4, sw0, sw1, cKs, cKn, true_and, and_true, List.map_cons, List.map_nil, Nat.reduceAdd, Nat.zero_add, Int.reduceAdd, Nat.reduceEqDiff, reduceIte, Classical.not_not, b_Md_ableIn, shMd, hP, ce]
      refine ⟨by omega, fun h => absurd h (by omega), fun _ => ⟨by omega, MS.to (c_Md_strengthIn (by omega) (by omega)) fun _ => ?_⟩⟩
      simp only [wR, wB, wE0, wE1, wE2, wE3, g0, gS, s10, s11, s1S, s20, s21, s2S, kl0, kl1, kl2, kl3, sp0, sp1, sp2, sp3, cn1, cn2, cn3, cn4, cn5, cn6, jJa, lk0, lk1, jmS, jmN, s4_0, s4_1, s4_2, s4_3, s4_4, sw0, sw1, cKs, cKn, true_and, and_true, List.map_cons, List.map_nil, Nat.reduceAdd, Nat.zero_add, Int.reduceAdd, Nat.reduceEqDiff, reduceIte, Classical.not_not, b_Md_ableIn, ce]
      refine ⟨fun hn => ⟨⟨by omega, by omega⟩, ?_⟩, fun he => ⟨⟨by omega, by omega⟩, ?_⟩⟩
      · rw [or_0 (by omega)]
        simp only [bitsP, decide_eq_true_eq, if_neg (show ¬ 0 < dig s i by omega), Nat.add_zero] at key
        exact key
      · rw [or_new hl (by omega)]
        simp only [bitsP, decide_eq_true_eq, if_pos (show 0 < dig s i by omega)] at key
        exact key
  refine AW.run ck_Md_ableIn [4] 8 0 ?_
  simp only [wR, wB, wE0, wE1, wE2, wE3, g0, gS, s10, s11, s1S, s20, s21, s2S, kl0, kl1, kl2, kl3, sp0, sp1, sp2, sp3, cn1, cn2, cn3, cn4, cn5, cn6, jJa, lk0, lk1, jmS, jmN, s4_0, s4_1, s4_2, s4_3, s4_4, sw0, sw1, cKs, cKn, true_and, and_true, List.map_cons, List.map_nil, Nat.reduceAdd, Nat.zero_add, Int.reduceAdd, Nat.reduceEqDiff, reduceIte, Classical.not_not, b_Md_ableIn]
  exact loop P 0 (by omega)
theorem c_Md_isPerson {P : Nat} {v : Int} (hd : 1 ≤ d) (hP : M 118 1 = P) (hP5 : P ≤ 5) : MS G d mi_Md_isPerson [vr 117, vl v] M (fun r M' => r = some (vi (if 0 ≤ v ∧ v < P then 1 else 0)) ∧ M' = M) := by
  refine MS.run ck_Md_isPerson [some (vr 117), some (vl v), none] [] 10 fun _ _ => ?_
  simp only [wR, wB, wE0, wE1, wE2, wE3, g0, gS, s10, s11, s1S, s20, s21, s2S, kl0, kl1, kl2, kl3, sp0, sp1, sp2, sp3, cn1, cn2, cn3, cn4, cn5, cn6, jJa, lk0, lk1, jmS, jmN, s4_0, s4_1, s4_2, s4_3, s4_4, sw0, sw1, cKs, cKn, true_and, and_true, List.map_cons, List.map_nil, Nat.reduceAdd, Nat.zero_add, Int.reduceAdd, Nat.reduceEqDiff, reduceIte, Classical.not_not, b_Md_isPerson, shMd, hP]
  refine ⟨by omega, ⟨by omega, by omega⟩, hd, MS.to c_Md_within fun _ => ?_⟩
  simp only [wR, wB, wE0, wE1, wE2, wE3, g0, gS, s10, s11, s1S, s20, s21, s2S, kl0, kl1, kl2, kl3, sp0, sp1, sp2, sp3, cn1, cn2, cn3, cn4, cn5, cn6, jJa, lk0, lk1, jmS, jmN, s4_0, s4_1, s4_2, s4_3, s4_4, sw0, sw1, cKs, cKn, true_and, and_true, List.map_cons, List.map_nil, Nat.reduceAdd, Nat.zero_add, Int.reduceAdd, Nat.reduceEqDiff, reduceIte, Classical.not_not, b_Md_isPerson]
  by_cases h : 0 ≤ v ∧ v < P
  · rw [if_pos h, if_pos (by omega)]; exact ⟨by simp, rfl⟩
  · rw [if_neg h, if_neg (by omega)]; exact ⟨by simp, rfl⟩
theorem c_Md_isSet {P : Nat} {v : Int} (hd : 1 ≤ d) (hP : M 118 1 = P) (hP5 : P ≤ 5) : MS G d mi_Md_isSet [vr 117, vl v] M (fun r M' => r = some (vi (if 0 ≤ v ∧ v < ((2 ^ P : Nat) : Int) then 1 else 0)) ∧ M' = M) := by
  have h32 : 2 ^ P ≤ 2 ^ 5 := Nat.pow_le_pow_right (by omega) hP5
  have h0 : 0 < 2 ^ P := Nat.pow_pos (by omega)
  have e : bShl 1 (P : Int) = ((2 ^ P : Nat) : Int) := by
    rw [show (1 : Int) = ((1 : Nat) : Int) from rfl, bShl_n (by omega) (by omega), Nat.one_mul]
  refine MS.run ck_Md_isSet [some (vr 117), some (vl v), none] [] 10 fun _ _ => ?_
  simp only [wR, wB, wE0, wE1, wE2, wE3, g0, gS, s10, s11, s1S, s20, s21, s2S, kl0, kl1, kl2, kl3, sp0, sp1, sp2, sp3, cn1, cn2, cn3, cn4, cn5, cn6, jJa, lk0, lk1, jmS, jmN, s4_0, s4_1, s4_2, s4_3, s4_4, sw0, sw1, cKs, cKn, true_and, and_true, List.map_cons, List.map_nil, Nat.reduceAdd, Nat.zero_add, Int.reduceAdd, Nat.reduceEqDiff, reduceIte, Classical.not_not, b_Md_isSet, shMd, hP, e]
  refine ⟨by omega, ⟨by omega, by omega⟩, hd, MS.to c_Md_within fun _ => ?_⟩
  simp only [wR, wB, wE0, wE1, wE2, wE3, g0, gS, s10, s11, s1S, s20, s21, s2S, kl0, kl1, kl2, kl3, sp0, sp1, sp2, sp3, cn1, cn2, cn3, cn4, cn5, cn6, jJa, lk0, lk1, jmS, jmN, s4_0, s4_1, s4_2, s4_3, s4_4, sw0, sw1, cKs, cKn, true_and, and_true, List.map_cons, List.map_nil, Nat.reduceAdd, Nat.zero_add, Int.reduceAdd, Nat.reduceEqDiff, reduceIte, Classical.not_not, b_Md_isSet]
  by_cases h : 0 ≤ v ∧ v < ((2 ^ P : Nat) : Int)
  · rw [if_pos h, if_pos (by omega)]; exact ⟨by simp, rfl⟩
  · rw [if_neg h, if_neg (by omega)]; exact ⟨by simp, rfl⟩
theorem c_Md_isSide {v : Int} (hd : 1 ≤ d) : MS G d mi_Md_isSide [vi v] M (fun r M' => r = some (vi (if v = 0 ∨ v = 1 then 1 else 0)) ∧ M' = M) := by
  refine MS.run ck_Md_isSide [some (vi v)] [] 10 fun _ _ => ?_
  simp only [wR, wB, wE0, wE1, wE2, wE3, g0, gS, s10, s11, s1S, s20, s21, s2S, kl0, kl1, kl2, kl3, sp0, sp1, sp2, sp3, cn1, cn2, cn3, cn4, cn5, cn6, jJa, lk0, lk1, jmS, jmN, s4_0, s4_1, s4_2, s4_3, s4_4, sw0, sw1, cKs, cKn, true_and, and_true, List.map_cons, List.map_nil, Nat.reduceAdd, Nat.zero_add, Int.reduceAdd, Nat.reduceEqDiff, reduceIte, Classical.not_not, b_Md_isSide]
  refine ⟨hd, MS.to c_Md_within fun _ => ?_⟩
  simp only [wR, wB, wE0, wE1, wE2, wE3, g0, gS, s10, s11, s1S, s20, s21, s2S, kl0, kl1, kl2, kl3, sp0, sp1, sp2, sp3, cn1, cn2, cn3, cn4, cn5, cn6, jJa, lk0, lk1, jmS, jmN, s4_0, s4_1, s4_2, s4_3, s4_4, sw0, sw1, cKs, cKn, true_and, and_true, List.map_cons, List.map_nil, Nat.reduceAdd, Nat.zero_add, Int.reduceAdd, Nat.reduceEqDiff, reduceIte, Classical.not_not, b_Md_isSide]
  by_cases h : v = 0 ∨ v = 1
  · rw [if_pos h, if_pos (by omega)]; exact ⟨by simp, rfl⟩
  · rw [if_neg h, if_neg (by omega)]; exact ⟨by simp, rfl⟩
end MB
