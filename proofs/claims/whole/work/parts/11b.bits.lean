/-! bits (the first rows out of the kit's BITS.to-paste) -/
def bt (x : Int32) (i : Nat) : Bool := x.toBitVec.getLsbD i
theorem b_ext {x y : Int32} (h : ∀ i, i < 32 → bt x i = bt y i) : x = y := Int32.toBitVec_inj.mp (BitVec.eq_of_getLsbD_eq (fun i hi => h i hi))
theorem b_or (x y : Int32) (i : Nat) : bt (x ||| y) i = (bt x i || bt y i) := by unfold bt; rw [Int32.toBitVec_or, BitVec.getLsbD_or]
theorem b_and (x y : Int32) (i : Nat) : bt (x &&& y) i = (bt x i && bt y i) := by unfold bt; rw [Int32.toBitVec_and, BitVec.getLsbD_and]
theorem b_xor (x y : Int32) (i : Nat) : bt (x ^^^ y) i = (bt x i ^^ bt y i) := by unfold bt; rw [Int32.toBitVec_xor, BitVec.getLsbD_xor]
theorem b_big {x : Int32} {i : Nat} (h : 32 ≤ i) : bt x i = false := BitVec.getLsbD_of_ge _ _ h
theorem b_m1 : ∀ i, i < 32 → bt (-1) i = true := by decide +kernel
theorem b_0 (i : Nat) : bt 0 i = false := BitVec.getLsbD_zero
theorem s_l : ∀ n, n < 32 → ((nI n &&& 31).toBitVec.smod 32).toNat = n := by decide +kernel
theorem s_u : ∀ n, n < 32 → (((nI n).toUInt32 &&& Int32.toUInt32 31).toBitVec % 32).toNat = n := by decide +kernel
theorem b_shl (n : Nat) (hn : n < 32) (x : Int32) {i : Nat} (hi : i < 32) : bt (x <<< (nI n &&& 31)) i = (decide (n ≤ i) && bt x (i - n)) := by
  unfold bt
  rw [Int32.toBitVec_shiftLeft]
  show (x.toBitVec <<< ((nI n &&& 31).toBitVec.smod 32).toNat).getLsbD i = _
  rw [s_l n hn, BitVec.getLsbD_shiftLeft]
  rcases Nat.lt_or_ge i n with h | h
  · simp [h, Nat.not_le.mpr h]
  · simp [hi, h, Nat.not_lt.mpr h]
theorem b_ushr (n : Nat) (hn : n < 32) (x : Int32) (i : Nat) : bt ((x.toUInt32 >>> ((nI n).toUInt32 &&& Int32.toUInt32 31)).toInt32) i = bt x (n + i) := by
  show (x.toUInt32 >>> ((nI n).toUInt32 &&& Int32.toUInt32 31)).toBitVec.getLsbD i = x.toUInt32.toBitVec.getLsbD (n + i)
  rw [UInt32.toBitVec_shiftRight]
  show (x.toUInt32.toBitVec >>> (((nI n).toUInt32 &&& Int32.toUInt32 31).toBitVec % 32).toNat).getLsbD i = _
  rw [s_u n hn, BitVec.getLsbD_ushiftRight]
theorem b_sshr (n : Nat) (hn : n < 32) (x : Int32) {i : Nat} (hi : i < 32) : bt (x >>> (nI n &&& 31)) i = if n + i < 32 then bt x (n + i) else bt x 31 := by
  unfold bt
  rw [Int32.toBitVec_shiftRight]
  show (x.toBitVec.sshiftRight ((nI n &&& 31).toBitVec.smod 32).toNat).getLsbD i = _
  rw [s_l n hn, BitVec.getLsbD_sshiftRight, BitVec.msb_eq_getLsbD_last]
  simp [hi]
theorem nx_and (a b : Nat) : nI a &&& nI b = nI (a &&& b) := by
  apply Int32.toBitVec_inj.1
  show BitVec.ofNat 32 a &&& BitVec.ofNat 32 b = BitVec.ofNat 32 (a &&& b)
  apply BitVec.eq_of_getLsbD_eq
  intro i hi
  simp [hi]
theorem nx_xor (a b : Nat) : nI a ^^^ nI b = nI (a ^^^ b) := by
  apply Int32.toBitVec_inj.1
  show BitVec.ofNat 32 a ^^^ BitVec.ofNat 32 b = BitVec.ofNat 32 (a ^^^ b)
  apply BitVec.eq_of_getLsbD_eq
  intro i hi
  simp [hi]
theorem nx_or (a b : Nat) : nI a ||| nI b = nI (a ||| b) := by
  apply Int32.toBitVec_inj.1
  show BitVec.ofNat 32 a ||| BitVec.ofNat 32 b = BitVec.ofNat 32 (a ||| b)
  apply BitVec.eq_of_getLsbD_eq
  intro i hi
  simp [hi]
theorem i3_n (n : Nat) : i3 (n : Int) = nI n := rfl
theorem bAnd_n {a b : Nat} (ha : a < 2 ^ 31) : bAnd (a : Int) (b : Int) = ((a &&& b : Nat) : Int) := by
  unfold bAnd
  rw [i3_n, i3_n, nx_and, nI_toInt (Nat.lt_of_le_of_lt Nat.and_le_left ha)]
theorem bOr_n {a b : Nat} (ha : a < 2 ^ 31) (hb : b < 2 ^ 31) : bOr (a : Int) (b : Int) = ((a ||| b : Nat) : Int) := by
  unfold bOr
  rw [i3_n, i3_n, nx_or, nI_toInt (Nat.or_lt_two_pow ha hb)]
theorem bXor_n {a b : Nat} (ha : a < 2 ^ 31) (hb : b < 2 ^ 31) : bXor (a : Int) (b : Int) = ((a ^^^ b : Nat) : Int) := by
  unfold bXor
  rw [i3_n, i3_n, nx_xor, nI_toInt (Nat.xor_lt_two_pow ha hb)]
theorem bShr_n {a b : Nat} (ha : a < 2 ^ 31) (hb : b < 32) : bShr (a : Int) (b : Int) = ((a / 2 ^ b : Nat) : Int) := by
  unfold bShr
  rw [i3_n, i3_n, pk_shrN ha _ b (s_l b hb), nI_toInt (Nat.lt_of_le_of_lt (Nat.div_le_self _ _) ha)]
theorem bShl_n {a b : Nat} (hb : b < 32) (h : a * 2 ^ b < 2 ^ 31) : bShl (a : Int) (b : Int) = ((a * 2 ^ b : Nat) : Int) := by
  unfold bShl
  rw [i3_n, i3_n, pk_shlN _ b (s_l b hb) (by omega), nI_toInt h]
theorem bAnd_mod {x : Int} {m k : Nat} (hm : m = 2 ^ k - 1) (hk : k ≤ 31) : bAnd x (m : Int) = (((i3 x).toBitVec.toNat % 2 ^ k : Nat) : Int) := by
  subst hm
  unfold bAnd
  have h2 : (2 : Nat) ^ k ≤ 2 ^ 31 := Nat.pow_le_pow_right (by omega) hk
  have h0 : 0 < (2 : Nat) ^ k := Nat.pow_pos (by omega)
  rw [i3_n, pk_and _ k (by rw [pk_tn (by omega)]), nI_toInt (Nat.lt_of_lt_of_le (Nat.mod_lt _ h0) h2)]
/-- which numbers are sets of k people -/
theorem set_iff {x : Int} {k : Nat} (hx : inI x) (hk : k ≤ 5) : bAnd x (bXor ((2 ^ k - 1 : Nat) : Int) (-1)) = 0 ↔ 0 ≤ x ∧ x < ((2 ^ k : Nat) : Int) := by
  have hb : ∀ k : Fin 6, ∀ i : Fin 32, bt (nI (2 ^ k.val - 1)) i.val = decide (i.val < k.val) := by decide +kernel
  have hbm : ∀ i, i < 32 → bt (nI (2 ^ k - 1)) i = decide (i < k) := fun i hi => hb ⟨k, by omega⟩ ⟨i, hi⟩
  have h32 : (2 : Nat) ^ k ≤ 32 := Nat.le_trans (Nat.pow_le_pow_right (by omega) hk) (by decide)
  have h0 : 0 < (2 : Nat) ^ k := Nat.pow_pos (by omega)
  have e0 : bAnd x (bXor ((2 ^ k - 1 : Nat) : Int) (-1)) = (i3 x &&& (nI (2 ^ k - 1) ^^^ (-1))).toInt := by
    unfold bAnd bXor
    rw [i3_of]
    rfl
  rw [e0]
  constructor
  · intro h
    have hz : i3 x &&& (nI (2 ^ k - 1) ^^^ (-1)) = 0 := Int32.toInt_inj.mp (by rw [h]; rfl)
    have hX : i3 x = i3 x &&& nI (2 ^ k - 1) := by
      apply b_ext
      intro i hi
      have h1 : bt (i3 x &&& (nI (2 ^ k - 1) ^^^ (-1))) i = false := by rw [hz]; exact BitVec.getLsbD_zero
      rw [b_and, b_xor, b_m1 i hi] at h1
      rw [b_and]
      cases h2 : bt (i3 x) i <;> cases h3 : bt (nI (2 ^ k - 1)) i <;> simp [h2, h3] at h1 ⊢
    have hn := bAnd_mod (x := x) (m := 2 ^ k - 1) rfl (by omega : k ≤ 31)
    unfold bAnd at hn
    rw [i3_n, ← hX, i3_to hx] at hn
    have := Nat.mod_lt (i3 x).toBitVec.toNat h0
    omega
  · intro h
    obtain ⟨n, rfl⟩ := Int.eq_ofNat_of_zero_le h.1
    have hn : n < 2 ^ k := by omega
    have : i3 (n : Int) &&& (nI (2 ^ k - 1) ^^^ (-1)) = 0 := by
      apply b_ext
      intro i hi
      rw [b_and, b_xor, b_m1 i hi, hbm i hi, show bt 0 i = false from BitVec.getLsbD_zero]
      by_cases hik : i < k
      · simp [hik]
      · have : bt (i3 (n : Int)) i = false := by
          show (BitVec.ofNat 32 n).getLsbD i = false
          rw [BitVec.getLsbD_ofNat]
          have : n.testBit i = false := Nat.testBit_lt_two_pow (Nat.lt_of_lt_of_le hn (Nat.pow_le_pow_right (by omega) (by omega)))
          simp [this]
        simp [this]
    rw [this]
    rfl
/-- sets of five: what is in a and not in b -/
theorem bAndN_n {a b : Nat} (ha : a < 32) (hb : b < 32) : bAnd (a : Int) (bXor (b : Int) (-1)) = ((a &&& (31 ^^^ b) : Nat) : Int) := by
  have h : ∀ a b : Fin 32, bAnd (a.val : Int) (bXor (b.val : Int) (-1)) = ((a.val &&& (31 ^^^ b.val) : Nat) : Int) := by decide +kernel
  exact h ⟨a, ha⟩ ⟨b, hb⟩
theorem bit_n {a p : Nat} (ha : a < 2 ^ 31) (hp : p < 32) : bAnd (bShr (a : Int) (p : Int)) 1 = ((a / 2 ^ p % 2 : Nat) : Int) := by
  rw [bShr_n ha hp]
  have h1 : a / 2 ^ p < 2 ^ 31 := Nat.lt_of_le_of_lt (Nat.div_le_self _ _) ha
  rw [show (1 : Int) = ((1 : Nat) : Int) from rfl, bAnd_n h1, Nat.and_one_is_mod]
theorem pf_lI {a : Nat} (h : a < 2 ^ 63) : (lN a).toInt = (a : Int) := lg_ofNat_toInt h
theorem pf_shr {a d : Nat} {D : Int64} (hD : (D.toBitVec.smod 64).toNat = d) (h : a < 2 ^ 62) : lN a >>> D = lN (a / 2 ^ d) := by
  have hd : a / 2 ^ d ≤ a := Nat.div_le_self _ _
  apply Int64.toInt_inj.mp
  have e : (lN a >>> D).toInt = (lN a).toInt >>> d := by
    rw [← hD]
    exact BitVec.toInt_sshiftRight ..
  rw [e, Int.shiftRight_eq_div_pow, pf_lI (by omega), pf_lI (by omega)]
  rfl
