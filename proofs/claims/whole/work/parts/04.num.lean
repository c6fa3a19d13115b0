/-! numbers: Int over Int32, Int64 -/
def inI (x : Int) : Prop := -2147483648 ≤ x ∧ x < 2147483648
def inL (x : Int) : Prop := -9223372036854775808 ≤ x ∧ x < 9223372036854775808
abbrev i3 (x : Int) : Int32 := Int32.ofInt x
abbrev i6 (x : Int) : Int64 := Int64.ofInt x
theorem i3_to {x : Int} (h : inI x) : (i3 x).toInt = x := Int32.toInt_ofInt_of_le h.1 h.2
theorem i6_to {x : Int} (h : inL x) : (i6 x).toInt = x := Int64.toInt_ofInt_of_le h.1 h.2
theorem i3_of (x : Int32) : i3 x.toInt = x := Int32.ofInt_toInt x
theorem i6_of (x : Int64) : i6 x.toInt = x := Int64.ofInt_toInt x
theorem i3_in (x : Int32) : inI x.toInt := ⟨Int32.le_toInt x, Int32.toInt_lt x⟩
theorem i6_in (x : Int64) : inL x.toInt := ⟨Int64.le_toInt x, Int64.toInt_lt x⟩
theorem i3_add (x y : Int) : i3 x + i3 y = i3 (x + y) := (Int32.ofInt_add x y).symm
theorem i3_sub (x y : Int) : i3 x - i3 y = i3 (x - y) := (Int32.ofInt_sub x y).symm
theorem i3_mul (x y : Int) : i3 x * i3 y = i3 (x * y) := (Int32.ofInt_mul x y).symm
theorem i3_neg (x : Int) : - i3 x = i3 (-x) := (Int32.ofInt_neg x).symm
theorem i6_add (x y : Int) : i6 x + i6 y = i6 (x + y) := (Int64.ofInt_add x y).symm
theorem i6_sub (x y : Int) : i6 x - i6 y = i6 (x - y) := (Int64.ofInt_sub x y).symm
theorem i6_mul (x y : Int) : i6 x * i6 y = i6 (x * y) := (Int64.ofInt_mul x y).symm
theorem i3_eq {x y : Int} (hx : inI x) (hy : inI y) : i3 x = i3 y ↔ x = y := by
  rw [← Int32.toInt_inj, i3_to hx, i3_to hy]
theorem i3_lt {x y : Int} (hx : inI x) (hy : inI y) : i3 x < i3 y ↔ x < y := by
  rw [Int32.lt_iff_toInt_lt, i3_to hx, i3_to hy]
theorem i3_le {x y : Int} (hx : inI x) (hy : inI y) : i3 x ≤ i3 y ↔ x ≤ y := by
  rw [Int32.le_iff_toInt_le, i3_to hx, i3_to hy]
theorem i6_eq {x y : Int} (hx : inL x) (hy : inL y) : i6 x = i6 y ↔ x = y := by
  rw [← Int64.toInt_inj, i6_to hx, i6_to hy]
theorem i6_lt {x y : Int} (hx : inL x) (hy : inL y) : i6 x < i6 y ↔ x < y := by
  rw [Int64.lt_iff_toInt_lt, i6_to hx, i6_to hy]
theorem i6_le {x y : Int} (hx : inL x) (hy : inL y) : i6 x ≤ i6 y ↔ x ≤ y := by
  rw [Int64.le_iff_toInt_le, i6_to hx, i6_to hy]
theorem in0 : inI 0 := by unfold inI; omega
theorem i3_0 : i3 0 = 0 := rfl
theorem i3_nat {x : Int} (h : inI x) (h0 : 0 ≤ x) : (i3 x).toNatClampNeg = x.toNat := by
  show (i3 x).toInt.toNat = x.toNat
  rw [i3_to h]
theorem i3_vpin {x : Int} {n : Nat} (h : inI x) (h0 : 0 ≤ x) (hn : x < n) : vp_in (i3 x) n := by
  rw [vp_in_iff, i3_to h]
  omega
theorem i3_div {x y : Int} (hx : inI x) (hy : inI y) (h0 : 0 ≤ x) (h1 : 0 < y) : i3 x / i3 y = i3 (x / y) := by
  obtain ⟨a, rfl⟩ := Int.eq_ofNat_of_zero_le h0
  obtain ⟨b, rfl⟩ := Int.eq_ofNat_of_zero_le (Int.le_of_lt h1)
  have ha : a < 2 ^ 31 := by have := hx.2; omega
  have hb : b < 2 ^ 31 := by have := hy.2; omega
  have e := pk_div ha (by omega) hb
  have q : ∀ n : Nat, i3 (n : Int) = nI n := fun n => rfl
  rw [q, q, e, ← q, Int.natCast_ediv]
theorem i3_rem {x y : Int} (hx : inI x) (hy : inI y) (h0 : 0 ≤ x) (h1 : 0 < y) : i3 x - i3 x / i3 y * i3 y = i3 (x % y) := by
  rw [i3_div hx hy h0 h1, i3_mul, i3_sub]
  congr 1
  have := Int.emod_add_mul_ediv x y
  have := Int.mul_comm y (x / y)
  omega
theorem i6_div {x y : Int} (hx : inL x) (hy : inL y) (h0 : 0 ≤ x) (h1 : 0 < y) : i6 x / i6 y = i6 (x / y) := by
  obtain ⟨a, rfl⟩ := Int.eq_ofNat_of_zero_le h0
  obtain ⟨b, rfl⟩ := Int.eq_ofNat_of_zero_le (Int.le_of_lt h1)
  have ha : a < 2 ^ 63 := by have := hx.2; omega
  have hb : b < 2 ^ 63 := by have := hy.2; omega
  have e := pk_lDiv ha (by omega) hb
  have q : ∀ n : Nat, i6 (n : Int) = lN n := fun n => rfl
  rw [q, q, e, ← q, Int.natCast_ediv]
theorem i6_rem {x y : Int} (hx : inL x) (hy : inL y) (h0 : 0 ≤ x) (h1 : 0 < y) : i6 x - i6 x / i6 y * i6 y = i6 (x % y) := by
  rw [i6_div hx hy h0 h1, i6_mul, i6_sub]
  congr 1
  have := Int.emod_add_mul_ediv x y
  have := Int.mul_comm y (x / y)
  omega
/-! what the bits' instructions make, as Int -/
def bAnd (x y : Int) : Int := (i3 x &&& i3 y).toInt
def bOr (x y : Int) : Int := (i3 x ||| i3 y).toInt
def bXor (x y : Int) : Int := (i3 x ^^^ i3 y).toInt
def bShl (x y : Int) : Int := (i3 x <<< (i3 y &&& 31)).toInt
def bShr (x y : Int) : Int := (i3 x >>> (i3 y &&& 31)).toInt
def bUshr (x y : Int) : Int := ((i3 x).toUInt32 >>> ((i3 y).toUInt32 &&& Int32.toUInt32 31)).toInt32.toInt
def w3 (x : Int) : Int := (i3 x).toInt
def w6 (x : Int) : Int := (i6 x).toInt
def w8 (x : Int) : Int := (i3 x).toInt8.toInt32.toInt
def w16 (x : Int) : Int := (i3 x).toInt16.toInt32.toInt
def wc (x : Int) : Int := ((i3 x).toUInt32 % 65536).toInt32.toInt
def lAnd (x y : Int) : Int := (i6 x &&& i6 y).toInt
def lOr (x y : Int) : Int := (i6 x ||| i6 y).toInt
def lShl (x y : Int) : Int := (i6 x <<< ((i3 y).toInt64 &&& 63)).toInt
def lShr (x y : Int) : Int := (i6 x >>> ((i3 y).toInt64 &&& 63)).toInt
def cmp3 (x y : Int) : Int := if x > y then 1 else if x = y then 0 else -1
theorem w3_id {x : Int} (h : inI x) : w3 x = x := i3_to h
theorem w6_id {x : Int} (h : inL x) : w6 x = x := i6_to h
theorem cmp3_in (x y : Int) : inI (cmp3 x y) := by unfold cmp3 inI; split <;> (try split) <;> omega
theorem lg_cmp3 {x y : Int} (hx : inL x) (hy : inL y) : lg_cmp (i6 x) (i6 y) = i3 (cmp3 x y) := by
  unfold lg_cmp cmp3
  simp only [gt_iff_lt, i6_lt hy hx, i6_eq hx hy]
  by_cases h1 : y < x
  · rw [if_pos h1, if_pos h1]; rfl
  · rw [if_neg h1, if_neg h1]
    by_cases h2 : x = y
    · rw [if_pos h2, if_pos h2]; rfl
    · rw [if_neg h2, if_neg h2]; rfl
theorem i3_64 {x : Int} (h : inI x) : (i3 x).toInt64 = i6 x := by
  apply Int64.toInt_inj.mp
  rw [Int32.toInt_toInt64, i3_to h, i6_to ⟨by have := h.1; omega, by have := h.2; omega⟩]
theorem i6_32 {x : Int} (h : inL x) : (i6 x).toInt32 = i3 x := by
  apply Int32.toInt_inj.mp
  rw [Int64.toInt_toInt32, i6_to h, Int32.toInt_ofInt]
