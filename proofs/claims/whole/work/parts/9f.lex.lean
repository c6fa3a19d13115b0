section LX
/-- the letters of the text: -1 behind its end -/
def ltr (t : Nat → Nat) (n i : Nat) : Int := if i < n then (t i : Int) else -1
def bnk (c : Int) : Bool := decide (c = 10 ∨ c = 32)
def sml (c : Int) : Bool := decide (97 ≤ c ∧ c ≤ 122)
def dgt (c : Int) : Bool := decide (48 ≤ c ∧ c ≤ 57)
def rnF (p : Int → Bool) (u : Nat → Int) : Nat → Nat → Nat
  | 0, i => i
  | f + 1, i => if p (u i) = true then rnF p u f (i + 1) else i
def rn (p : Int → Bool) (t : Nat → Nat) (n i : Nat) : Nat := rnF p (ltr t n) (n - i) i
variable {p : Int → Bool} {t : Nat → Nat} {n i j : Nat}
theorem ltr_in (h : i < n) : ltr t n i = t i := if_pos h
theorem ltr_out (h : n ≤ i) : ltr t n i = -1 := if_neg (by omega)
theorem rn_yes (h0 : p (-1) = false) (h : p (ltr t n i) = true) : i < n ∧ rn p t n i = rn p t n (i + 1) := by
  have hi : i < n := by
    apply Classical.byContradiction
    intro q
    rw [ltr_out (by omega), h0] at h
    cases h
  refine ⟨hi, ?_⟩
  unfold rn
  rw [show n - i = (n - (i + 1)) + 1 by omega]
  simp only [rnF]
  rw [if_pos h]
theorem rn_no (h : p (ltr t n i) = false) : rn p t n i = i := by
  unfold rn
  rcases hf : n - i with _ | f
  · rfl
  · simp only [rnF]
    rw [h, if_neg (by decide)]
theorem rnF_ge {u : Nat → Int} : ∀ f i, i ≤ rnF p u f i ∧ rnF p u f i ≤ i + f
  | 0, i => ⟨Nat.le_refl _, Nat.le_refl _⟩
  | f + 1, i => by
    simp only [rnF]
    split
    · have := rnF_ge (u := u) f (i + 1)
      omega
    · omega
theorem rn_ge : i ≤ rn p t n i := (rnF_ge _ _).1
theorem rn_le (h : i ≤ n) : rn p t n i ≤ n := by
  have := (rnF_ge (p := p) (u := ltr t n) (n - i) i).2
  unfold rn
  omega
theorem rn_st (h0 : p (-1) = false) : ∀ m i, n - i = m → p (ltr t n (rn p t n i)) = false
  | m, i, hm => by
    cases q : p (ltr t n i) with
    | false => rw [rn_no q]; exact q
    | true =>
      obtain ⟨h1, h2⟩ := rn_yes h0 q
      rw [h2]
      cases m with
      | zero => omega
      | succ m => exact rn_st h0 m (i + 1) (by omega)
theorem rn_mid (h0 : p (-1) = false) : ∀ m i j, n - i = m → i ≤ j → j < rn p t n i → p (ltr t n j) = true
  | m, i, j, hm, h1, h2 => by
    cases q : p (ltr t n i) with
    | false => rw [rn_no q] at h2; omega
    | true =>
      obtain ⟨h3, h4⟩ := rn_yes h0 q
      by_cases e : j = i
      · rw [e]; exact q
      · rw [h4] at h2
        cases m with
        | zero => omega
        | succ m => exact rn_mid h0 m (i + 1) j (by omega) (by omega) h2
/-- where a token ends that begins at i -/
def tEnd (t : Nat → Nat) (n i : Nat) : Nat := if sml (ltr t n i) = true then rn sml t n i else if dgt (ltr t n i) = true then rn dgt t n i else i + 1
def sgL : List Int := [59, 58, 43, 45, 42, 40, 41, 91, 93, 61, 60, 62]
/-- the words, in the model's order and in the class's -/
def MW : List (List Int) := [[104, 97, 108, 108], [109, 117, 115, 116], [112, 101, 114, 115, 111, 110], [115, 105, 100, 101], [115, 116, 114, 101, 110, 103, 116, 104], [119, 101, 105, 103, 104, 116], [114, 111, 100], [99, 111, 108, 100], [116, 105, 114, 101, 115], [99, 111, 117, 110, 116, 115], [105, 102], [116, 104, 101, 110], [101, 108, 115, 101], [101, 110, 100], [104, 101, 108, 100], [109, 97, 116, 101, 115], [111, 116, 104, 101, 114, 115], [97, 110, 100], [111, 114], [110, 111, 116]]
def ckW (k : Nat) : Nat := if k = 0 then 9 else if k = 1 then 10 else if k ≤ 7 then k - 2 else if k ≤ 13 then k + 3 else if k ≤ 16 then k - 8 else k
def CWd : List (List Int) := [[112, 101, 114, 115, 111, 110], [115, 105, 100, 101], [115, 116, 114, 101, 110, 103, 116, 104], [119, 101, 105, 103, 104, 116], [114, 111, 100], [99, 111, 108, 100], [104, 101, 108, 100], [109, 97, 116, 101, 115], [111, 116, 104, 101, 114, 115], [104, 97, 108, 108], [109, 117, 115, 116], [116, 105, 114, 101, 115], [99, 111, 117, 110, 116, 115], [105, 102], [116, 104, 101, 110], [101, 108, 115, 101], [101, 110, 100], [97, 110, 100], [111, 114], [110, 111, 116]]
def fltW : List (List Int) → List Int
  | [] => []
  | w :: ws => w ++ 32 :: fltW ws
theorem txt2_eq : rtxt2 = 32 :: fltW MW := by decide +kernel
theorem txt0_eq : rtxt0 = fltW CWd := by decide +kernel
theorem txt3_eq : rtxt3 = sgL := by decide +kernel
theorem txt1_eq : rtxt1 = sgL := by decide +kernel
theorem MW_let : ∀ w, w ∈ MW → ∀ c, c ∈ w → c ≠ 32 ∧ 97 ≤ c ∧ c ≤ 122 := by decide +kernel
theorem CW_let : ∀ w, w ∈ CWd → ∀ c, c ∈ w → c ≠ 32 ∧ 97 ≤ c ∧ c ≤ 122 := by decide +kernel
/-- a word's number -/
def wdM (w : List Int) : Nat := if w ∈ MW then MW.idxOf w else 22
def wdC (w : List Int) : Nat := if w ∈ CWd then CWd.idxOf w else 20
/-- the kinds of the model, as the class's tokens -/
def ck (k : Nat) : Nat := if k ≤ 19 then ckW k else if k ≤ 25 then k - 2 else 100 + (sgL.getD (k - 30) 0).toNat
theorem wd_ck (w : List Int) : wdC w = ck (wdM w) := by
  by_cases h : w ∈ MW
  · have key : ∀ w, w ∈ MW → wdC w = ck (wdM w) := by decide +kernel
    exact key w h
  · have key : ∀ w, w ∈ CWd → w ∈ MW := by decide +kernel
    unfold wdC wdM
    rw [if_neg (fun q => h (key w q)), if_neg h]
    rfl
def slc (t : Nat → Nat) (i j : Nat) : List Int := (List.range (j - i)).map (fun k => (t (i + k) : Int))
def vlu (t : Nat → Nat) (i : Nat) : Nat → Int
  | 0 => 0
  | k + 1 => 10 * vlu t i k + (t (i + k) : Int) - 48
def kin (t : Nat → Nat) (n i : Nat) : Nat := if n ≤ i then 24 else if sml (ltr t n i) = true then wdM (slc t i (tEnd t n i)) else if dgt (ltr t n i) = true then (if tEnd t n i - i ≤ 3 then 23 else 25) else if ltr t n i ∈ sgL then 30 + sgL.idxOf (ltr t n i) else 25
/-- the tokens' places, one after another -/
def pls (t : Nat → Nat) (n : Nat) : Nat → Nat
  | 0 => rn bnk t n 0
  | k + 1 => rn bnk t n (tEnd t n (pls t n k))
theorem tEnd_gt : i < tEnd t n i := by
  unfold tEnd
  split
  · next h =>
    rw [(rn_yes (by decide) h).2]
    exact rn_ge (i := i + 1)
  · split
    · next h =>
      rw [(rn_yes (by decide) h).2]
      exact rn_ge (i := i + 1)
    · omega
theorem tEnd_le (h : i < n) : tEnd t n i ≤ n := by
  unfold tEnd
  split
  · exact rn_le (by omega)
  · split
    · exact rn_le (by omega)
    · omega
theorem pls_ge : ∀ k, k ≤ pls t n k
  | 0 => Nat.zero_le _
  | k + 1 => by
    have h1 := pls_ge k
    have h2 := tEnd_gt (t := t) (n := n) (i := pls t n k)
    have h3 := rn_ge (p := bnk) (t := t) (n := n) (i := tEnd t n (pls t n k))
    simp only [pls]
    omega
theorem slc_len : (slc t i j).length = j - i := by simp [slc]
theorem slc_get {k : Nat} (h : k < j - i) : (slc t i j)[k]? = some (t (i + k) : Int) := by
  simp [slc, h]
/-- a word of a text, letter by letter -/
theorem drop_lt {a w r : List Int} {c q : Nat} (h : a.drop c = w ++ 32 :: r) (hq : q < w.length) : a.getD (c + q) 0 = w.getD q 0 ∧ c + q < a.length := by
  have e : a[c + q]? = (a.drop c)[q]? := by rw [List.getElem?_drop]
  rw [h, List.getElem?_append_left hq, List.getElem?_eq_getElem hq] at e
  refine ⟨?_, (List.getElem?_eq_some_iff.mp e).1⟩
  rw [List.getD_eq_getElem?_getD, e, List.getD_eq_getElem?_getD, List.getElem?_eq_getElem hq]
theorem drop_sp {a w r : List Int} {c : Nat} (h : a.drop c = w ++ 32 :: r) : a.getD (c + w.length) 0 = 32 ∧ c + w.length < a.length ∧ a.drop (c + w.length + 1) = r := by
  have e : a[c + w.length]? = (a.drop c)[w.length]? := by rw [List.getElem?_drop]
  rw [h, List.getElem?_append_right (Nat.le_refl _), Nat.sub_self, List.getElem?_cons_zero] at e
  refine ⟨by rw [List.getD_eq_getElem?_getD, e]; rfl, (List.getElem?_eq_some_iff.mp e).1, ?_⟩
  rw [show c + w.length + 1 = c + (w.length + 1) by omega, ← List.drop_drop, h, ← List.drop_drop, List.drop_left]
  rfl
theorem word_eq {w : List Int} (h1 : w.length = j - i) (h2 : ∀ q, q < w.length → w.getD q 0 = (t (i + q) : Int)) : w = slc t i j := by
  apply List.ext_getElem?
  intro q
  by_cases hq : q < w.length
  · rw [slc_get (by omega), List.getElem?_eq_getElem hq]
    have := h2 q hq
    rw [List.getD_eq_getElem?_getD, List.getElem?_eq_getElem hq] at this
    exact congrArg some this
  · rw [List.getElem?_eq_none (by omega), List.getElem?_eq_none (by rw [slc_len]; omega)]
theorem word_ne {w : List Int} (h : w = slc t i j) : w.length = j - i ∧ ∀ q, q < w.length → w.getD q 0 = (t (i + q) : Int) := by
  subst h
  refine ⟨slc_len, fun q hq => ?_⟩
  rw [slc_len] at hq
  rw [List.getD_eq_getElem?_getD, slc_get hq]
  rfl
end LX
