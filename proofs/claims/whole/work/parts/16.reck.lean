/-! a law reckoned: values and kinds (true: a number, false: a truth) -/
def tst (c : Int) (t : List Bool) : Option (List Bool) :=
  if 0 ≤ c ∧ c < 1009 then some (true :: t)
  else if 3000 ≤ c ∧ c ≤ 3002 then (match t with
    | true :: true :: t => some (true :: t)
    | _ => none)
  else if 3003 ≤ c ∧ c ≤ 3005 then (match t with
    | true :: true :: t => some (false :: t)
    | _ => none)
  else if c = 3006 then (match t with
    | false :: t => some (false :: t)
    | _ => none)
  else if c = 3007 ∨ c = 3008 then (match t with
    | false :: false :: t => some (false :: t)
    | _ => none)
  else if c = 3009 then (match t with
    | true :: true :: false :: t => some (true :: t)
    | _ => none)
  else none
def tys (code : Nat → Int) : Nat → Option (List Bool)
  | 0 => some []
  | n + 1 => (tys code n).bind (tst (code n))
def stp (c : Int) (w : Int → Int) (s : List Int) : List Int :=
  if c < 3000 then (if c < 1000 then c else w (c - 1000)) :: s
  else if c = 3006 then (match s with
    | x :: s => (1 - x) :: s
    | [] => [])
  else if c = 3009 then (match s with
    | e :: t :: b :: s => (if b = 1 then t else e) :: s
    | s => s)
  else (match s with
    | b :: a :: s => bin c a b :: s
    | s => s)
def vals (code : Nat → Int) (w : Int → Int) : Nat → List Int
  | 0 => []
  | n + 1 => stp (code n) w (vals code w n)
/-- values of their kinds -/
def kd : List Bool → List Int → Prop
  | [], [] => True
  | true :: t, x :: s => numV x ∧ kd t s
  | false :: t, x :: s => (x = 0 ∨ x = 1) ∧ kd t s
  | _, _ => False
theorem bin_num {c a b : Int} (h : 3000 ≤ c ∧ c ≤ 3002) : numV (bin c a b) := by
  unfold bin
  rw [if_neg (by omega), if_neg (by omega), if_neg (by omega), if_neg (by omega), if_neg (by omega)]
  exact clM_num _
theorem bin_tr {c a b : Int} (h : 3003 ≤ c ∧ c ≤ 3008 ∧ c ≠ 3006) : bin c a b = 0 ∨ bin c a b = 1 := by
  unfold bin
  repeat' split
  all_goals first | omega | (right; rfl) | (left; rfl)
theorem kd_stp {c : Int} {w : Int → Int} {t t' : List Bool} {s : List Int} (hw : ∀ j : Int, 0 ≤ j → j < 9 → numV (w j)) (hk : kd t s) (ht : tst c t = some t') : kd t' (stp c w s) := by
  unfold tst at ht
  split at ht
  · next h =>
    cases ht
    unfold stp
    rw [if_pos (by omega)]
    refine ⟨?_, hk⟩
    split
    · exact ⟨by omega, by omega⟩
    · exact hw _ (by omega) (by omega)
  · split at ht
    · next h =>
      match t, s, hk, ht with
      | true :: true :: t, b :: a :: s, hk, ht =>
        cases ht
        unfold stp
        rw [if_neg (by omega), if_neg (by omega), if_neg (by omega)]
        exact ⟨bin_num h, hk.2.2⟩
    · split at ht
      · next h =>
        match t, s, hk, ht with
        | true :: true :: t, b :: a :: s, hk, ht =>
          cases ht
          unfold stp
          rw [if_neg (by omega), if_neg (by omega), if_neg (by omega)]
          exact ⟨bin_tr ⟨by omega, by omega, by omega⟩, hk.2.2⟩
      · split at ht
        · next h =>
          match t, s, hk, ht with
          | false :: t, x :: s, hk, ht =>
            cases ht
            unfold stp
            rw [if_neg (by omega), if_pos (by omega)]
            exact ⟨by have := hk.1; omega, hk.2⟩
        · split at ht
          · next h =>
            match t, s, hk, ht with
            | false :: false :: t, b :: a :: s, hk, ht =>
              cases ht
              unfold stp
              rw [if_neg (by omega), if_neg (by omega), if_neg (by omega)]
              exact ⟨bin_tr ⟨by omega, by omega, by omega⟩, hk.2.2⟩
          · split at ht
            · next h =>
              match t, s, hk, ht with
              | true :: true :: false :: t, e :: th :: b :: s, hk, ht =>
                cases ht
                unfold stp
                rw [if_neg (by omega), if_neg (by omega), if_pos (by omega)]
                refine ⟨?_, hk.2.2.2⟩
                split
                · exact hk.2.1
                · exact hk.1
            · cases ht
/-- a stack (its top first) in an array -/
def stkAt (M : AM) (z : Int) : List Int → Prop
  | [] => True
  | x :: s => M z (s.length : Int) = x ∧ stkAt M z s
theorem stk_up {M : AM} {z : Int} {v : Int} {j : Int} : ∀ (s : List Int), (s.length : Int) ≤ j → stkAt M z s → stkAt (up M z j v) z s
  | [], _, _ => trivial
  | x :: s, h, hs => by
    simp only [List.length_cons] at h
    exact ⟨by rw [up_ne2 (by omega)]; exact hs.1, stk_up s (by omega) hs.2⟩
theorem stk_to {M N : AM} {z : Int} (h : ∀ y, N z y = M z y) : ∀ (s : List Int), stkAt M z s → stkAt N z s
  | [], _ => trivial
  | x :: s, hs => ⟨by rw [h]; exact hs.1, stk_to h s hs.2⟩
theorem kd_len : ∀ (t : List Bool) (s : List Int), kd t s → s.length = t.length
  | [], [], _ => rfl
  | true :: t, x :: s, h => by simp only [List.length_cons]; rw [kd_len t s h.2]
  | false :: t, x :: s, h => by simp only [List.length_cons]; rw [kd_len t s h.2]
/-- a law's code: its kinds go through, its stack is small, one value is left -/
def WfL (code : Nat → Int) (n : Nat) (b : Bool) : Prop := (∀ k, k ≤ n → ∃ t, tys code k = some t ∧ t.length ≤ 100) ∧ tys code n = some [b]
theorem vals_kd {code : Nat → Int} {w : Int → Int} (hw : ∀ j : Int, 0 ≤ j → j < 9 → numV (w j)) : ∀ (n : Nat) (t : List Bool), tys code n = some t → kd t (vals code w n)
  | 0, t, h => by cases h; trivial
  | n + 1, t, h => by
    simp only [tys, Option.bind_eq_some_iff] at h
    obtain ⟨t0, h0, h1⟩ := h
    exact kd_stp hw (vals_kd hw n t0 h0) h1
