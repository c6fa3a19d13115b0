section PA
/-- what reading brings: a fault of a kind at a token, or codes and the next token -/
def Rs : Type := Sum (Nat × Nat) (Nat × List Int)
def Rs.bad (w k : Nat) : Rs := Sum.inl (w, k)
def Rs.good (k : Nat) (cs : List Int) : Rs := Sum.inr (k, cs)
def Rs.bd (r : Rs) (f : Nat → List Int → Rs) : Rs :=
  match r with
  | Sum.inl x => Sum.inl x
  | Sum.inr x => f x.1 x.2
/-- a word that stands for a number -/
def wrV (lw k : Nat) : Option Nat := if 2 ≤ k ∧ k ≤ 7 then some (k - 2) else if 14 ≤ k ∧ k ≤ 16 then (if lw = 0 then some (k - 8) else none) else none
def pr (kd : Nat → Nat) (vl : Nat → Int) (lw : Nat) : Nat → Nat → Nat → Nat → Rs
  | 0, _, _, k => Rs.bad 0 k
  | f + 1, 0, v, k => (pr kd vl lw f 2 v k).bd fun k1 c1 => (pr kd vl lw f 1 v k1).bd fun k2 c2 => Rs.good k2 (c1 ++ c2)
  | f + 1, 1, v, k => if kd k = 32 ∨ kd k = 33 then (pr kd vl lw f 2 v (k + 1)).bd fun k1 c1 => (pr kd vl lw f 1 v k1).bd fun k2 c2 => Rs.good k2 (c1 ++ (if kd k = 32 then 3000 else 3001) :: c2) else Rs.good k []
  | f + 1, 2, v, k => (pr kd vl lw f 4 v k).bd fun k1 c1 => (pr kd vl lw f 3 v k1).bd fun k2 c2 => Rs.good k2 (c1 ++ c2)
  | f + 1, 3, v, k => if kd k = 34 then (pr kd vl lw f 4 v (k + 1)).bd fun k1 c1 => (pr kd vl lw f 3 v k1).bd fun k2 c2 => Rs.good k2 (c1 ++ 3002 :: c2) else Rs.good k []
  | f + 1, 4, v, k =>
    if kd k = 23 then Rs.good (k + 1) [vl k]
    else match wrV lw (kd k) with
      | some x => Rs.good (k + 1) [1000 + (x : Int)]
      | none =>
        if kd k = 35 then (if v = 6 then Rs.bad 4 k else (pr kd vl lw f 0 (v + 1) (k + 1)).bd fun k1 c1 => if kd k1 = 36 then Rs.good (k1 + 1) c1 else Rs.bad 2 k1)
        else if kd k = 10 then (if v = 6 then Rs.bad 4 k else (pr kd vl lw f 5 (v + 1) (k + 1)).bd fun k1 c1 => if kd k1 = 11 then ((pr kd vl lw f 0 (v + 1) (k1 + 1)).bd fun k2 c2 => if kd k2 = 12 then ((pr kd vl lw f 0 (v + 1) (k2 + 1)).bd fun k3 c3 => if kd k3 = 13 then Rs.good (k3 + 1) (c1 ++ (c2 ++ (c3 ++ [3009]))) else Rs.bad 2 k3) else Rs.bad 2 k2) else Rs.bad 2 k1)
        else Rs.bad 2 k
  | f + 1, 5, v, k => (pr kd vl lw f 7 v k).bd fun k1 c1 => (pr kd vl lw f 6 v k1).bd fun k2 c2 => Rs.good k2 (c1 ++ c2)
  | f + 1, 6, v, k => if kd k = 18 then (pr kd vl lw f 7 v (k + 1)).bd fun k1 c1 => (pr kd vl lw f 6 v k1).bd fun k2 c2 => Rs.good k2 (c1 ++ 3008 :: c2) else Rs.good k []
  | f + 1, 7, v, k => (pr kd vl lw f 9 v k).bd fun k1 c1 => (pr kd vl lw f 8 v k1).bd fun k2 c2 => Rs.good k2 (c1 ++ c2)
  | f + 1, 8, v, k => if kd k = 17 then (pr kd vl lw f 9 v (k + 1)).bd fun k1 c1 => (pr kd vl lw f 8 v k1).bd fun k2 c2 => Rs.good k2 (c1 ++ 3007 :: c2) else Rs.good k []
  | f + 1, _ + 9, v, k =>
    if kd k = 19 then (if v = 6 then Rs.bad 4 k else (pr kd vl lw f 9 (v + 1) (k + 1)).bd fun k1 c1 => Rs.good k1 (c1 ++ [3006]))
    else if kd k = 37 then (if v = 6 then Rs.bad 4 k else (pr kd vl lw f 5 (v + 1) (k + 1)).bd fun k1 c1 => if kd k1 = 38 then Rs.good (k1 + 1) c1 else Rs.bad 2 k1)
    else (pr kd vl lw f 0 v k).bd fun k1 c1 => if kd k1 = 39 ∨ kd k1 = 40 ∨ kd k1 = 41 then ((pr kd vl lw f 0 v (k1 + 1)).bd fun k2 c2 => Rs.good k2 (c1 ++ (c2 ++ [if kd k1 = 39 then 3003 else if kd k1 = 40 then 3004 else 3005]))) else Rs.bad 2 k1
/-- reading goes on to a token, past none that ends the text -/
def goK (kd : Nat → Nat) (a : Nat) (r : Rs) (b : Nat) : Prop :=
  match r with
  | Sum.inl (_, k) => a ≤ k ∧ ∀ j, a ≤ j → j < k → kd j ≠ 24 ∧ kd j ≠ 25
  | Sum.inr (k, _) => a + b ≤ k ∧ ∀ j, a ≤ j → j < k → kd j ≠ 24 ∧ kd j ≠ 25
variable {kd : Nat → Nat} {vl : Nat → Int} {lw : Nat}
theorem goK.bd {a b c : Nat} {r : Rs} {f : Nat → List Int → Rs} (h : goK kd a r b) (hf : ∀ k cs, r = Rs.good k cs → goK kd k (f k cs) c) : goK kd a (r.bd f) (b + c) := by
  cases r with
  | inl x => exact h
  | inr x =>
    obtain ⟨k, cs⟩ := x
    have h2 := hf k cs rfl
    show goK kd a (f k cs) (b + c)
    unfold goK at h h2 ⊢
    cases hr : f k cs with
    | inl x' =>
      obtain ⟨w, k'⟩ := x'
      rw [hr] at h2
      refine ⟨by have := h.1; have := h2.1; simp only at *; omega, fun j h3 h4 => ?_⟩
      by_cases q : j < k
      · exact h.2 j h3 q
      · exact h2.2 j (by omega) h4
    | inr x' =>
      obtain ⟨k', cs'⟩ := x'
      rw [hr] at h2
      refine ⟨by have := h.1; have := h2.1; simp only at *; omega, fun j h3 h4 => ?_⟩
      by_cases q : j < k
      · exact h.2 j h3 q
      · exact h2.2 j (by omega) h4
theorem goK.one {a b : Nat} {r : Rs} (h : kd a ≠ 24 ∧ kd a ≠ 25) (hr : goK kd (a + 1) r b) : goK kd a r (b + 1) := by
  cases r with
  | inl x =>
    obtain ⟨w, k⟩ := x
    obtain ⟨h1, h2⟩ := hr
    refine ⟨by omega, fun j h3 h4 => ?_⟩
    by_cases q : j = a
    · rw [q]; exact h
    · exact h2 j (by omega) h4
  | inr x =>
    obtain ⟨k, cs⟩ := x
    obtain ⟨h1, h2⟩ := hr
    refine ⟨by omega, fun j h3 h4 => ?_⟩
    by_cases q : j = a
    · rw [q]; exact h
    · exact h2 j (by omega) h4
theorem goK.le {a b c : Nat} {r : Rs} (h : goK kd a r b) (hc : c ≤ b) : goK kd a r c := by
  cases r with
  | inl x => exact h
  | inr x =>
    obtain ⟨k, cs⟩ := x
    obtain ⟨h1, h2⟩ := h
    exact ⟨by omega, h2⟩
theorem goK.bad {a w : Nat} {b : Nat} : goK kd a (Rs.bad w a) b := ⟨Nat.le_refl _, fun j h1 h2 => absurd h2 (by omega)⟩
theorem goK.here {a : Nat} {cs : List Int} : goK kd a (Rs.good a cs) 0 := ⟨Nat.le_refl _, fun j h1 h2 => absurd h2 (by omega)⟩
end PA
