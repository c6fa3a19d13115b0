section PB
variable {kd : Nat → Nat} {vl : Nat → Int} {lw : Nat}
theorem go_end {a w b : Nat} : goK kd a (Rs.bad w a) b := goK.bad
theorem wrV_k {k x : Nat} (h : wrV lw k = some x) : x < 9 ∧ k ≠ 24 ∧ k ≠ 25 ∧ (6 ≤ x → lw = 0) := by
  unfold wrV at h
  split at h
  · cases h; omega
  · split at h
    · split at h
      · cases h; omega
      · cases h
    · cases h
theorem go_sgn {a x : Nat} {cs : List Int} {w : Nat} (h : x ≠ 24 ∧ x ≠ 25) : goK kd a (if kd a = x then Rs.good (a + 1) cs else Rs.bad w a) 0 := by
  split
  · next e => exact (goK.one (by omega) goK.here).le (by omega)
  · exact goK.bad
theorem pr_go : ∀ f m v k, m ≤ 9 → goK kd k (pr kd vl lw f m v k) (if m = 1 ∨ m = 3 ∨ m = 6 ∨ m = 8 then 0 else 1) := by
  intro f
  induction f with
  | zero => intro m v k hm; exact goK.bad
  | succ f ih =>
    intro m v k hm
    have one : ∀ m v k, m ≤ 9 → ¬ (m = 1 ∨ m = 3 ∨ m = 6 ∨ m = 8) → goK kd k (pr kd vl lw f m v k) 1 := fun m v k h1 h2 => by
      have := ih m v k h1
      rwa [if_neg h2] at this
    have zer : ∀ m v k, m ≤ 9 → goK kd k (pr kd vl lw f m v k) 0 := fun m v k h1 => (ih m v k h1).le (Nat.zero_le _)
    have two : ∀ (m m' v k : Nat) (g : List Int → List Int → List Int), m ≤ 9 → m' ≤ 9 → ¬ (m = 1 ∨ m = 3 ∨ m = 6 ∨ m = 8) → goK kd k ((pr kd vl lw f m v k).bd fun k1 c1 => (pr kd vl lw f m' v k1).bd fun k2 c2 => Rs.good k2 (g c1 c2)) 1 := fun m m' v k g h1 h2 h3 => (one m v k h1 h3).bd (c := 0) (fun k1 c1 _ => (zer m' v k1 h2).bd (c := 0) (fun k2 c2 _ => goK.here))
    rcases (show m = 0 ∨ m = 1 ∨ m = 2 ∨ m = 3 ∨ m = 4 ∨ m = 5 ∨ m = 6 ∨ m = 7 ∨ m = 8 ∨ m = 9 by omega) with rfl | rfl | rfl | rfl | rfl | rfl | rfl | rfl | rfl | rfl
    · exact two 2 1 v k (fun c1 c2 => c1 ++ c2) (by omega) (by omega) (by omega)
    · show goK kd k _ 0
      simp only [pr]
      split
      · next h => exact (goK.one (by omega) (two 2 1 v (k + 1) (fun c1 c2 => c1 ++ (if kd k = 32 then 3000 else 3001) :: c2) (by omega) (by omega) (by omega))).le (by omega)
      · exact goK.here
    · exact two 4 3 v k (fun c1 c2 => c1 ++ c2) (by omega) (by omega) (by omega)
    · show goK kd k _ 0
      simp only [pr]
      split
      · next h => exact (goK.one (by omega) (two 4 3 v (k + 1) (fun c1 c2 => c1 ++ 3002 :: c2) (by omega) (by omega) (by omega))).le (by omega)
      · exact goK.here
    · show goK kd k _ 1
      simp only [pr]
      split
      · next h => exact goK.one (by omega) goK.here
      · split
        · next x hx => exact goK.one ⟨(wrV_k hx).2.1, (wrV_k hx).2.2.1⟩ goK.here
        · split
          · next h =>
            split
            · exact goK.bad
            · exact goK.one (b := 0) (by omega) ((zer 0 (v + 1) (k + 1) (by omega)).bd (c := 0) (fun k1 c1 _ => go_sgn (by omega)))
          · split
            · next h =>
              split
              · exact goK.bad
              · refine goK.one (b := 0) (by omega) ((zer 5 (v + 1) (k + 1) (by omega)).bd (c := 0) (fun k1 c1 _ => ?_))
                split
                · next h1 =>
                  refine (goK.one (b := 0) (by omega) ((zer 0 (v + 1) (k1 + 1) (by omega)).bd (c := 0) (fun k2 c2 _ => ?_))).le (by omega)
                  split
                  · next h2 => exact (goK.one (b := 0) (by omega) ((zer 0 (v + 1) (k2 + 1) (by omega)).bd (c := 0) (fun k3 c3 _ => go_sgn (by omega)))).le (by omega)
                  · exact goK.bad
                · exact goK.bad
            · exact goK.bad
    · exact two 7 6 v k (fun c1 c2 => c1 ++ c2) (by omega) (by omega) (by omega)
    · show goK kd k _ 0
      simp only [pr]
      split
      · next h => exact (goK.one (by omega) (two 7 6 v (k + 1) (fun c1 c2 => c1 ++ 3008 :: c2) (by omega) (by omega) (by omega))).le (by omega)
      · exact goK.here
    · exact two 9 8 v k (fun c1 c2 => c1 ++ c2) (by omega) (by omega) (by omega)
    · show goK kd k _ 0
      simp only [pr]
      split
      · next h => exact (goK.one (by omega) (two 9 8 v (k + 1) (fun c1 c2 => c1 ++ 3007 :: c2) (by omega) (by omega) (by omega))).le (by omega)
      · exact goK.here
    · show goK kd k _ 1
      simp only [pr]
      split
      · next h =>
        split
        · exact goK.bad
        · exact goK.one (b := 0) (by omega) ((zer 9 (v + 1) (k + 1) (by omega)).bd (c := 0) (fun k1 c1 _ => goK.here))
      · split
        · next h =>
          split
          · exact goK.bad
          · exact goK.one (b := 0) (by omega) ((zer 5 (v + 1) (k + 1) (by omega)).bd (c := 0) (fun k1 c1 _ => go_sgn (by omega)))
        · refine (one 0 v k (by omega) (by omega)).bd (c := 0) (fun k1 c1 _ => ?_)
          split
          · next h => exact (goK.one (b := 0) (by omega) ((zer 0 v (k1 + 1) (by omega)).bd (c := 0) (fun k2 c2 _ => goK.here))).le (by omega)
          · exact goK.bad
end PB
