section RA
variable {t : Nat → Nat} {n lw : Nat}
theorem okR.mk {r : Rs} {g : Nat → List Int → Rs} (h : okR r) (hg : ∀ k1 c1, r = Rs.good k1 c1 → okR (g k1 c1)) : okR (r.bd g) := by
  rcases rs_cases r with ⟨w, k, rfl⟩ | ⟨k, cs, rfl⟩
  · exact h
  · exact hg k cs rfl
theorem okR.gd {k : Nat} {cs : List Int} : okR (Rs.good k cs) := fun j h => by cases h
theorem okR.bdd {k w : Nat} (h : w ≠ 0) : okR (Rs.bad w k) := fun j e => by
  unfold Rs.bad at e
  cases e
  exact h rfl
def rk (m : Nat) : Nat := if m = 0 then 3 else if m = 2 then 2 else if m = 5 then 6 else if m = 7 then 5 else if m = 9 then 4 else 1
/-- enough fuel -/
theorem PR_fu {N : Nat} (hN : kin t n (pls t n (N)) = 24 ∨ kin t n (pls t n (N)) = 25) : ∀ f m v k, m ≤ 9 → k ≤ N → 10 * (N - k) + rk m ≤ f → okR (PR t n lw f m v k) := by
  intro f
  induction f with
  | zero =>
    intro m v k hm hk hf
    unfold rk at hf
    repeat' split at hf
    all_goals omega
  | succ f ih =>
    have go : ∀ {m v k k' : Nat} {cs : List Int}, m ≤ 9 → k ≤ N → PR t n lw f m v k = Rs.good k' cs → k' ≤ N ∧ k ≤ k' ∧ (¬ (m = 1 ∨ m = 3 ∨ m = 6 ∨ m = 8) → k < k') := by
      intro m v k k' cs hm hk h
      obtain ⟨h1, h2, h3⟩ := PR_go hm h
      refine ⟨?_, h1, h2⟩
      apply Classical.byContradiction
      intro q
      have := h3 N (by omega) (by omega)
      omega
    have nx : ∀ {k x : Nat}, k ≤ N → kin t n (pls t n (k)) = x → x ≠ 24 → x ≠ 25 → k + 1 ≤ N := by
      intro k x hk e h1 h2
      rcases Nat.lt_or_ge k N with q | q
      · omega
      · have e' : k = N := by omega
        rw [e'] at e
        omega
    intro m v k hm hk hf
    have two : ∀ (m m' v k : Nat), m ≤ 9 → m' ≤ 9 → k ≤ N → ¬ (m = 1 ∨ m = 3 ∨ m = 6 ∨ m = 8) → rk m' ≤ 1 → 10 * (N - k) + rk m ≤ f → ∀ (g : List Int → List Int → List Int), okR ((PR t n lw f m v k).bd fun k1 c1 => (PR t n lw f m' v k1).bd fun k2 c2 => Rs.good k2 (g c1 c2)) := by
      intro m m' v k h1 h2 h3 h4 h5 h6 g
      refine (ih m v k h1 h3 h6).mk fun k1 c1 e1 => ?_
      have a := go h1 h3 e1
      have b := a.2.2 h4
      exact (ih m' v k1 h2 a.1 (by omega)).mk fun k2 c2 e2 => okR.gd
    have cl : ∀ (m v k x : Nat), m ≤ 9 → k ≤ N → 10 * (N - k) + rk m ≤ f → okR ((PR t n lw f m v k).bd fun k1 c1 => if kin t n (pls t n (k1)) = x then Rs.good (k1 + 1) c1 else Rs.bad 2 k1) := by
      intro m v k x h1 h2 h3
      refine (ih m v k h1 h2 h3).mk fun k1 c1 e1 => ?_
      split
      · exact okR.gd
      · exact okR.bdd (by omega)
    have r0 : rk 0 = 3 := rfl
    have r1 : rk 1 = 1 := rfl
    have r2 : rk 2 = 2 := rfl
    have r3 : rk 3 = 1 := rfl
    have r4 : rk 4 = 1 := rfl
    have r5 : rk 5 = 6 := rfl
    have r6 : rk 6 = 1 := rfl
    have r7 : rk 7 = 5 := rfl
    have r8 : rk 8 = 1 := rfl
    have r9 : rk 9 = 4 := rfl
    rcases (show m = 0 ∨ m = 1 ∨ m = 2 ∨ m = 3 ∨ m = 4 ∨ m = 5 ∨ m = 6 ∨ m = 7 ∨ m = 8 ∨ m = 9 by omega) with rfl | rfl | rfl | rfl | rfl | rfl | rfl | rfl | rfl | rfl
    · rw [PR_0]
      exact two 2 1 v k (by omega) (by omega) hk (by omega) (by omega) (by omega) _
    · rw [PR_1]
      split
      · next q =>
        have : k + 1 ≤ N := by
          rcases q with q | q
          · exact nx hk q (by omega) (by omega)
          · exact nx hk q (by omega) (by omega)
        exact two 2 1 v (k + 1) (by omega) (by omega) this (by omega) (by omega) (by omega) _
      · exact okR.gd
    · rw [PR_2]
      exact two 4 3 v k (by omega) (by omega) hk (by omega) (by omega) (by omega) _
    · rw [PR_3]
      split
      · next q =>
        have := nx hk q (by omega) (by omega)
        exact two 4 3 v (k + 1) (by omega) (by omega) this (by omega) (by omega) (by omega) _
      · exact okR.gd
    · by_cases q : kin t n (pls t n (k)) = 23
      · rw [PR_4n q]; exact okR.gd
      · cases hw : wrV lw (kin t n (pls t n (k))) with
        | some x => rw [PR_4w q hw]; exact okR.gd
        | none =>
          rw [PR_4o q hw]
          split
          · next q =>
            have := nx hk q (by omega) (by omega)
            split
            · exact okR.bdd (by omega)
            · exact cl 0 (v + 1) (k + 1) 36 (by omega) this (by omega)
          · split
            · next q =>
              have hk1 := nx hk q (by omega) (by omega)
              split
              · exact okR.bdd (by omega)
              · unfold PRi
                refine (ih 5 (v + 1) (k + 1) (by omega) hk1 (by omega)).mk fun k1 c1 e1 => ?_
                have a1 := go (by omega) hk1 e1
                split
                · next q1 =>
                  have hk2 := nx a1.1 q1 (by omega) (by omega)
                  refine (ih 0 (v + 1) (k1 + 1) (by omega) hk2 (by omega)).mk fun k2 c2 e2 => ?_
                  have a2 := go (by omega) hk2 e2
                  split
                  · next q2 =>
                    have hk3 := nx a2.1 q2 (by omega) (by omega)
                    refine (ih 0 (v + 1) (k2 + 1) (by omega) hk3 (by omega)).mk fun k3 c3 e3 => ?_
                    split
                    · exact okR.gd
                    · exact okR.bdd (by omega)
                  · exact okR.bdd (by omega)
                · exact okR.bdd (by omega)
            · exact okR.bdd (by omega)
    · rw [PR_5]
      exact two 7 6 v k (by omega) (by omega) hk (by omega) (by omega) (by omega) _
    · rw [PR_6]
      split
      · next q =>
        have := nx hk q (by omega) (by omega)
        exact two 7 6 v (k + 1) (by omega) (by omega) this (by omega) (by omega) (by omega) _
      · exact okR.gd
    · rw [PR_7]
      exact two 9 8 v k (by omega) (by omega) hk (by omega) (by omega) (by omega) _
    · rw [PR_8]
      split
      · next q =>
        have := nx hk q (by omega) (by omega)
        exact two 9 8 v (k + 1) (by omega) (by omega) this (by omega) (by omega) (by omega) _
      · exact okR.gd
    · rw [PR_9]
      split
      · next q =>
        have hk1 := nx hk q (by omega) (by omega)
        split
        · exact okR.bdd (by omega)
        · exact (ih 9 (v + 1) (k + 1) (by omega) hk1 (by omega)).mk fun k1 c1 e1 => okR.gd
      · split
        · next q =>
          have hk1 := nx hk q (by omega) (by omega)
          split
          · exact okR.bdd (by omega)
          · exact cl 5 (v + 1) (k + 1) 38 (by omega) hk1 (by omega)
        · unfold PRc
          refine (ih 0 v k (by omega) hk (by omega)).mk fun k1 c1 e1 => ?_
          have a1 := go (by omega) hk e1
          split
          · next q1 =>
            have hk2 : k1 + 1 ≤ N := by
              rcases q1 with q1 | q1 | q1
              · exact nx a1.1 q1 (by omega) (by omega)
              · exact nx a1.1 q1 (by omega) (by omega)
              · exact nx a1.1 q1 (by omega) (by omega)
            exact (ih 0 v (k1 + 1) (by omega) hk2 (by omega)).mk fun k2 c2 e2 => okR.gd
          · exact okR.bdd (by omega)
/-! kinds of what is read -/
def tyB (b : Nat) : List Int → List Bool → List Bool → Prop
  | [], s, r => s = r ∧ s.length ≤ b
  | c :: cs, s, r => s.length ≤ b ∧ ∃ s', tst c s = some s' ∧ tyB b cs s' r
theorem tyB.app {b : Nat} : ∀ {cs cs' : List Int} {s r q : List Bool}, tyB b cs s r → tyB b cs' r q → tyB b (cs ++ cs') s q
  | [], cs', s, r, q, h, h' => by obtain ⟨rfl, _⟩ := h; exact h'
  | c :: cs, cs', s, r, q, h, h' => by
    obtain ⟨h1, s', h2, h3⟩ := h
    exact ⟨h1, s', h2, tyB.app h3 h'⟩
theorem tyB.up {b b' : Nat} (hb : b ≤ b') : ∀ {cs : List Int} {s r : List Bool}, tyB b cs s r → tyB b' cs s r
  | [], s, r, h => ⟨h.1, by have := h.2; omega⟩
  | c :: cs, s, r, h => by
    obtain ⟨h1, s', h2, h3⟩ := h
    exact ⟨by omega, s', h2, tyB.up hb h3⟩
theorem tyB.one {b : Nat} {c : Int} {s r : List Bool} (h : tst c s = some r) (h1 : s.length ≤ b) (h2 : r.length ≤ b) : tyB b [c] s r := ⟨h1, r, h, rfl, h2⟩
theorem tyB.to {b : Nat} {code : Nat → Int} : ∀ {cs : List Int} {s r : List Bool} {j : Nat}, tyB b cs s r → tys code j = some s → (∀ i, i < cs.length → code (j + i) = cs.getD i 0) → (∀ i, i ≤ cs.length → ∃ q, tys code (j + i) = some q ∧ q.length ≤ b) ∧ tys code (j + cs.length) = some r
  | [], s, r, j, h, hj, hc => by
    obtain ⟨rfl, h2⟩ := h
    exact ⟨fun i hi => ⟨s, by rw [show i = 0 by simpa using hi]; exact hj, h2⟩, hj⟩
  | c :: cs, s, r, j, h, hj, hc => by
    obtain ⟨h1, s', h2, h3⟩ := h
    have hs : tys code (j + 1) = some s' := by
      simp only [tys, hj]
      have := hc 0 (by simp)
      rw [Nat.add_zero] at this
      rw [this]
      exact h2
    obtain ⟨a, b'⟩ := tyB.to (j := j + 1) h3 hs (fun i hi => by
      have := hc (i + 1) (by simp only [List.length_cons]; omega)
      rw [show j + 1 + i = j + (i + 1) by omega, this]
      rfl)
    refine ⟨fun i hi => ?_, ?_⟩
    · cases i with
      | zero => exact ⟨s, hj, h1⟩
      | succ i =>
        simp only [List.length_cons] at hi
        rw [show j + (i + 1) = j + 1 + i by omega]
        exact a i (by omega)
    · rw [List.length_cons, show j + (cs.length + 1) = j + 1 + cs.length by omega]
      exact b'
end RA
