section PJ
def PR (t : Nat → Nat) (n lw f m v k : Nat) : Rs := pr (fun j => kin t n (pls t n (j))) (fun j => vlu t (pls t n (j)) (tEnd t n (pls t n (j)) - pls t n (j))) lw f m v k
variable {t : Nat → Nat} {n lw f v k : Nat}
theorem PR_0 : PR t n lw (f + 1) 0 v k = (PR t n lw f 2 v k).bd fun k1 c1 => (PR t n lw f 1 v k1).bd fun k2 c2 => Rs.good k2 (c1 ++ c2) := rfl
theorem PR_1 : PR t n lw (f + 1) 1 v k = if kin t n (pls t n (k)) = 32 ∨ kin t n (pls t n (k)) = 33 then (PR t n lw f 2 v (k + 1)).bd fun k1 c1 => (PR t n lw f 1 v k1).bd fun k2 c2 => Rs.good k2 (c1 ++ (if kin t n (pls t n (k)) = 32 then 3000 else 3001) :: c2) else Rs.good k [] := rfl
theorem PR_2 : PR t n lw (f + 1) 2 v k = (PR t n lw f 4 v k).bd fun k1 c1 => (PR t n lw f 3 v k1).bd fun k2 c2 => Rs.good k2 (c1 ++ c2) := rfl
theorem PR_3 : PR t n lw (f + 1) 3 v k = if kin t n (pls t n (k)) = 34 then (PR t n lw f 4 v (k + 1)).bd fun k1 c1 => (PR t n lw f 3 v k1).bd fun k2 c2 => Rs.good k2 (c1 ++ 3002 :: c2) else Rs.good k [] := rfl
/-- a choice, behind its if -/
def PRi (t : Nat → Nat) (n lw f v k : Nat) : Rs := (PR t n lw f 5 v k).bd fun k1 c1 => if kin t n (pls t n (k1)) = 11 then ((PR t n lw f 0 v (k1 + 1)).bd fun k2 c2 => if kin t n (pls t n (k2)) = 12 then ((PR t n lw f 0 v (k2 + 1)).bd fun k3 c3 => if kin t n (pls t n (k3)) = 13 then Rs.good (k3 + 1) (c1 ++ (c2 ++ (c3 ++ [3009]))) else Rs.bad 2 k3) else Rs.bad 2 k2) else Rs.bad 2 k1
theorem PR_4n (h : kin t n (pls t n (k)) = 23) : PR t n lw (f + 1) 4 v k = Rs.good (k + 1) [vlu t (pls t n (k)) (tEnd t n (pls t n (k)) - pls t n (k))] := by
  show (if kin t n (pls t n (k)) = 23 then _ else _) = _
  rw [if_pos h]
theorem PR_4w {x : Nat} (h : kin t n (pls t n (k)) ≠ 23) (hw : wrV lw (kin t n (pls t n (k))) = some x) : PR t n lw (f + 1) 4 v k = Rs.good (k + 1) [1000 + (x : Int)] := by
  show (if kin t n (pls t n (k)) = 23 then _ else _) = _
  rw [if_neg h]
  show (match wrV lw (kin t n (pls t n (k))) with | some x => _ | none => _) = _
  rw [hw]
theorem PR_4o (h : kin t n (pls t n (k)) ≠ 23) (hw : wrV lw (kin t n (pls t n (k))) = none) : PR t n lw (f + 1) 4 v k = if kin t n (pls t n (k)) = 35 then (if v = 6 then Rs.bad 4 k else (PR t n lw f 0 (v + 1) (k + 1)).bd fun k1 c1 => if kin t n (pls t n (k1)) = 36 then Rs.good (k1 + 1) c1 else Rs.bad 2 k1) else if kin t n (pls t n (k)) = 10 then (if v = 6 then Rs.bad 4 k else PRi t n lw f (v + 1) (k + 1)) else Rs.bad 2 k := by
  show (if kin t n (pls t n (k)) = 23 then _ else _) = _
  rw [if_neg h]
  show (match wrV lw (kin t n (pls t n (k))) with | some x => _ | none => _) = _
  rw [hw]
  rfl
theorem PR_5 : PR t n lw (f + 1) 5 v k = (PR t n lw f 7 v k).bd fun k1 c1 => (PR t n lw f 6 v k1).bd fun k2 c2 => Rs.good k2 (c1 ++ c2) := rfl
theorem PR_6 : PR t n lw (f + 1) 6 v k = if kin t n (pls t n (k)) = 18 then (PR t n lw f 7 v (k + 1)).bd fun k1 c1 => (PR t n lw f 6 v k1).bd fun k2 c2 => Rs.good k2 (c1 ++ 3008 :: c2) else Rs.good k [] := rfl
theorem PR_7 : PR t n lw (f + 1) 7 v k = (PR t n lw f 9 v k).bd fun k1 c1 => (PR t n lw f 8 v k1).bd fun k2 c2 => Rs.good k2 (c1 ++ c2) := rfl
theorem PR_8 : PR t n lw (f + 1) 8 v k = if kin t n (pls t n (k)) = 17 then (PR t n lw f 9 v (k + 1)).bd fun k1 c1 => (PR t n lw f 8 v k1).bd fun k2 c2 => Rs.good k2 (c1 ++ 3007 :: c2) else Rs.good k [] := rfl
/-- two sums compared -/
def PRc (t : Nat → Nat) (n lw f v k : Nat) : Rs := (PR t n lw f 0 v k).bd fun k1 c1 => if kin t n (pls t n (k1)) = 39 ∨ kin t n (pls t n (k1)) = 40 ∨ kin t n (pls t n (k1)) = 41 then ((PR t n lw f 0 v (k1 + 1)).bd fun k2 c2 => Rs.good k2 (c1 ++ (c2 ++ [if kin t n (pls t n (k1)) = 39 then 3003 else if kin t n (pls t n (k1)) = 40 then 3004 else 3005]))) else Rs.bad 2 k1
theorem PR_9 : PR t n lw (f + 1) 9 v k = if kin t n (pls t n (k)) = 19 then (if v = 6 then Rs.bad 4 k else (PR t n lw f 9 (v + 1) (k + 1)).bd fun k1 c1 => Rs.good k1 (c1 ++ [3006])) else if kin t n (pls t n (k)) = 37 then (if v = 6 then Rs.bad 4 k else (PR t n lw f 5 (v + 1) (k + 1)).bd fun k1 c1 => if kin t n (pls t n (k1)) = 38 then Rs.good (k1 + 1) c1 else Rs.bad 2 k1) else PRc t n lw f v k := rfl
/-- not cut short by want of fuel -/
def okR (r : Rs) : Prop := ∀ k, r ≠ Rs.bad 0 k
theorem okR.bd {r : Rs} {g : Nat → List Int → Rs} (h : okR (r.bd g)) : okR r := fun k e => by subst e; exact h k rfl
theorem okR.to {g : Nat → List Int → Rs} {k : Nat} {cs : List Int} (h : okR ((Rs.good k cs).bd g)) : okR (g k cs) := h
theorem bd_good {r : Rs} {g : Nat → List Int → Rs} {k : Nat} {cs : List Int} (h : r.bd g = Rs.good k cs) : ∃ k1 c1, r = Rs.good k1 c1 ∧ g k1 c1 = Rs.good k cs := by
  cases r with
  | inl x => cases h
  | inr x => exact ⟨x.1, x.2, rfl, h⟩
theorem good_inj {k k' : Nat} {cs cs' : List Int} (h : Rs.good k cs = Rs.good k' cs') : k = k' ∧ cs = cs' := by
  cases h
  exact ⟨rfl, rfl⟩
theorem bad_good {w k k' : Nat} {cs : List Int} (h : Rs.bad w k = Rs.good k' cs) : False := by cases h
/-- codes are no more than tokens read -/
theorem PR_ln : ∀ (f m v k : Nat), m ≤ 9 → ∀ k' cs, PR t n lw f m v k = Rs.good k' cs → k + cs.length ≤ k' := by
  intro f
  induction f with
  | zero => intro m v k hm k' cs h; exact absurd h (fun e => bad_good e)
  | succ f ih =>
    intro m v k hm k' cs h
    have two : ∀ (m m' v k : Nat), m ≤ 9 → m' ≤ 9 → ∀ k' cs, ((PR t n lw f m v k).bd fun k1 c1 => (PR t n lw f m' v k1).bd fun k2 c2 => Rs.good k2 (c1 ++ c2)) = Rs.good k' cs → k + cs.length ≤ k' := by
      intro m m' v k h1 h2 k' cs h
      obtain ⟨k1, c1, e1, h⟩ := bd_good h
      obtain ⟨k2, c2, e2, h⟩ := bd_good h
      obtain ⟨rfl, rfl⟩ := good_inj h
      have := ih _ _ _ h1 _ _ e1
      have := ih _ _ _ h2 _ _ e2
      simp only [List.length_append]
      omega
    have lop : ∀ (m m' v k : Nat) (x : Int), m ≤ 9 → m' ≤ 9 → ∀ k' cs, ((PR t n lw f m v (k + 1)).bd fun k1 c1 => (PR t n lw f m' v k1).bd fun k2 c2 => Rs.good k2 (c1 ++ x :: c2)) = Rs.good k' cs → k + cs.length ≤ k' := by
      intro m m' v k x h1 h2 k' cs h
      obtain ⟨k1, c1, e1, h⟩ := bd_good h
      obtain ⟨k2, c2, e2, h⟩ := bd_good h
      obtain ⟨rfl, rfl⟩ := good_inj h
      have := ih _ _ _ h1 _ _ e1
      have := ih _ _ _ h2 _ _ e2
      simp only [List.length_append, List.length_cons]
      omega
    have her : ∀ k', Rs.good k [] = Rs.good k' cs → k + cs.length ≤ k' := by
      intro k' h
      obtain ⟨rfl, rfl⟩ := good_inj h
      simp
    have cls : ∀ (x m v : Nat), m ≤ 9 → ((PR t n lw f m v (k + 1)).bd fun k1 c1 => if kin t n (pls t n (k1)) = x then Rs.good (k1 + 1) c1 else Rs.bad 2 k1) = Rs.good k' cs → k + cs.length ≤ k' := by
      intro x m v hm h
      obtain ⟨k1, c1, e1, h⟩ := bd_good h
      split at h
      · obtain ⟨rfl, rfl⟩ := good_inj h
        have := ih _ _ _ hm _ _ e1
        omega
      · exact absurd h (fun e => bad_good e)
    rcases (show m = 0 ∨ m = 1 ∨ m = 2 ∨ m = 3 ∨ m = 4 ∨ m = 5 ∨ m = 6 ∨ m = 7 ∨ m = 8 ∨ m = 9 by omega) with rfl | rfl | rfl | rfl | rfl | rfl | rfl | rfl | rfl | rfl
    · exact two 2 1 v k (by omega) (by omega) k' cs h
    · rw [PR_1] at h
      split at h
      · exact lop 2 1 v k _ (by omega) (by omega) k' cs h
      · exact her k' h
    · exact two 4 3 v k (by omega) (by omega) k' cs h
    · rw [PR_3] at h
      split at h
      · exact lop 4 3 v k _ (by omega) (by omega) k' cs h
      · exact her k' h
    · by_cases q : kin t n (pls t n (k)) = 23
      · rw [PR_4n q] at h
        obtain ⟨rfl, rfl⟩ := good_inj h
        simp
      · cases hw : wrV lw (kin t n (pls t n (k))) with
        | some x =>
          rw [PR_4w q hw] at h
          obtain ⟨rfl, rfl⟩ := good_inj h
          simp
        | none =>
          rw [PR_4o q hw] at h
          split at h
          · split at h
            · exact absurd h (fun e => bad_good e)
            · exact cls 36 0 (v + 1) (by omega) h
          · split at h
            · split at h
              · exact absurd h (fun e => bad_good e)
              · unfold PRi at h
                obtain ⟨k1, c1, e1, h⟩ := bd_good h
                split at h
                · obtain ⟨k2, c2, e2, h⟩ := bd_good h
                  split at h
                  · obtain ⟨k3, c3, e3, h⟩ := bd_good h
                    split at h
                    · obtain ⟨rfl, rfl⟩ := good_inj h
                      have := ih _ _ _ (by omega) _ _ e1
                      have := ih _ _ _ (by omega) _ _ e2
                      have := ih _ _ _ (by omega) _ _ e3
                      simp only [List.length_append, List.length_cons, List.length_nil]
                      omega
                    · exact absurd h (fun e => bad_good e)
                  · exact absurd h (fun e => bad_good e)
                · exact absurd h (fun e => bad_good e)
            · exact absurd h (fun e => bad_good e)
    · exact two 7 6 v k (by omega) (by omega) k' cs h
    · rw [PR_6] at h
      split at h
      · exact lop 7 6 v k _ (by omega) (by omega) k' cs h
      · exact her k' h
    · exact two 9 8 v k (by omega) (by omega) k' cs h
    · rw [PR_8] at h
      split at h
      · exact lop 9 8 v k _ (by omega) (by omega) k' cs h
      · exact her k' h
    · rw [PR_9] at h
      split at h
      · split at h
        · exact absurd h (fun e => bad_good e)
        · obtain ⟨k1, c1, e1, h⟩ := bd_good h
          obtain ⟨rfl, rfl⟩ := good_inj h
          have := ih _ _ _ (by omega) _ _ e1
          simp only [List.length_append, List.length_cons, List.length_nil]
          omega
      · split at h
        · split at h
          · exact absurd h (fun e => bad_good e)
          · exact cls 38 5 (v + 1) (by omega) h
        · unfold PRc at h
          obtain ⟨k1, c1, e1, h⟩ := bd_good h
          split at h
          · obtain ⟨k2, c2, e2, h⟩ := bd_good h
            obtain ⟨rfl, rfl⟩ := good_inj h
            have := ih _ _ _ (by omega) _ _ e1
            have := ih _ _ _ (by omega) _ _ e2
            simp only [List.length_append, List.length_cons, List.length_nil]
            omega
          · exact absurd h (fun e => bad_good e)
/-- reading goes on, past no end -/
theorem PR_go {f m v k k' : Nat} {cs : List Int} (hm : m ≤ 9) (h : PR t n lw f m v k = Rs.good k' cs) : k ≤ k' ∧ (¬ (m = 1 ∨ m = 3 ∨ m = 6 ∨ m = 8) → k < k') ∧ ∀ j, k ≤ j → j < k' → kin t n (pls t n (j)) ≠ 24 ∧ kin t n (pls t n (j)) ≠ 25 := by
  have := pr_go (kd := fun j => kin t n (pls t n (j))) (vl := fun j => vlu t (pls t n (j)) (tEnd t n (pls t n (j)) - pls t n (j))) (lw := lw) f m v k hm
  unfold PR at h
  rw [h] at this
  obtain ⟨h1, h2⟩ := this
  refine ⟨by split at h1 <;> omega, fun q => by rw [if_neg q] at h1; omega, h2⟩
end PJ
