section RB
variable {t : Nat → Nat} {n lw : Nat} {s : List Bool} {c : Int}
theorem tst_num (h : 0 ≤ c) (h2 : c < 1009) : tst c s = some (true :: s) := by
  unfold tst; rw [if_pos ⟨h, h2⟩]
theorem tst_ar (h : 3000 ≤ c ∧ c ≤ 3002) : tst c (true :: true :: s) = some (true :: s) := by
  unfold tst; rw [if_neg (by omega), if_pos h]
theorem tst_cm (h : 3003 ≤ c ∧ c ≤ 3005) : tst c (true :: true :: s) = some (false :: s) := by
  unfold tst; rw [if_neg (by omega), if_neg (by omega), if_pos h]
theorem tst_not : tst 3006 (false :: s) = some (false :: s) := by
  unfold tst; rw [if_neg (by omega), if_neg (by omega), if_neg (by omega), if_pos rfl]
theorem tst_ao (h : c = 3007 ∨ c = 3008) : tst c (false :: false :: s) = some (false :: s) := by
  unfold tst; rw [if_neg (by omega), if_neg (by omega), if_neg (by omega), if_neg (by omega), if_pos h]
theorem tst_if : tst 3009 (true :: true :: false :: s) = some (true :: s) := by
  unfold tst; rw [if_neg (by omega), if_neg (by omega), if_neg (by omega), if_neg (by omega), if_neg (by omega), if_pos rfl]
def tyI (m : Nat) (s : List Bool) : List Bool := if m = 1 ∨ m = 3 then true :: s else if m = 6 ∨ m = 8 then false :: s else s
def tyO (m : Nat) (s : List Bool) : List Bool := if m ≤ 4 then true :: s else false :: s
def tyN (m : Nat) : Nat := if m = 4 then 1 else if m = 2 ∨ m = 3 then 2 else if m = 0 ∨ m = 1 then 3 else if m = 9 then 4 else if m = 7 ∨ m = 8 then 5 else 6
theorem PR_ty : ∀ (f m v k : Nat), m ≤ 9 → v ≤ 6 → ∀ k' cs, PR t n lw f m v k = Rs.good k' cs → ∀ s : List Bool, tyB (s.length + 5 * (6 - v) + tyN m) cs (tyI m s) (tyO m s) := by
  intro f
  induction f with
  | zero => intro m v k hm hv k' cs h; exact absurd h (fun e => bad_good e)
  | succ f ih =>
    have i0 := fun v k => ih 0 v k (by omega)
    have i1 := fun v k => ih 1 v k (by omega)
    have i2 := fun v k => ih 2 v k (by omega)
    have i3 := fun v k => ih 3 v k (by omega)
    have i4 := fun v k => ih 4 v k (by omega)
    have i5 := fun v k => ih 5 v k (by omega)
    have i6 := fun v k => ih 6 v k (by omega)
    have i7 := fun v k => ih 7 v k (by omega)
    have i8 := fun v k => ih 8 v k (by omega)
    have i9 := fun v k => ih 9 v k (by omega)
    simp only [tyI, tyO, tyN, Nat.reduceEqDiff, Nat.reduceLeDiff, or_self, or_false, false_or, reduceIte, or_true, true_or] at i0 i1 i2 i3 i4 i5 i6 i7 i8 i9
    intro m v k hm hv k' cs h s
    rcases (show m = 0 ∨ m = 1 ∨ m = 2 ∨ m = 3 ∨ m = 4 ∨ m = 5 ∨ m = 6 ∨ m = 7 ∨ m = 8 ∨ m = 9 by omega) with rfl | rfl | rfl | rfl | rfl | rfl | rfl | rfl | rfl | rfl
    all_goals simp only [tyI, tyO, tyN, Nat.reduceEqDiff, Nat.reduceLeDiff, or_self, or_false, false_or, reduceIte, or_true, true_or]
    · rw [PR_0] at h
      obtain ⟨k1, c1, e1, h⟩ := bd_good h
      obtain ⟨k2, c2, e2, h⟩ := bd_good h
      obtain ⟨rfl, rfl⟩ := good_inj h
      exact ((i2 _ _ hv _ _ e1 s).up (by omega)).app ((i1 _ _ hv _ _ e2 s).up (by omega))
    · rw [PR_1] at h
      split at h
      · next q =>
        obtain ⟨k1, c1, e1, h⟩ := bd_good h
        obtain ⟨k2, c2, e2, h⟩ := bd_good h
        obtain ⟨rfl, rfl⟩ := good_inj h
        refine ((i2 _ _ hv _ _ e1 (true :: s)).up (by simp only [List.length_cons]; omega)).app ?_
        rw [← List.singleton_append]
        exact (tyB.one (tst_ar (by split <;> omega)) (by simp only [List.length_cons]; omega) (by simp only [List.length_cons]; omega)).app ((i1 _ _ hv _ _ e2 s).up (by omega))
      · obtain ⟨rfl, rfl⟩ := good_inj h
        exact ⟨rfl, by simp only [List.length_cons]; omega⟩
    · rw [PR_2] at h
      obtain ⟨k1, c1, e1, h⟩ := bd_good h
      obtain ⟨k2, c2, e2, h⟩ := bd_good h
      obtain ⟨rfl, rfl⟩ := good_inj h
      exact ((i4 _ _ hv _ _ e1 s).up (by omega)).app ((i3 _ _ hv _ _ e2 s).up (by omega))
    · rw [PR_3] at h
      split at h
      · next q =>
        obtain ⟨k1, c1, e1, h⟩ := bd_good h
        obtain ⟨k2, c2, e2, h⟩ := bd_good h
        obtain ⟨rfl, rfl⟩ := good_inj h
        refine ((i4 _ _ hv _ _ e1 (true :: s)).up (by simp only [List.length_cons]; omega)).app ?_
        rw [← List.singleton_append]
        exact (tyB.one (tst_ar (by omega)) (by simp only [List.length_cons]; omega) (by simp only [List.length_cons]; omega)).app ((i3 _ _ hv _ _ e2 s).up (by omega))
      · obtain ⟨rfl, rfl⟩ := good_inj h
        exact ⟨rfl, by simp only [List.length_cons]; omega⟩
    · by_cases q : kin t n (pls t n (k)) = 23
      · rw [PR_4n q] at h
        obtain ⟨rfl, rfl⟩ := good_inj h
        have hb := vn_b q
        exact tyB.one (tst_num (by omega) (by omega)) (by omega) (by simp only [List.length_cons]; omega)
      · cases hw : wrV lw (kin t n (pls t n (k))) with
        | some x =>
          rw [PR_4w q hw] at h
          obtain ⟨rfl, rfl⟩ := good_inj h
          have hb := wrV_k hw
          exact tyB.one (tst_num (by omega) (by omega)) (by omega) (by simp only [List.length_cons]; omega)
        | none =>
          rw [PR_4o q hw] at h
          split at h
          · split at h
            · exact absurd h (fun e => bad_good e)
            · next q6 =>
              obtain ⟨k1, c1, e1, h⟩ := bd_good h
              split at h
              · obtain ⟨rfl, rfl⟩ := good_inj h
                exact (i0 _ _ (by omega) _ _ e1 s).up (by omega)
              · exact absurd h (fun e => bad_good e)
          · split at h
            · split at h
              · exact absurd h (fun e => bad_good e)
              · next q6 =>
                unfold PRi at h
                obtain ⟨k1, c1, e1, h⟩ := bd_good h
                split at h
                · obtain ⟨k2, c2, e2, h⟩ := bd_good h
                  split at h
                  · obtain ⟨k3, c3, e3, h⟩ := bd_good h
                    split at h
                    · obtain ⟨rfl, rfl⟩ := good_inj h
                      refine ((i5 _ _ (by omega) _ _ e1 s).up (by omega)).app (((i0 _ _ (by omega) _ _ e2 (false :: s)).up (by simp only [List.length_cons]; omega)).app (((i0 _ _ (by omega) _ _ e3 (true :: false :: s)).up (by simp only [List.length_cons]; omega)).app ?_))
                      exact tyB.one tst_if (by simp only [List.length_cons]; omega) (by simp only [List.length_cons]; omega)
                    · exact absurd h (fun e => bad_good e)
                  · exact absurd h (fun e => bad_good e)
                · exact absurd h (fun e => bad_good e)
            · exact absurd h (fun e => bad_good e)
    · rw [PR_5] at h
      obtain ⟨k1, c1, e1, h⟩ := bd_good h
      obtain ⟨k2, c2, e2, h⟩ := bd_good h
      obtain ⟨rfl, rfl⟩ := good_inj h
      exact ((i7 _ _ hv _ _ e1 s).up (by omega)).app ((i6 _ _ hv _ _ e2 s).up (by omega))
    · rw [PR_6] at h
      split at h
      · next q =>
        obtain ⟨k1, c1, e1, h⟩ := bd_good h
        obtain ⟨k2, c2, e2, h⟩ := bd_good h
        obtain ⟨rfl, rfl⟩ := good_inj h
        refine ((i7 _ _ hv _ _ e1 (false :: s)).up (by simp only [List.length_cons]; omega)).app ?_
        rw [← List.singleton_append]
        exact (tyB.one (tst_ao (by omega)) (by simp only [List.length_cons]; omega) (by simp only [List.length_cons]; omega)).app ((i6 _ _ hv _ _ e2 s).up (by omega))
      · obtain ⟨rfl, rfl⟩ := good_inj h
        exact ⟨rfl, by simp only [List.length_cons]; omega⟩
    · rw [PR_7] at h
      obtain ⟨k1, c1, e1, h⟩ := bd_good h
      obtain ⟨k2, c2, e2, h⟩ := bd_good h
      obtain ⟨rfl, rfl⟩ := good_inj h
      exact ((i9 _ _ hv _ _ e1 s).up (by omega)).app ((i8 _ _ hv _ _ e2 s).up (by omega))
    · rw [PR_8] at h
      split at h
      · next q =>
        obtain ⟨k1, c1, e1, h⟩ := bd_good h
        obtain ⟨k2, c2, e2, h⟩ := bd_good h
        obtain ⟨rfl, rfl⟩ := good_inj h
        refine ((i9 _ _ hv _ _ e1 (false :: s)).up (by simp only [List.length_cons]; omega)).app ?_
        rw [← List.singleton_append]
        exact (tyB.one (tst_ao (by omega)) (by simp only [List.length_cons]; omega) (by simp only [List.length_cons]; omega)).app ((i8 _ _ hv _ _ e2 s).up (by omega))
      · obtain ⟨rfl, rfl⟩ := good_inj h
        exact ⟨rfl, by simp only [List.length_cons]; omega⟩
    · rw [PR_9] at h
      split at h
      · split at h
        · exact absurd h (fun e => bad_good e)
        · next q6 =>
          obtain ⟨k1, c1, e1, h⟩ := bd_good h
          obtain ⟨rfl, rfl⟩ := good_inj h
          exact ((i9 _ _ (by omega) _ _ e1 s).up (by omega)).app (tyB.one tst_not (by simp only [List.length_cons]; omega) (by simp only [List.length_cons]; omega))
      · split at h
        · split at h
          · exact absurd h (fun e => bad_good e)
          · next q6 =>
            obtain ⟨k1, c1, e1, h⟩ := bd_good h
            split at h
            · obtain ⟨rfl, rfl⟩ := good_inj h
              exact (i5 _ _ (by omega) _ _ e1 s).up (by omega)
            · exact absurd h (fun e => bad_good e)
        · unfold PRc at h
          obtain ⟨k1, c1, e1, h⟩ := bd_good h
          split at h
          · next q1 =>
            obtain ⟨k2, c2, e2, h⟩ := bd_good h
            obtain ⟨rfl, rfl⟩ := good_inj h
            refine ((i0 _ _ hv _ _ e1 s).up (by omega)).app (((i0 _ _ hv _ _ e2 (true :: s)).up (by simp only [List.length_cons]; omega)).app ?_)
            exact tyB.one (tst_cm (by split <;> (try split) <;> omega)) (by simp only [List.length_cons]; omega) (by simp only [List.length_cons]; omega)
          · exact absurd h (fun e => bad_good e)
/-- in a law of counting no word of holding stands -/
theorem PR_cd : ∀ (f m v k : Nat), m ≤ 9 → ∀ k' cs, PR t n lw f m v k = Rs.good k' cs → lw ≠ 0 → ∀ c, c ∈ cs → c < 1006 ∨ 3000 ≤ c := by
  intro f
  induction f with
  | zero => intro m v k hm k' cs h; exact absurd h (fun e => bad_good e)
  | succ f ih =>
    intro m v k hm k' cs h hl
    have two : ∀ (m m' v k : Nat), m ≤ 9 → m' ≤ 9 → ∀ k' cs, ((PR t n lw f m v k).bd fun k1 c1 => (PR t n lw f m' v k1).bd fun k2 c2 => Rs.good k2 (c1 ++ c2)) = Rs.good k' cs → ∀ c, c ∈ cs → c < 1006 ∨ 3000 ≤ c := by
      intro m m' v k h1 h2 k' cs h c hc
      obtain ⟨k1, c1, e1, h⟩ := bd_good h
      obtain ⟨k2, c2, e2, h⟩ := bd_good h
      obtain ⟨rfl, rfl⟩ := good_inj h
      rcases List.mem_append.mp hc with q | q
      · exact ih _ _ _ h1 _ _ e1 hl _ q
      · exact ih _ _ _ h2 _ _ e2 hl _ q
    have lop : ∀ (m m' v k : Nat) (x : Int), m ≤ 9 → m' ≤ 9 → 3000 ≤ x → ∀ k' cs, ((PR t n lw f m v k).bd fun k1 c1 => (PR t n lw f m' v k1).bd fun k2 c2 => Rs.good k2 (c1 ++ x :: c2)) = Rs.good k' cs → ∀ c, c ∈ cs → c < 1006 ∨ 3000 ≤ c := by
      intro m m' v k x h1 h2 hx k' cs h c hc
      obtain ⟨k1, c1, e1, h⟩ := bd_good h
      obtain ⟨k2, c2, e2, h⟩ := bd_good h
      obtain ⟨rfl, rfl⟩ := good_inj h
      rcases List.mem_append.mp hc with q | q
      · exact ih _ _ _ h1 _ _ e1 hl _ q
      · rcases List.mem_cons.mp q with rfl | q
        · exact Or.inr hx
        · exact ih _ _ _ h2 _ _ e2 hl _ q
    have her : ∀ k', Rs.good k [] = Rs.good k' cs → ∀ c, c ∈ cs → c < 1006 ∨ 3000 ≤ c := by
      intro k' h c hc
      obtain ⟨rfl, rfl⟩ := good_inj h
      cases hc
    have cls : ∀ (x m v k : Nat), m ≤ 9 → ((PR t n lw f m v k).bd fun k1 c1 => if kin t n (pls t n (k1)) = x then Rs.good (k1 + 1) c1 else Rs.bad 2 k1) = Rs.good k' cs → ∀ c, c ∈ cs → c < 1006 ∨ 3000 ≤ c := by
      intro x m v k hm h c hc
      obtain ⟨k1, c1, e1, h⟩ := bd_good h
      split at h
      · obtain ⟨rfl, rfl⟩ := good_inj h
        exact ih _ _ _ hm _ _ e1 hl _ hc
      · exact absurd h (fun e => bad_good e)
    rcases (show m = 0 ∨ m = 1 ∨ m = 2 ∨ m = 3 ∨ m = 4 ∨ m = 5 ∨ m = 6 ∨ m = 7 ∨ m = 8 ∨ m = 9 by omega) with rfl | rfl | rfl | rfl | rfl | rfl | rfl | rfl | rfl | rfl
    · exact two 2 1 v k (by omega) (by omega) k' cs h
    · rw [PR_1] at h
      split at h
      · exact lop 2 1 v (k + 1) _ (by omega) (by omega) (by split <;> omega) k' cs h
      · exact her k' h
    · exact two 4 3 v k (by omega) (by omega) k' cs h
    · rw [PR_3] at h
      split at h
      · exact lop 4 3 v (k + 1) _ (by omega) (by omega) (by omega) k' cs h
      · exact her k' h
    · by_cases q : kin t n (pls t n (k)) = 23
      · rw [PR_4n q] at h
        obtain ⟨rfl, rfl⟩ := good_inj h
        intro c hc
        have hb := vn_b q
        rcases List.mem_cons.mp hc with rfl | hc
        · omega
        · cases hc
      · cases hw : wrV lw (kin t n (pls t n (k))) with
        | some x =>
          rw [PR_4w q hw] at h
          obtain ⟨rfl, rfl⟩ := good_inj h
          intro c hc
          have hb := wrV_k hw
          rcases List.mem_cons.mp hc with rfl | hc
          · omega
          · cases hc
        | none =>
          rw [PR_4o q hw] at h
          split at h
          · split at h
            · exact absurd h (fun e => bad_good e)
            · exact cls 36 0 (v + 1) _ (by omega) h
          · split at h
            · split at h
              · exact absurd h (fun e => bad_good e)
              · unfold PRi at h
                obtain ⟨k1, c1, e1, h⟩ := bd_good h
                split at h
                · obtain ⟨k2, c2, e2, h⟩ := bd_good h
                  split at h
                  · obtain ⟨k3, c3, e3, h⟩ := bd_good h
                    split at h
                    · obtain ⟨rfl, rfl⟩ := good_inj h
                      intro c hc
                      simp only [List.mem_append, List.mem_cons, List.not_mem_nil, or_false] at hc
                      rcases hc with q | q | q | q
                      · exact ih _ _ _ (by omega) _ _ e1 hl _ q
                      · exact ih _ _ _ (by omega) _ _ e2 hl _ q
                      · exact ih _ _ _ (by omega) _ _ e3 hl _ q
                      · omega
                    · exact absurd h (fun e => bad_good e)
                  · exact absurd h (fun e => bad_good e)
                · exact absurd h (fun e => bad_good e)
            · exact absurd h (fun e => bad_good e)
    · exact two 7 6 v k (by omega) (by omega) k' cs h
    · rw [PR_6] at h
      split at h
      · exact lop 7 6 v (k + 1) _ (by omega) (by omega) (by omega) k' cs h
      · exact her k' h
    · exact two 9 8 v k (by omega) (by omega) k' cs h
    · rw [PR_8] at h
      split at h
      · exact lop 9 8 v (k + 1) _ (by omega) (by omega) (by omega) k' cs h
      · exact her k' h
    · rw [PR_9] at h
      split at h
      · split at h
        · exact absurd h (fun e => bad_good e)
        · obtain ⟨k1, c1, e1, h⟩ := bd_good h
          obtain ⟨rfl, rfl⟩ := good_inj h
          intro c hc
          simp only [List.mem_append, List.mem_cons, List.not_mem_nil, or_false] at hc
          rcases hc with q | q
          · exact ih _ _ _ (by omega) _ _ e1 hl _ q
          · omega
      · split at h
        · split at h
          · exact absurd h (fun e => bad_good e)
          · exact cls 38 5 (v + 1) _ (by omega) h
        · unfold PRc at h
          obtain ⟨k1, c1, e1, h⟩ := bd_good h
          split at h
          · obtain ⟨k2, c2, e2, h⟩ := bd_good h
            obtain ⟨rfl, rfl⟩ := good_inj h
            intro c hc
            simp only [List.mem_append, List.mem_cons, List.not_mem_nil, or_false] at hc
            rcases hc with q | q | q
            · exact ih _ _ _ (by omega) _ _ e1 hl _ q
            · exact ih _ _ _ (by omega) _ _ e2 hl _ q
            · right; rw [q]; split <;> (try split) <;> omega
          · exact absurd h (fun e => bad_good e)
/-- a law that was read is in form -/
theorem PR_wf {f md k k' : Nat} {cs : List Int} {b : Bool} (h : PR t n lw f md 0 k = Rs.good k' cs) (hm : (md = 0 ∧ b = true) ∨ (md = 5 ∧ b = false)) : WfL (fun i => cs.getD i 0) cs.length b ∧ cs.length ≠ 0 := by
  have hb : tyB 100 cs [] [b] := by
    rcases hm with ⟨rfl, rfl⟩ | ⟨rfl, rfl⟩
    · exact (PR_ty _ _ _ _ (by omega) (by omega) _ _ h []).up (by decide)
    · exact (PR_ty _ _ _ _ (by omega) (by omega) _ _ h []).up (by decide)
  obtain ⟨a, e⟩ := tyB.to (code := fun i => cs.getD i 0) (j := 0) hb rfl (fun i hi => by rw [Nat.zero_add])
  refine ⟨⟨fun k hk => ?_, ?_⟩, fun q => ?_⟩
  · have := a k hk
    rwa [Nat.zero_add] at this
  · rwa [Nat.zero_add] at e
  · rw [q] at e
    cases e
end RB
