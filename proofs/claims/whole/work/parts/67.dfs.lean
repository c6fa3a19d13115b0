/-! the class's search for how long can be held, as such -/
def ud {α : Type} (f : Nat → α) (s : Nat) (v : α) : Nat → α := fun x => if x = s then v else f x
theorem ud_eq {α : Type} {f : Nat → α} {s : Nat} {v : α} : ud f s v s = v := if_pos rfl
theorem ud_ne {α : Type} {f : Nat → α} {s x : Nat} {v : α} (h : x ≠ s) : ud f s v x = f x := if_neg h
def pot (t : Int) : Nat := if t = -1 then 1 else 34 - t.toNat
def mu (mk : Nat → Nat) (tu : Nat → Int) (dp : Nat) : Nat := 35 * cntP (fun s => decide (mk s = 0)) 3125 + sumN (fun j => pot (tu j)) dp
def WtS (ok sb : Nat → Nat → Bool) (nx : Nat → Nat → Nat) (s : Nat) (t h p : Int) : Prop := (t = -1 ∧ h = -1 ∧ PkE ok nx s p) ∨ ∃ k n : Nat, h = k ∧ PkF ok nx s k p n ∧ ((t = -1 ∧ n = 32) ∨ (t = n ∧ n < 32 ∧ sb s n = true))
def DInv (ok sb : Nat → Nat → Bool) (nx : Nat → Nat → Nat) (B s0 : Nat) (mk : Nat → Nat) (hr pk : Nat → Int) (pa : Nat → Nat) (tu : Nat → Int) (dp : Nat) : Prop :=
  (∀ s, mk s ≤ 2) ∧ (s0 < B ∧ mk s0 ≠ 0) ∧ (∀ j, j < dp → pa j < B ∧ mk (pa j) = 1) ∧ (∀ i j, i < dp → j < dp → pa i = pa j → i = j) ∧
  (∀ s, s < B → mk s = 1 → ∃ j, j < dp ∧ pa j = s) ∧
  (∀ j, j + 1 < dp → ∃ t : Nat, tu j = t ∧ t < 32 ∧ ok (pa j) t = true ∧ nx (pa j) t = pa (j + 1)) ∧
  (∀ j, j < dp → WtS ok sb nx (pa j) (tu j) (hr (pa j)) (pk (pa j))) ∧
  (∀ s, s < B → mk s = 2 → (hr s = -1 ∧ PkE ok nx s (pk s)) ∨ ∃ h : Nat, hr s = h ∧ PkF ok nx s h (pk s) 32) ∧
  (∀ s, s < B → mk s ≠ 0 → ∀ x : Nat, pk s = x → mk (nx s x) ≠ 0)
section DF
variable {ok sb : Nat → Nat → Bool} {nx : Nat → Nat → Nat} {B s0 : Nat} {mk : Nat → Nat} {hr pk : Nat → Int} {pa : Nat → Nat} {tu : Nat → Int} {k : Nat}
theorem PkF.skip {s h n n' : Nat} {p : Int} (H : PkF ok nx s h p n) (hn : n ≤ n') (h0 : ∀ y, n ≤ y → y < n' → ok s y = false) : PkF ok nx s h p n' := by
  obtain ⟨a, b⟩ := H
  refine ⟨fun y hy hyo => ?_, ?_⟩
  · rcases Nat.lt_or_ge y n with q | q
    · exact a y q hyo
    · rw [h0 y q hy] at hyo; cases hyo
  · rcases b with b | ⟨x, x0, x1, x2⟩
    · exact Or.inl b
    · exact Or.inr ⟨x, x0, by omega, x2⟩
theorem PkF.same {s h n w : Nat} {p : Int} (H : PkF ok nx s h p n) (hw : Vl ok nx (nx s n) w) (hl : w + 1 ≤ h) : PkF ok nx s h p (n + 1) := by
  obtain ⟨a, b⟩ := H
  refine ⟨fun y hy hyo => ?_, ?_⟩
  · by_cases e : y = n
    · subst e; exact ⟨w, hw, hl⟩
    · exact a y (by omega) hyo
  · rcases b with b | ⟨x, x0, x1, x2⟩
    · exact Or.inl b
    · exact Or.inr ⟨x, x0, by omega, x2⟩
theorem PkF.better {s h n w : Nat} {p : Int} (H : PkF ok nx s h p n) (ho : ok s n = true) (hw : Vl ok nx (nx s n) w) (hl : h < w + 1) : PkF ok nx s (w + 1) (n : Int) (n + 1) := by
  obtain ⟨a, b⟩ := H
  refine ⟨fun y hy hyo => ?_, Or.inr ⟨n, rfl, by omega, ho, ⟨w, hw, rfl⟩, fun y hy hyo => ?_⟩⟩
  · by_cases e : y = n
    · subst e; exact ⟨w, hw, Nat.le_refl _⟩
    · obtain ⟨u, u1, u2⟩ := a y (by omega) hyo
      exact ⟨u, u1, by omega⟩
  · obtain ⟨u, u1, u2⟩ := a y hy hyo
    exact ⟨u, u1, by omega⟩
theorem PkF.ever {s h n : Nat} {p : Int} (H : PkF ok nx s h p n) (hn : n < 32) (ho : ok s n = true) (he : Ev ok nx (nx s n)) : PkE ok nx s (n : Int) :=
  ⟨n, rfl, hn, ho, he, fun y hy hyo => by
    obtain ⟨u, u1, _⟩ := H.1 y hy hyo
    exact ⟨u, u1⟩⟩
theorem cntP_dec {f g : Nat → Bool} {s : Nat} (h1 : f s = true) (h2 : g s = false) (h3 : ∀ x, x ≠ s → g x = f x) : ∀ n, s < n → cntP g n + 1 = cntP f n
  | 0, h => absurd h (by omega)
  | n + 1, h => by
    simp only [cntP]
    by_cases e : s = n
    · subst e
      rw [cntP_congr s (fun p hp => h3 p (by omega)), h1, h2]
      simp
    · have := cntP_dec h1 h2 h3 n (by omega)
      rw [h3 n (fun h => e h.symm)]
      omega
theorem sumN_s (f : Nat → Nat) (n : Nat) : sumN f (n + 1) = sumN f n + f n := rfl
/-- a top comes to be otherwise -/
theorem DInv.set (H : DInv ok sb nx B s0 mk hr pk pa tu (k + 1)) {t' h' p' : Int} (hw : WtS ok sb nx (pa k) t' h' p') (hp : ∀ x : Nat, p' = x → mk (nx (pa k) x) ≠ 0) : DInv ok sb nx B s0 mk (ud hr (pa k) h') (ud pk (pa k) p') pa (ud tu k t') (k + 1) := by
  obtain ⟨a1, a2, a3, a4, a5, a6, a7, a8, a9⟩ := H
  have hk := a3 k (by omega)
  refine ⟨a1, a2, a3, a4, a5, fun j hj => ?_, fun j hj => ?_, fun s hs hm => ?_, fun s hs hm x hx => ?_⟩
  · rw [ud_ne (by omega)]; exact a6 j hj
  · by_cases e : j = k
    · subst e; rw [ud_eq, ud_eq, ud_eq]; exact hw
    · have : pa j ≠ pa k := fun h => e (a4 j k hj (by omega) h)
      rw [ud_ne e, ud_ne this, ud_ne this]; exact a7 j hj
  · have : s ≠ pa k := fun h => by rw [h, hk.2] at hm; cases hm
    rw [ud_ne this, ud_ne this]; exact a8 s hs hm
  · by_cases e : s = pa k
    · subst e; rw [ud_eq] at hx; exact hp x hx
    · rw [ud_ne e] at hx; exact a9 s hs hm x hx
theorem mu_set {t' : Int} (h : pot t' < pot (tu k)) : mu mk (ud tu k t') (k + 1) < mu mk tu (k + 1) := by
  unfold mu
  rw [sumN_s, sumN_s, ud_eq, sumN_congr (f := fun j => pot (ud tu k t' j)) (g := fun j => pot (tu j)) k (fun j hj => by simp only [ud_ne (show j ≠ k by omega)])]
  omega
theorem DInv.close (H : DInv ok sb nx B s0 mk hr pk pa tu (k + 1)) (ht : tu k = -1) : DInv ok sb nx B s0 (ud mk (pa k) 2) hr pk pa tu k := by
  obtain ⟨a1, a2, a3, a4, a5, a6, a7, a8, a9⟩ := H
  have hk := a3 k (by omega)
  have hne : ∀ j, j < k → pa j ≠ pa k := fun j hj h => by have := a4 j k (by omega) (by omega) h; omega
  have h0 : ∀ s, mk s ≠ 0 → ud mk (pa k) 2 s ≠ 0 := fun s hs => by
    by_cases e : s = pa k
    · subst e; rw [ud_eq]; omega
    · rw [ud_ne e]; exact hs
  refine ⟨fun s => ?_, ⟨a2.1, h0 _ a2.2⟩, fun j hj => ?_, fun i j hi hj => a4 i j (by omega) (by omega), fun s hs hm => ?_, fun j hj => a6 j (by omega), fun j hj => a7 j (by omega), fun s hs hm => ?_, fun s hs hm x hx => ?_⟩
  · by_cases e : s = pa k
    · subst e; rw [ud_eq]; omega
    · rw [ud_ne e]; exact a1 s
  · rw [ud_ne (hne j hj)]; exact a3 j (by omega)
  · have e : s ≠ pa k := fun e => by rw [e, ud_eq] at hm; cases hm
    rw [ud_ne e] at hm
    obtain ⟨j, hj, ej⟩ := a5 s hs hm
    exact ⟨j, by rcases Nat.lt_or_ge j k with q | q
                 · exact q
                 · have : j = k := by omega
                   subst this; exact absurd ej.symm e, ej⟩
  · by_cases e : s = pa k
    · subst e
      rcases a7 k (by omega) with ⟨_, b, c⟩ | ⟨h, n, b, c, d⟩
      · exact Or.inl ⟨b, c⟩
      · rcases d with ⟨_, rfl⟩ | ⟨d, _⟩
        · exact Or.inr ⟨h, b, c⟩
        · omega
    · rw [ud_ne e] at hm; exact a8 s hs hm
  · refine h0 _ (a9 s hs ?_ x hx)
    by_cases e : s = pa k
    · rw [e, hk.2]; omega
    · rw [ud_ne e] at hm; exact hm
theorem mu_close (hm : mk (pa k) = 1) (ht : tu k = -1) : mu (ud mk (pa k) 2) tu k < mu mk tu (k + 1) := by
  unfold mu
  rw [sumN_s, cntP_congr (f := fun s => decide (ud mk (pa k) 2 s = 0)) (g := fun s => decide (mk s = 0)) 3125 (fun s _ => by
    by_cases e : s = pa k
    · subst e; simp only [ud_eq, hm]; decide
    · simp only [ud_ne e]), ht]
  have : pot (-1) = 1 := rfl
  omega
theorem DInv.opn {f n : Nat} (H : DInv ok sb nx B s0 mk hr pk pa tu (k + 1)) (ht : tu k = n) (hn : n < 32) (ho : ok (pa k) n = true) (hf : nx (pa k) n = f) (hfB : f < B) (hm : mk f = 0) (hsb : sb f 0 = true) : DInv ok sb nx B s0 (ud mk f 1) (ud hr f 0) (ud pk f (-1)) (ud pa (k + 1) f) (ud tu (k + 1) 0) (k + 2) := by
  obtain ⟨a1, a2, a3, a4, a5, a6, a7, a8, a9⟩ := H
  have hne : ∀ s, mk s ≠ 0 → s ≠ f := fun s hs e => hs (by rw [e]; exact hm)
  have hpa : ∀ j, j < k + 1 → pa j ≠ f := fun j hj => hne _ (by rw [(a3 j hj).2]; omega)
  have h0 : ∀ s, mk s ≠ 0 → ud mk f 1 s ≠ 0 := fun s hs => by rw [ud_ne (hne s hs)]; exact hs
  refine ⟨fun s => ?_, ⟨a2.1, h0 _ a2.2⟩, fun j hj => ?_, fun i j hi hj e => ?_, fun s hs hm' => ?_, fun j hj => ?_, fun j hj => ?_, fun s hs hm' => ?_, fun s hs hm' x hx => ?_⟩
  · by_cases e : s = f
    · subst e; rw [ud_eq]; omega
    · rw [ud_ne e]; exact a1 s
  · by_cases e : j = k + 1
    · subst e; rw [ud_eq, ud_eq]; exact ⟨hfB, rfl⟩
    · rw [ud_ne e, ud_ne (hpa j (by omega))]; exact a3 j (by omega)
  · by_cases ei : i = k + 1
    · by_cases ej : j = k + 1
      · omega
      · rw [ei, ud_eq, ud_ne ej] at e
        exact absurd e.symm (hpa j (by omega))
    · by_cases ej : j = k + 1
      · rw [ej, ud_eq, ud_ne ei] at e
        exact absurd e (hpa i (by omega))
      · rw [ud_ne ei, ud_ne ej] at e
        exact a4 i j (by omega) (by omega) e
  · by_cases e : s = f
    · exact ⟨k + 1, by omega, by rw [ud_eq, e]⟩
    · rw [ud_ne e] at hm'
      obtain ⟨j, hj, ej⟩ := a5 s hs hm'
      exact ⟨j, by omega, by rw [ud_ne (by omega)]; exact ej⟩
  · by_cases e : j = k
    · subst e
      refine ⟨n, by rw [ud_ne (by omega)]; exact ht, hn, ?_, ?_⟩
      · rw [ud_ne (by omega)]; exact ho
      · rw [ud_ne (by omega), ud_eq]; exact hf
    · obtain ⟨t, t1, t2, t3, t4⟩ := a6 j (by omega)
      exact ⟨t, by rw [ud_ne (by omega)]; exact t1, t2, by rw [ud_ne (by omega)]; exact t3, by rw [ud_ne (by omega), ud_ne (by omega)]; exact t4⟩
  · by_cases e : j = k + 1
    · subst e
      rw [ud_eq, ud_eq, ud_eq, ud_eq]
      exact Or.inr ⟨0, 0, rfl, ⟨fun y hy => absurd hy (by omega), Or.inl ⟨rfl, rfl⟩⟩, Or.inr ⟨rfl, by omega, hsb⟩⟩
    · have := hpa j (by omega)
      rw [ud_ne e, ud_ne e, ud_ne this, ud_ne this]
      exact a7 j (by omega)
  · have e : s ≠ f := fun e => by rw [e, ud_eq] at hm'; cases hm'
    rw [ud_ne e] at hm'
    rw [ud_ne e, ud_ne e]
    exact a8 s hs hm'
  · by_cases e : s = f
    · rw [e, ud_eq] at hx; omega
    · rw [ud_ne e] at hm' hx
      exact h0 _ (a9 s hs hm' x hx)
theorem mu_open {f : Nat} (hf : f < 3125) (hm : mk f = 0) : mu (ud mk f 1) (ud tu (k + 1) 0) (k + 2) < mu mk tu (k + 1) := by
  unfold mu
  rw [show k + 2 = (k + 1) + 1 from rfl, sumN_s, ud_eq, sumN_congr (f := fun j => pot (ud tu (k + 1) 0 j)) (g := fun j => pot (tu j)) (k + 1) (fun j hj => by simp only [ud_ne (show j ≠ k + 1 by omega)])]
  have := cntP_dec (f := fun s => decide (mk s = 0)) (g := fun s => decide (ud mk f 1 s = 0)) (s := f) (by simp [hm]) (by simp [ud_eq]) (fun x hx => by simp only [ud_ne hx]) 3125 hf
  have e : pot 0 = 34 := rfl
  rw [e]
  omega
/-- what is on the path is come to again -/
theorem DInv.cyc {f n : Nat} (H : DInv ok sb nx B s0 mk hr pk pa tu (k + 1)) (hn : n < 32) (ho : ok (pa k) n = true) (hf : nx (pa k) n = f) (hfB : f < B) (hm : mk f = 1) : Ev ok nx f := by
  obtain ⟨a1, a2, a3, a4, a5, a6, a7, a8, a9⟩ := H
  obtain ⟨j, hj, ej⟩ := a5 f hfB hm
  have key : ∀ m i, j ≤ i → i ≤ k → cnH ok nx m (pa i) := by
    intro m
    induction m with
    | zero => intro i _ _; exact trivial
    | succ m ih =>
      intro i h1 h2
      by_cases e : i = k
      · subst e
        exact ⟨n, hn, ho, by rw [hf, ← ej]; exact ih j (Nat.le_refl _) (by omega)⟩
      · obtain ⟨t, t1, t2, t3, t4⟩ := a6 i (by omega)
        exact ⟨t, t2, t3, by rw [t4]; exact ih (i + 1) (by omega) (by omega)⟩
  intro m
  rw [← ej]
  exact key m j (Nat.le_refl _) (by omega)
theorem DInv.start (h0 : s0 < B) (hsb : sb s0 0 = true) : DInv ok sb nx B s0 (ud (fun _ => 0) s0 1) (fun _ => 0) (fun _ => -1) (fun _ => s0) (fun _ => 0) 1 := by
  refine ⟨fun s => ?_, ⟨h0, by rw [ud_eq]; omega⟩, fun j hj => ⟨h0, ud_eq⟩, fun i j hi hj _ => by omega, fun s hs hm => ⟨0, by omega, ?_⟩, fun j hj => by omega, fun j hj => ?_, fun s hs hm => ?_, fun s hs hm x hx => absurd (show (-1 : Int) = x from hx) (by omega)⟩
  · by_cases e : s = s0
    · subst e; rw [ud_eq]; omega
    · rw [ud_ne e]; omega
  · by_cases e : s = s0
    · exact e.symm
    · rw [ud_ne e] at hm; cases hm
  · exact Or.inr ⟨0, 0, rfl, ⟨fun y hy => absurd hy (by omega), Or.inl ⟨rfl, rfl⟩⟩, Or.inr ⟨rfl, by omega, hsb⟩⟩
  · by_cases e : s = s0
    · rw [e, ud_eq] at hm; cases hm
    · rw [ud_ne e] at hm; cases hm
theorem mu_le {mk : Nat → Nat} : mu mk (fun _ => 0) 1 ≤ 150000 := by
  unfold mu
  have := cntP_le (fun s => decide (mk s = 0)) 3125
  have e : sumN (fun _ => pot 0) 1 = 34 := rfl
  rw [e]
  omega
theorem mu_pos {dp : Nat} (h : dp ≠ 0) (ht : ∀ j, j < dp → tu j < 33) : 0 < mu mk tu dp := by
  obtain ⟨k, rfl⟩ : ∃ k, dp = k + 1 := ⟨dp - 1, by omega⟩
  unfold mu
  rw [sumN_s]
  have := ht k (by omega)
  have : 0 < pot (tu k) := by unfold pot; split <;> omega
  omega
end DF
