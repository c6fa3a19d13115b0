/-! how long enough hands can be held -/
section HP
variable (ok : Nat → Nat → Bool) (nx : Nat → Nat → Nat)
/-- n hours can be held -/
def cnH : Nat → Nat → Prop
  | 0, _ => True
  | n + 1, s => ∃ set, set < 32 ∧ ok s set = true ∧ cnH n (nx s set)
theorem cnH_mono : ∀ n s, cnH ok nx (n + 1) s → cnH ok nx n s
  | 0, _, _ => trivial
  | n + 1, s, h => by
    obtain ⟨set, a, b, c⟩ := h
    exact ⟨set, a, b, cnH_mono n _ c⟩
theorem cnH_le {n s : Nat} : ∀ k, cnH ok nx (n + k) s → cnH ok nx n s
  | 0, h => h
  | k + 1, h => cnH_le k (cnH_mono ok nx _ s h)
/-- n hours, and not more -/
def Vl (s m : Nat) : Prop := cnH ok nx m s ∧ ¬ cnH ok nx (m + 1) s
/-- for ever -/
def Ev (s : Nat) : Prop := ∀ n, cnH ok nx n s
theorem Vl_un {s m k : Nat} (h : Vl ok nx s m) (h2 : Vl ok nx s k) : m = k := by
  rcases Nat.lt_trichotomy m k with q | q | q
  · exact absurd (cnH_le ok nx (n := m + 1) (k - (m + 1)) (by rw [show m + 1 + (k - (m + 1)) = k by omega]; exact h2.1)) h.2
  · exact q
  · exact absurd (cnH_le ok nx (n := k + 1) (m - (k + 1)) (by rw [show k + 1 + (m - (k + 1)) = m by omega]; exact h.1)) h2.2
theorem Vl_ev {s m : Nat} (h : Vl ok nx s m) (h2 : Ev ok nx s) : False := h.2 (h2 _)
/-- the rank: hours, or 268435456 for ever -/
def RkP (s v : Nat) : Prop := (v < 3125 ∧ Vl ok nx s v) ∨ (v = 268435456 ∧ Ev ok nx s)
theorem RkP_un {s v w : Nat} (h : RkP ok nx s v) (h2 : RkP ok nx s w) : v = w := by
  rcases h with ⟨a, b⟩ | ⟨a, b⟩ <;> rcases h2 with ⟨c, e⟩ | ⟨c, e⟩
  · exact Vl_un ok nx b e
  · exact (Vl_ev ok nx b e).elim
  · exact (Vl_ev ok nx e b).elim
  · omega
noncomputable def rkf (s : Nat) : Nat := Classical.epsilon (fun v => RkP ok nx s v)
theorem rkf_of {s v : Nat} (h : RkP ok nx s v) : rkf ok nx s = v := RkP_un ok nx (Classical.epsilon_spec (p := fun v => RkP ok nx s v) ⟨v, h⟩) h
/-- what a set brings, by ranks -/
def hbN (f : Nat → Nat) (s set : Nat) : Nat := if ok s set = true then (if f (nx s set) = 268435456 then 268435456 else f (nx s set) + 1) else 0
/-- the first set below n with a property, or n -/
def fst (p : Nat → Bool) : Nat → Nat
  | 0 => 0
  | n + 1 => if fst p n < n then fst p n else if p n = true then n else n + 1
theorem fst_le (p : Nat → Bool) : ∀ n, fst p n ≤ n ∧ (∀ x, x < fst p n → p x = false) ∧ (fst p n < n → p (fst p n) = true)
  | 0 => ⟨Nat.le_refl _, fun x hx => absurd hx (by simp [fst]), fun h => absurd h (by simp [fst])⟩
  | n + 1 => by
    obtain ⟨a, b, c⟩ := fst_le p n
    simp only [fst]
    by_cases q : fst p n < n
    · rw [if_pos q]
      exact ⟨by omega, b, fun _ => c q⟩
    · rw [if_neg q]
      have e : fst p n = n := by omega
      by_cases q2 : p n = true
      · rw [if_pos q2]
        refine ⟨by omega, fun x hx => b x (by omega), fun _ => q2⟩
      · rw [if_neg q2]
        refine ⟨Nat.le_refl _, fun x hx => ?_, fun h => absurd h (by omega)⟩
        by_cases ex : x = n
        · rw [ex]; simpa using q2
        · exact b x (by omega)
theorem fst_eq {p : Nat → Bool} {n k : Nat} (hk : k < n) (h1 : p k = true) (h2 : ∀ x, x < k → p x = false) : fst p n = k := by
  obtain ⟨a, b, c⟩ := fst_le p n
  rcases Nat.lt_trichotomy (fst p n) k with q | q | q
  · have := c (by omega)
    rw [h2 _ q] at this; cases this
  · exact q
  · have := b k q
    rw [h1] at this; cases this
/-- the first set that holds longest -/
noncomputable def nS (s : Nat) : Nat := fst (fun set => ok s set && decide (hbN ok nx (rkf ok nx) s set = rkf ok nx s)) 32
/-- who holds in the i-th hour -/
noncomputable def rosI : Nat → Nat → Int
  | 0, s => if rkf ok nx s = 0 then -1 else (nS ok nx s : Int)
  | i + 1, s => if rkf ok nx s = 0 then -1 else rosI i (nx s (nS ok nx s))
/-- the hours told -/
noncomputable def hldI (s : Nat) : Int := if rkf ok nx s = 268435456 then -1 else (rkf ok nx s : Int)
end HP
/-- ranks laid out over a list -/
def HvF (ok : Nat → Nat → Bool) (nx : Nat → Nat → Nat) (l : List Nat) (f : Nat → Nat) : Prop := ∀ s, s ∈ l → RkP ok nx s (f s)
def cF (f : Nat → Nat) (l : List Nat) : Nat := sumL (fun s => if f s = 268435456 then 1 else 0) l
theorem sumL_len {g : Nat → Nat} (h : ∀ s, g s ≤ 1) : ∀ l, sumL g l ≤ l.length
  | [] => by simp [sumL]
  | x :: l => by
    have := sumL_len h l
    have := h x
    have e : sumL g (x :: l) = g x + sumL g l := by simp [sumL]
    rw [e, List.length_cons]
    omega
theorem sumL_congr {f g : Nat → Nat} : ∀ {l : List Nat}, (∀ s, s ∈ l → f s = g s) → sumL f l = sumL g l
  | [], _ => rfl
  | x :: l, h => by
    have e1 : sumL f (x :: l) = f x + sumL f l := by simp [sumL]
    have e2 : sumL g (x :: l) = g x + sumL g l := by simp [sumL]
    rw [e1, e2, h x List.mem_cons_self, sumL_congr (fun s hs => h s (List.mem_cons_of_mem _ hs))]
theorem sumL_mem {g : Nat → Nat} : ∀ {l : List Nat} {s : Nat}, s ∈ l → g s ≤ sumL g l
  | x :: l, s, h => by
    have e : sumL g (x :: l) = g x + sumL g l := by simp [sumL]
    rw [e]
    rcases List.mem_cons.mp h with q | q
    · rw [q]; omega
    · have := sumL_mem (g := g) q
      omega
/-- what the laying of hours keeps -/
def HI (ok : Nat → Nat → Bool) (nx : Nat → Nat → Nat) (l : List Nat) (f : Nat → Nat) : Prop := ∀ s, s ∈ l → f s ≠ 268435456 → Vl ok nx s (f s) ∧ f s + cF f l < l.length
/-- the most that sets below n bring -/
def mst (ok : Nat → Nat → Bool) (nx : Nat → Nat → Nat) (f : Nat → Nat) (s : Nat) : Nat → Nat
  | 0 => 0
  | n + 1 => max (mst ok nx f s n) (hbN ok nx f s n)
theorem mst_ge {ok : Nat → Nat → Bool} {nx : Nat → Nat → Nat} {f : Nat → Nat} {s : Nat} : ∀ n x, x < n → hbN ok nx f s x ≤ mst ok nx f s n
  | 0, x, h => absurd h (by omega)
  | n + 1, x, h => by
    simp only [mst]
    by_cases e : x = n
    · rw [e]; omega
    · have := mst_ge (ok := ok) (nx := nx) (f := f) (s := s) n x (by omega)
      omega
theorem mst_at {ok : Nat → Nat → Bool} {nx : Nat → Nat → Nat} {f : Nat → Nat} {s : Nat} : ∀ n, mst ok nx f s n = 0 ∨ ∃ x, x < n ∧ hbN ok nx f s x = mst ok nx f s n
  | 0 => Or.inl rfl
  | n + 1 => by
    simp only [mst]
    rcases Nat.le_total (mst ok nx f s n) (hbN ok nx f s n) with q | q
    · rw [Nat.max_eq_right q]; exact Or.inr ⟨n, by omega, rfl⟩
    · rw [Nat.max_eq_left q]
      rcases mst_at (ok := ok) (nx := nx) (f := f) (s := s) n with h | ⟨x, h1, h2⟩
      · exact Or.inl h
      · exact Or.inr ⟨x, by omega, h2⟩
theorem HI.vl {ok : Nat → Nat → Bool} {nx : Nat → Nat → Nat} {l : List Nat} {f : Nat → Nat} (hc : ∀ t set, t ∈ l → set < 32 → ok t set = true → nx t set ∈ l) (h : HI ok nx l f) (hF : ∀ s, s ∈ l → f s ≤ 268435456) {s : Nat} (hs : s ∈ l) (hm : mst ok nx f s 32 ≠ 268435456) : Vl ok nx s (mst ok nx f s 32) := by
  have hge := mst_ge (ok := ok) (nx := nx) (f := f) (s := s) 32
  have hfin : ∀ x, x < 32 → ok s x = true → f (nx s x) ≠ 268435456 → hbN ok nx f s x = f (nx s x) + 1 := by
    intro x hx hox hne
    unfold hbN
    rw [if_pos hox, if_neg hne]
  have hle : mst ok nx f s 32 ≤ 268435456 := by
    rcases mst_at (ok := ok) (nx := nx) (f := f) (s := s) 32 with e | ⟨x, hx, e⟩
    · omega
    · rw [← e]
      unfold hbN
      by_cases qo : ok s x = true
      · rw [if_pos qo]
        have := hF _ (hc s x hs hx qo)
        split <;> omega
      · rw [if_neg qo]; omega
  have hne : ∀ x, x < 32 → ok s x = true → f (nx s x) ≠ 268435456 := by
    intro x hx hox e
    have := hge x hx
    unfold hbN at this
    rw [if_pos hox, if_pos e] at this
    omega
  constructor
  · rcases mst_at (ok := ok) (nx := nx) (f := f) (s := s) 32 with e | ⟨x, hx, e⟩
    · rw [e]; trivial
    · by_cases qo : ok s x = true
      · have e2 := hfin x hx qo (hne x hx qo)
        rw [← e, e2]
        exact ⟨x, hx, qo, (h _ (hc s x hs hx qo) (hne x hx qo)).1.1⟩
      · unfold hbN at e
        rw [if_neg qo] at e
        rw [← e]; trivial
  · rintro ⟨x, hx, hox, hcn⟩
    have e2 := hfin x hx hox (hne x hx hox)
    have := hge x hx
    have hv := (h _ (hc s x hs hx hox) (hne x hx hox)).1.2
    exact hv (cnH_le ok nx (n := f (nx s x) + 1) (mst ok nx f s 32 - (f (nx s x) + 1)) (by rw [show f (nx s x) + 1 + (mst ok nx f s 32 - (f (nx s x) + 1)) = mst ok nx f s 32 by omega]; exact hcn))
theorem HI.upd {ok : Nat → Nat → Bool} {nx : Nat → Nat → Nat} {l : List Nat} {f : Nat → Nat} (hn : l.Nodup) (hc : ∀ t set, t ∈ l → set < 32 → ok t set = true → nx t set ∈ l) (h : HI ok nx l f) (hF : ∀ s, s ∈ l → f s ≤ 268435456) (hl : l.length ≤ 3125) {s : Nat} (hs : s ∈ l) (hfs : f s = 268435456) (hm : mst ok nx f s 32 ≠ 268435456) : HI ok nx l (fun x => if x = s then mst ok nx f s 32 else f x) ∧ cF (fun x => if x = s then mst ok nx f s 32 else f x) l < cF f l ∧ mst ok nx f s 32 < 3125 := by
  have hv := h.vl hc hF hs hm
  have hcF : cF (fun x => if x = s then mst ok nx f s 32 else f x) l + 1 = cF f l := by
    have e := sumL_upd (f := fun x => if f x = 268435456 then 1 else 0) (s := s) (v := 0) hn
    rw [if_pos hs, if_pos hs, if_pos hfs, Nat.add_zero] at e
    unfold cF
    rw [← e]
    congr 1
    refine sumL_congr (fun x _ => ?_)
    by_cases q : x = s
    · simp only [if_pos q, if_neg hm]
    · simp only [if_neg q]
  have hlen : cF f l ≤ l.length := sumL_len (fun s => by split <;> omega) l
  have hml : mst ok nx f s 32 + cF f l ≤ l.length := by
    rcases mst_at (ok := ok) (nx := nx) (f := f) (s := s) 32 with e | ⟨x, hx, e⟩
    · omega
    · rw [← e]
      unfold hbN at e ⊢
      by_cases qo : ok s x = true
      · rw [if_pos qo] at e ⊢
        by_cases q2 : f (nx s x) = 268435456
        · rw [if_pos q2] at e; exact absurd e.symm hm
        · rw [if_neg q2]
          have := (h _ (hc s x hs hx qo) q2).2
          omega
      · rw [if_neg qo]; omega
  refine ⟨fun x hx hne => ?_, by omega, by omega⟩
  by_cases q : x = s
  · subst q
    simp only [if_true] at hne ⊢
    exact ⟨hv, by omega⟩
  · simp only [if_neg q] at hne ⊢
    have := h x hx hne
    exact ⟨this.1, by omega⟩
theorem HI.done {ok : Nat → Nat → Bool} {nx : Nat → Nat → Nat} {l : List Nat} {f : Nat → Nat} (hc : ∀ t set, t ∈ l → set < 32 → ok t set = true → nx t set ∈ l) (h : HI ok nx l f) (hl : l.length ≤ 3125) (hS : ∀ s, s ∈ l → f s = 268435456 → mst ok nx f s 32 = 268435456) : HvF ok nx l f := by
  have hev : ∀ n s, s ∈ l → f s = 268435456 → cnH ok nx n s := by
    intro n
    induction n with
    | zero => intro s _ _; trivial
    | succ n ih =>
      intro s hs hf
      have e := hS s hs hf
      rcases mst_at (ok := ok) (nx := nx) (f := f) (s := s) 32 with a | ⟨x, hx, a⟩
      · omega
      · rw [e] at a
        unfold hbN at a
        by_cases qo : ok s x = true
        · rw [if_pos qo] at a
          have ht := hc s x hs hx qo
          by_cases q2 : f (nx s x) = 268435456
          · exact ⟨x, hx, qo, ih _ ht q2⟩
          · rw [if_neg q2] at a
            have := (h _ ht q2).2
            omega
        · rw [if_neg qo] at a; omega
  intro s hs
  by_cases q : f s = 268435456
  · exact Or.inr ⟨q, fun n => hev n s hs q⟩
  · have := h s hs q
    exact Or.inl ⟨by omega, this.1⟩
