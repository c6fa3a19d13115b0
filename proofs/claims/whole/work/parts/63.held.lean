/-! how long enough hands can be held -/
section HP
variable (ok : Nat → Nat → Bool) (nx : Nat → Nat → Nat)
/-- n hours can be held -/
def cnH : Nat → Nat → Prop
  | 0, _ => True
  | n + 1, s => ∃ set, set < 32 ∧ ok s set = true ∧ cnH n (nx s set)
theorem cnH_mono : ∀ n s, cnH ok nx (n + 1) s → cnH ok nx n s
  | 0, _, _ => trivial
  | n + 1, s, h => by
    obtain ⟨set, a, b, c⟩ := h
    exact ⟨set, a, b, cnH_mono n _ c⟩
theorem cnH_le {n s : Nat} : ∀ k, cnH ok nx (n + k) s → cnH ok nx n s
  | 0, h => h
  | k + 1, h => cnH_le k (cnH_mono ok nx _ s h)
/-- n hours, and not more -/
def Vl (s m : Nat) : Prop := cnH ok nx m s ∧ ¬ cnH ok nx (m + 1) s
/-- for ever -/
def Ev (s : Nat) : Prop := ∀ n, cnH ok nx n s
theorem Vl_un {s m k : Nat} (h : Vl ok nx s m) (h2 : Vl ok nx s k) : m = k := by
  rcases Nat.lt_trichotomy m k with q | q | q
  · exact absurd (cnH_le ok nx (n := m + 1) (k - (m + 1)) (by rw [show m + 1 + (k - (m + 1)) = k by omega]; exact h2.1)) h.2
  · exact q
  · exact absurd (cnH_le ok nx (n := k + 1) (m - (k + 1)) (by rw [show k + 1 + (m - (k + 1)) = m by omega]; exact h.1)) h2.2
theorem Vl_ev {s m : Nat} (h : Vl ok nx s m) (h2 : Ev ok nx s) : False := h.2 (h2 _)
/-- the rank: hours, or 268435456 for ever -/
def RkP (s v : Nat) : Prop := (v < 3125 ∧ Vl ok nx s v) ∨ (v = 268435456 ∧ Ev ok nx s)
/-- what a set brings, by ranks -/
def hbN (f : Nat → Nat) (s set : Nat) : Nat := if ok s set = true then (if f (nx s set) = 268435456 then 268435456 else f (nx s set) + 1) else 0
/-- the first of the sets below n that hold longest, h hours -/
def PkF (s h : Nat) (p : Int) (n : Nat) : Prop := (∀ y, y < n → ok s y = true → ∃ w, Vl ok nx (nx s y) w ∧ w + 1 ≤ h) ∧ ((h = 0 ∧ p = -1) ∨ ∃ x : Nat, p = x ∧ x < n ∧ ok s x = true ∧ (∃ w, Vl ok nx (nx s x) w ∧ w + 1 = h) ∧ ∀ y, y < x → ok s y = true → ∃ w, Vl ok nx (nx s y) w ∧ w + 1 < h)
/-- the first set that holds for ever -/
def PkE (s : Nat) (p : Int) : Prop := ∃ x : Nat, p = x ∧ x < 32 ∧ ok s x = true ∧ Ev ok nx (nx s x) ∧ ∀ y, y < x → ok s y = true → ∃ w, Vl ok nx (nx s y) w
def PkS (s : Nat) (p : Int) : Prop := PkE ok nx s p ∨ ∃ h, PkF ok nx s h p 32
noncomputable def pkI (s : Nat) : Int := Classical.epsilon (fun p => PkS ok nx s p)
/-- who holds in the i-th hour -/
noncomputable def rosI : Nat → Nat → Int
  | 0, s => pkI ok nx s
  | i + 1, s => if pkI ok nx s = -1 then -1 else rosI i (nx s (pkI ok nx s).toNat)
/-- the hours told -/
noncomputable def hldI (s : Nat) : Int := Classical.epsilon (fun r : Int => (∃ v : Nat, r = v ∧ Vl ok nx s v) ∨ (r = -1 ∧ Ev ok nx s))
end HP
section HPP
variable {ok : Nat → Nat → Bool} {nx : Nat → Nat → Nat}
theorem VE (s : Nat) : Ev ok nx s ∨ ∃ v, Vl ok nx s v := by
  by_cases q : ∃ n, ¬ cnH ok nx n s
  · obtain ⟨n, hn⟩ := q
    obtain ⟨m, m1, m2, m3⟩ := least_of (Pr := fun n => ¬ cnH ok nx n s) hn
    cases m with
    | zero => exact absurd trivial m2
    | succ k => exact Or.inr ⟨k, Classical.not_not.mp (m3 k (by omega)), m2⟩
  · exact Or.inl (fun n => Classical.not_not.mp (fun h => q ⟨n, h⟩))
theorem PkF.vl {s h : Nat} {p : Int} (H : PkF ok nx s h p 32) : Vl ok nx s h := by
  obtain ⟨a, b⟩ := H
  constructor
  · rcases b with ⟨rfl, _⟩ | ⟨x, _, x1, x2, ⟨w, w1, w2⟩, _⟩
    · exact trivial
    · rw [← w2]; exact ⟨x, x1, x2, w1.1⟩
  · rintro ⟨y, y1, y2, y3⟩
    obtain ⟨w, w1, w2⟩ := a y y1 y2
    exact w1.2 (cnH_le ok nx (n := w + 1) (h - (w + 1)) (by rw [show w + 1 + (h - (w + 1)) = h by omega]; exact y3))
theorem PkE.ev {s : Nat} {p : Int} (H : PkE ok nx s p) : Ev ok nx s := by
  obtain ⟨x, _, x1, x2, x3, _⟩ := H
  intro n
  cases n with
  | zero => exact trivial
  | succ n => exact ⟨x, x1, x2, x3 n⟩
theorem PkS_un {s : Nat} {p q : Int} (h1 : PkS ok nx s p) (h2 : PkS ok nx s q) : p = q := by
  rcases h1 with a | ⟨h, a⟩ <;> rcases h2 with b | ⟨k, b⟩
  · obtain ⟨x, rfl, x1, x2, x3, x4⟩ := a
    obtain ⟨y, rfl, y1, y2, y3, y4⟩ := b
    rcases Nat.lt_trichotomy x y with q | q | q
    · obtain ⟨w, hw⟩ := y4 x q x2
      exact (Vl_ev ok nx hw x3).elim
    · rw [q]
    · obtain ⟨w, hw⟩ := x4 y q y2
      exact (Vl_ev ok nx hw y3).elim
  · exact (Vl_ev ok nx b.vl a.ev).elim
  · exact (Vl_ev ok nx a.vl b.ev).elim
  · have e : h = k := Vl_un ok nx a.vl b.vl
    subst e
    rcases a.2 with ⟨a1, rfl⟩ | ⟨x, rfl, x1, x2, ⟨w, w1, w2⟩, x4⟩ <;> rcases b.2 with ⟨b1, rfl⟩ | ⟨y, rfl, y1, y2, ⟨v, v1, v2⟩, y4⟩
    · rfl
    · omega
    · omega
    · rcases Nat.lt_trichotomy x y with q | q | q
      · obtain ⟨u, u1, u2⟩ := y4 x q x2
        have := Vl_un ok nx u1 w1
        omega
      · rw [q]
      · obtain ⟨u, u1, u2⟩ := x4 y q y2
        have := Vl_un ok nx u1 v1
        omega
theorem PkS_ex (s : Nat) : ∃ p, PkS ok nx s p := by
  have hW : ∀ n, ∃ W, ∀ y, y < n → ∀ w, Vl ok nx (nx s y) w → w ≤ W := by
    intro n
    induction n with
    | zero => exact ⟨0, fun y hy => absurd hy (by omega)⟩
    | succ n ih =>
      obtain ⟨W, hW⟩ := ih
      by_cases q : ∃ v, Vl ok nx (nx s n) v
      · obtain ⟨v, hv⟩ := q
        refine ⟨W + v, fun y hy w hw => ?_⟩
        by_cases e : y = n
        · subst e
          have := Vl_un ok nx hw hv
          omega
        · have := hW y (by omega) w hw
          omega
      · refine ⟨W, fun y hy w hw => ?_⟩
        by_cases e : y = n
        · subst e; exact absurd ⟨w, hw⟩ q
        · exact hW y (by omega) w hw
  rcases VE (ok := ok) (nx := nx) s with he | ⟨v, hv⟩
  · obtain ⟨W, hW⟩ := hW 32
    have h3 : ∃ set, set < 32 ∧ ok s set = true ∧ cnH ok nx (W + 1) (nx s set) := he (W + 1 + 1)
    obtain ⟨x, x1, x2, x3⟩ := h3
    have xe : Ev ok nx (nx s x) := by
      rcases VE (ok := ok) (nx := nx) (nx s x) with h | ⟨w, hw⟩
      · exact h
      · have := hW x x1 w hw
        exact (hw.2 (cnH_le ok nx (n := w + 1) (W - w) (by rw [show w + 1 + (W - w) = W + 1 by omega]; exact x3))).elim
    obtain ⟨m, m1, m2, m3⟩ := least_of (Pr := fun x => ok s x = true ∧ Ev ok nx (nx s x)) ⟨x2, xe⟩
    refine ⟨m, Or.inl ⟨m, rfl, by omega, m2.1, m2.2, fun y hy hyo => ?_⟩⟩
    rcases VE (ok := ok) (nx := nx) (nx s y) with h | h
    · exact absurd ⟨hyo, h⟩ (m3 y hy)
    · exact h
  · have hall : ∀ y, y < 32 → ok s y = true → ∃ w, Vl ok nx (nx s y) w ∧ w + 1 ≤ v := by
      intro y hy hyo
      rcases VE (ok := ok) (nx := nx) (nx s y) with h | ⟨w, hw⟩
      · exact (hv.2 ⟨y, hy, hyo, h v⟩).elim
      · refine ⟨w, hw, ?_⟩
        rcases Nat.lt_or_ge w v with q | q
        · omega
        · exact (hv.2 ⟨y, hy, hyo, cnH_le ok nx (n := v) (w - v) (by rw [show v + (w - v) = w by omega]; exact hw.1)⟩).elim
    cases v with
    | zero => exact ⟨-1, Or.inr ⟨0, hall, Or.inl ⟨rfl, rfl⟩⟩⟩
    | succ k =>
      obtain ⟨x, x1, x2, x3⟩ := hv.1
      obtain ⟨m, m1, m2, m3⟩ := least_of (Pr := fun x => ok s x = true ∧ cnH ok nx k (nx s x)) ⟨x2, x3⟩
      obtain ⟨w, w1, w2⟩ := hall m (by omega) m2.1
      refine ⟨m, Or.inr ⟨k + 1, hall, Or.inr ⟨m, rfl, by omega, m2.1, ⟨w, w1, ?_⟩, fun y hy hyo => ?_⟩⟩⟩
      · rcases Nat.lt_or_ge w k with q | q
        · exact (w1.2 (cnH_le ok nx (n := w + 1) (k - (w + 1)) (by rw [show w + 1 + (k - (w + 1)) = k by omega]; exact m2.2))).elim
        · omega
      · obtain ⟨u, u1, u2⟩ := hall y (by omega) hyo
        refine ⟨u, u1, ?_⟩
        rcases Nat.lt_or_ge u k with q | q
        · omega
        · exact absurd ⟨hyo, cnH_le ok nx (n := k) (u - k) (by rw [show k + (u - k) = u by omega]; exact u1.1)⟩ (m3 y hy)
theorem pkI_S (s : Nat) : PkS ok nx s (pkI ok nx s) := Classical.epsilon_spec (PkS_ex s)
theorem pkI_of {s : Nat} {p : Int} (h : PkS ok nx s p) : pkI ok nx s = p := PkS_un (pkI_S s) h
theorem hldI_S (s : Nat) : (∃ v : Nat, hldI ok nx s = v ∧ Vl ok nx s v) ∨ (hldI ok nx s = -1 ∧ Ev ok nx s) := by
  refine Classical.epsilon_spec (p := fun r : Int => (∃ v : Nat, r = v ∧ Vl ok nx s v) ∨ (r = -1 ∧ Ev ok nx s)) ?_
  rcases VE (ok := ok) (nx := nx) s with h | ⟨v, hv⟩
  · exact ⟨-1, Or.inr ⟨rfl, h⟩⟩
  · exact ⟨v, Or.inl ⟨v, rfl, hv⟩⟩
theorem hldI_v {s v : Nat} (h : Vl ok nx s v) : hldI ok nx s = v := by
  rcases hldI_S (ok := ok) (nx := nx) s with ⟨w, e, hw⟩ | ⟨e, he⟩
  · rw [e, Vl_un ok nx hw h]
  · exact (Vl_ev ok nx h he).elim
theorem hldI_e {s : Nat} (h : Ev ok nx s) : hldI ok nx s = -1 := by
  rcases hldI_S (ok := ok) (nx := nx) s with ⟨w, e, hw⟩ | ⟨e, he⟩
  · exact (Vl_ev ok nx hw h).elim
  · exact e
/-- what is the same in a picture of the states -/
theorem cnH_hom {nx' : Nat → Nat → Nat} {π : Nat → Nat} (h1 : ∀ s set, ok (π s) set = ok s set) (h2 : ∀ s set, nx' (π s) set = π (nx s set)) : ∀ n s, cnH ok nx' n (π s) ↔ cnH ok nx n s
  | 0, _ => Iff.rfl
  | n + 1, s => by
    simp only [cnH]
    refine ⟨fun ⟨x, a, b, c⟩ => ⟨x, a, by rw [← h1]; exact b, ?_⟩, fun ⟨x, a, b, c⟩ => ⟨x, a, by rw [h1]; exact b, ?_⟩⟩
    · rw [h2] at c; exact (cnH_hom h1 h2 n _).mp c
    · rw [h2]; exact (cnH_hom h1 h2 n _).mpr c
theorem Vl_hom {nx' : Nat → Nat → Nat} {π : Nat → Nat} (h1 : ∀ s set, ok (π s) set = ok s set) (h2 : ∀ s set, nx' (π s) set = π (nx s set)) (s v : Nat) : Vl ok nx' (π s) v ↔ Vl ok nx s v := by
  unfold Vl
  rw [cnH_hom h1 h2, cnH_hom h1 h2]
theorem Ev_hom {nx' : Nat → Nat → Nat} {π : Nat → Nat} (h1 : ∀ s set, ok (π s) set = ok s set) (h2 : ∀ s set, nx' (π s) set = π (nx s set)) (s : Nat) : Ev ok nx' (π s) ↔ Ev ok nx s := by
  unfold Ev
  exact forall_congr' (fun n => cnH_hom h1 h2 n s)
theorem hldI_hom {nx' : Nat → Nat → Nat} {π : Nat → Nat} (h1 : ∀ s set, ok (π s) set = ok s set) (h2 : ∀ s set, nx' (π s) set = π (nx s set)) (s : Nat) : hldI ok nx' (π s) = hldI ok nx s := by
  rcases VE (ok := ok) (nx := nx) s with h | ⟨v, hv⟩
  · rw [hldI_e h, hldI_e ((Ev_hom h1 h2 s).mpr h)]
  · rw [hldI_v hv, hldI_v ((Vl_hom h1 h2 s v).mpr hv)]
theorem pkI_hom {nx' : Nat → Nat → Nat} {π : Nat → Nat} (h1 : ∀ s set, ok (π s) set = ok s set) (h2 : ∀ s set, nx' (π s) set = π (nx s set)) (s : Nat) : pkI ok nx' (π s) = pkI ok nx s := by
  refine pkI_of ?_
  rcases pkI_S (ok := ok) (nx := nx) s with ⟨x, a, b, c, e, f⟩ | ⟨h, a, b⟩
  · refine Or.inl ⟨x, a, b, by rw [h1]; exact c, by rw [h2]; exact (Ev_hom h1 h2 _).mpr e, fun y hy hyo => ?_⟩
    obtain ⟨w, hw⟩ := f y hy (by rw [← h1]; exact hyo)
    exact ⟨w, by rw [h2]; exact (Vl_hom h1 h2 _ _).mpr hw⟩
  · refine Or.inr ⟨h, fun y hy hyo => ?_, ?_⟩
    · obtain ⟨w, hw, hw2⟩ := a y hy (by rw [← h1]; exact hyo)
      exact ⟨w, by rw [h2]; exact (Vl_hom h1 h2 _ _).mpr hw, hw2⟩
    · rcases b with b | ⟨x, b1, b2, b3, ⟨w, w1, w2⟩, b5⟩
      · exact Or.inl b
      · refine Or.inr ⟨x, b1, b2, by rw [h1]; exact b3, ⟨w, by rw [h2]; exact (Vl_hom h1 h2 _ _).mpr w1, w2⟩, fun y hy hyo => ?_⟩
        obtain ⟨w, hw, hw2⟩ := b5 y hy (by rw [← h1]; exact hyo)
        exact ⟨w, by rw [h2]; exact (Vl_hom h1 h2 _ _).mpr hw, hw2⟩
theorem rosI_hom {nx' : Nat → Nat → Nat} {π : Nat → Nat} (h1 : ∀ s set, ok (π s) set = ok s set) (h2 : ∀ s set, nx' (π s) set = π (nx s set)) : ∀ i s, rosI ok nx' i (π s) = rosI ok nx i s
  | 0, s => pkI_hom h1 h2 s
  | i + 1, s => by
    simp only [rosI]
    rw [pkI_hom h1 h2, h2, rosI_hom h1 h2 i]
/-- hours, if not for ever, are fewer than the states -/
theorem Vl_bound {l : List Nat} (hc : ∀ t set, t ∈ l → set < 32 → ok t set = true → nx t set ∈ l) {s v : Nat} (hs : s ∈ l) (h : Vl ok nx s v) : v < l.length := by
  have key : ∀ v s, s ∈ l → Vl ok nx s v → ∃ c : Nat → Nat, ∀ k, k ≤ v → c k ∈ l ∧ Vl ok nx (c k) (v - k) := by
    intro v
    induction v with
    | zero => intro s hs h; exact ⟨fun _ => s, fun k hk => ⟨hs, by rw [Nat.zero_sub]; exact h⟩⟩
    | succ v ih =>
      intro s hs h
      obtain ⟨x, x1, x2, x3⟩ := h.1
      have hv : Vl ok nx (nx s x) v := ⟨x3, fun h4 => h.2 ⟨x, x1, x2, h4⟩⟩
      obtain ⟨c, hc'⟩ := ih _ (hc s x hs x1 x2) hv
      refine ⟨fun k => match k with
        | 0 => s
        | k + 1 => c k, fun k hk => ?_⟩
      cases k with
      | zero => exact ⟨hs, h⟩
      | succ k =>
        rw [show v + 1 - (k + 1) = v - k by omega]
        exact hc' k (by omega)
  obtain ⟨c, hcc⟩ := key v s hs h
  have hn : ((List.range (v + 1)).map c).Nodup := map_nodup (fun i j hi hj e => by
    have h1 := (hcc i (by omega)).2
    rw [e] at h1
    have := Vl_un ok nx h1 (hcc j (by omega)).2
    omega)
  have := len_sub _ l hn (fun x hx => by
    obtain ⟨k, hk, e⟩ := List.mem_map.mp hx
    rw [← e]
    exact (hcc k (by have := List.mem_range.mp hk; omega)).1)
  rw [List.length_map, List.length_range] at this
  omega
end HPP
/-- ranks laid out over a list -/
def HvF (ok : Nat → Nat → Bool) (nx : Nat → Nat → Nat) (l : List Nat) (f : Nat → Nat) : Prop := ∀ s, s ∈ l → RkP ok nx s (f s)
def cF (f : Nat → Nat) (l : List Nat) : Nat := sumL (fun s => if f s = 268435456 then 1 else 0) l
theorem sumL_len {g : Nat → Nat} (h : ∀ s, g s ≤ 1) : ∀ l, sumL g l ≤ l.length
  | [] => by simp [sumL]
  | x :: l => by
    have := sumL_len h l
    have := h x
    have e : sumL g (x :: l) = g x + sumL g l := by simp [sumL]
    rw [e, List.length_cons]
    omega
theorem sumL_congr {f g : Nat → Nat} : ∀ {l : List Nat}, (∀ s, s ∈ l → f s = g s) → sumL f l = sumL g l
  | [], _ => rfl
  | x :: l, h => by
    have e1 : sumL f (x :: l) = f x + sumL f l := by simp [sumL]
    have e2 : sumL g (x :: l) = g x + sumL g l := by simp [sumL]
    rw [e1, e2, h x List.mem_cons_self, sumL_congr (fun s hs => h s (List.mem_cons_of_mem _ hs))]
theorem sumL_mem {g : Nat → Nat} : ∀ {l : List Nat} {s : Nat}, s ∈ l → g s ≤ sumL g l
  | x :: l, s, h => by
    have e : sumL g (x :: l) = g x + sumL g l := by simp [sumL]
    rw [e]
    rcases List.mem_cons.mp h with q | q
    · rw [q]; omega
    · have := sumL_mem (g := g) q
      omega
/-- what the laying of hours keeps -/
def HI (ok : Nat → Nat → Bool) (nx : Nat → Nat → Nat) (l : List Nat) (f : Nat → Nat) : Prop := ∀ s, s ∈ l → f s ≠ 268435456 → Vl ok nx s (f s) ∧ f s + cF f l < l.length
/-- the most that sets below n bring -/
def mst (ok : Nat → Nat → Bool) (nx : Nat → Nat → Nat) (f : Nat → Nat) (s : Nat) : Nat → Nat
  | 0 => 0
  | n + 1 => max (mst ok nx f s n) (hbN ok nx f s n)
theorem mst_ge {ok : Nat → Nat → Bool} {nx : Nat → Nat → Nat} {f : Nat → Nat} {s : Nat} : ∀ n x, x < n → hbN ok nx f s x ≤ mst ok nx f s n
  | 0, x, h => absurd h (by omega)
  | n + 1, x, h => by
    simp only [mst]
    by_cases e : x = n
    · rw [e]; omega
    · have := mst_ge (ok := ok) (nx := nx) (f := f) (s := s) n x (by omega)
      omega
theorem mst_at {ok : Nat → Nat → Bool} {nx : Nat → Nat → Nat} {f : Nat → Nat} {s : Nat} : ∀ n, mst ok nx f s n = 0 ∨ ∃ x, x < n ∧ hbN ok nx f s x = mst ok nx f s n
  | 0 => Or.inl rfl
  | n + 1 => by
    simp only [mst]
    rcases Nat.le_total (mst ok nx f s n) (hbN ok nx f s n) with q | q
    · rw [Nat.max_eq_right q]; exact Or.inr ⟨n, by omega, rfl⟩
    · rw [Nat.max_eq_left q]
      rcases mst_at (ok := ok) (nx := nx) (f := f) (s := s) n with h | ⟨x, h1, h2⟩
      · exact Or.inl h
      · exact Or.inr ⟨x, by omega, h2⟩
theorem HI.vl {ok : Nat → Nat → Bool} {nx : Nat → Nat → Nat} {l : List Nat} {f : Nat → Nat} (hc : ∀ t set, t ∈ l → set < 32 → ok t set = true → nx t set ∈ l) (h : HI ok nx l f) (hF : ∀ s, s ∈ l → f s ≤ 268435456) {s : Nat} (hs : s ∈ l) (hm : mst ok nx f s 32 ≠ 268435456) : Vl ok nx s (mst ok nx f s 32) := by
  have hge := mst_ge (ok := ok) (nx := nx) (f := f) (s := s) 32
  have hat := mst_at (ok := ok) (nx := nx) (f := f) (s := s) 32
  generalize mst ok nx f s 32 = m at hge hat hm ⊢
  have hfin : ∀ x, x < 32 → ok s x = true → f (nx s x) ≠ 268435456 → hbN ok nx f s x = f (nx s x) + 1 := by
    intro x hx hox hne
    unfold hbN
    rw [if_pos hox, if_neg hne]
  have hle : m ≤ 268435456 := by
    rcases hat with e | ⟨x, hx, e⟩
    · omega
    · rw [← e]
      unfold hbN
      by_cases qo : ok s x = true
      · rw [if_pos qo]
        have := hF _ (hc s x hs hx qo)
        split <;> omega
      · rw [if_neg qo]; omega
  have hne : ∀ x, x < 32 → ok s x = true → f (nx s x) ≠ 268435456 := by
    intro x hx hox e
    have := hge x hx
    unfold hbN at this
    rw [if_pos hox, if_pos e] at this
    omega
  constructor
  · rcases hat with e | ⟨x, hx, e⟩
    · rw [e]; exact True.intro
    · by_cases qo : ok s x = true
      · have e2 := hfin x hx qo (hne x hx qo)
        rw [← e, e2]
        exact ⟨x, hx, qo, (h _ (hc s x hs hx qo) (hne x hx qo)).1.1⟩
      · unfold hbN at e
        rw [if_neg qo] at e
        rw [← e]; exact True.intro
  · rintro ⟨x, hx, hox, hcn⟩
    have e2 := hfin x hx hox (hne x hx hox)
    have := hge x hx
    have hv := (h _ (hc s x hs hx hox) (hne x hx hox)).1.2
    exact hv (cnH_le ok nx (n := f (nx s x) + 1) (m - (f (nx s x) + 1)) (by rw [show f (nx s x) + 1 + (m - (f (nx s x) + 1)) = m by omega]; exact hcn))
theorem HI.upd {ok : Nat → Nat → Bool} {nx : Nat → Nat → Nat} {l : List Nat} {f : Nat → Nat} (hn : l.Nodup) (hc : ∀ t set, t ∈ l → set < 32 → ok t set = true → nx t set ∈ l) (h : HI ok nx l f) (hF : ∀ s, s ∈ l → f s ≤ 268435456) (hl : l.length ≤ 3125) {s : Nat} (hs : s ∈ l) (hfs : f s = 268435456) (hm : mst ok nx f s 32 ≠ 268435456) : HI ok nx l (fun x => if x = s then mst ok nx f s 32 else f x) ∧ cF (fun x => if x = s then mst ok nx f s 32 else f x) l < cF f l ∧ mst ok nx f s 32 < 3125 := by
  have hv := h.vl hc hF hs hm
  have hat := mst_at (ok := ok) (nx := nx) (f := f) (s := s) 32
  generalize mst ok nx f s 32 = m at hat hm hv ⊢
  have hcF : cF (fun x => if x = s then m else f x) l + 1 = cF f l := by
    have e := sumL_upd (f := fun x => if f x = 268435456 then 1 else 0) (s := s) (v := 0) hn
    rw [if_pos hs, if_pos hs, if_pos hfs] at e
    have e2 : sumL (fun x => if (if x = s then m else f x) = 268435456 then 1 else 0) l = sumL (fun x => if x = s then 0 else if f x = 268435456 then 1 else 0) l := by
      refine sumL_congr (fun x _ => ?_)
      by_cases q : x = s
      · simp only [if_pos q, if_neg hm]
      · simp only [if_neg q]
    unfold cF
    rw [e2]
    omega
  have hlen : cF f l ≤ l.length := sumL_len (fun s => by split <;> omega) l
  have hml : m + cF f l ≤ l.length := by
    rcases hat with e | ⟨x, hx, e⟩
    · omega
    · rw [← e]
      unfold hbN at e ⊢
      by_cases qo : ok s x = true
      · rw [if_pos qo] at e ⊢
        by_cases q2 : f (nx s x) = 268435456
        · rw [if_pos q2] at e; exact absurd e.symm hm
        · rw [if_neg q2]
          have := (h _ (hc s x hs hx qo) q2).2
          omega
      · rw [if_neg qo]; omega
  refine ⟨fun x hx hne => ?_, by omega, by omega⟩
  by_cases q : x = s
  · subst q
    simp only [if_true] at hne ⊢
    exact ⟨hv, by omega⟩
  · simp only [if_neg q] at hne ⊢
    have := h x hx hne
    exact ⟨this.1, by omega⟩
theorem HI.done {ok : Nat → Nat → Bool} {nx : Nat → Nat → Nat} {l : List Nat} {f : Nat → Nat} (hc : ∀ t set, t ∈ l → set < 32 → ok t set = true → nx t set ∈ l) (h : HI ok nx l f) (hl : l.length ≤ 3125) (hS : ∀ s, s ∈ l → f s = 268435456 → mst ok nx f s 32 = 268435456) : HvF ok nx l f := by
  have hev : ∀ n s, s ∈ l → f s = 268435456 → cnH ok nx n s := by
    intro n
    induction n with
    | zero => intro s _ _; exact True.intro
    | succ n ih =>
      intro s hs hf
      have e := hS s hs hf
      have hat := mst_at (ok := ok) (nx := nx) (f := f) (s := s) 32
      rw [e] at hat
      rcases hat with a | ⟨x, hx, a⟩
      · omega
      · unfold hbN at a
        by_cases qo : ok s x = true
        · rw [if_pos qo] at a
          have ht := hc s x hs hx qo
          by_cases q2 : f (nx s x) = 268435456
          · exact ⟨x, hx, qo, ih _ ht q2⟩
          · rw [if_neg q2] at a
            have := (h _ ht q2).2
            omega
        · rw [if_neg qo] at a; omega
  intro s hs
  by_cases q : f s = 268435456
  · exact Or.inr ⟨q, fun n => hev n s hs q⟩
  · have := h s hs q
    exact Or.inl ⟨by omega, this.1⟩
