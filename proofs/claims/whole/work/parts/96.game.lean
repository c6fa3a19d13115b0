/-! who holds out longer: pure -/
def sbM (m y : Nat) : Prop := y &&& (31 ^^^ m) = 0
def mnS (f : Nat → Int) (m : Nat) : Nat → Int
  | 0 => 268435456
  | n + 1 => if n &&& (31 ^^^ m) = 0 then (if f n < mnS f m n then f n else mnS f m n) else mnS f m n
def mxS (f : Nat → Int) (m : Nat) : Nat → Int
  | 0 => -268435456
  | n + 1 => if n &&& (31 ^^^ m) = 0 then (if mxS f m n < f n then f n else mxS f m n) else mxS f m n
theorem mnS_ge {f : Nat → Int} {m : Nat} {c : Int} (hc : c ≤ 268435456) : ∀ n, (c ≤ mnS f m n ↔ ∀ y, y < n → sbM m y → c ≤ f y)
  | 0 => by
    simp only [mnS]
    exact ⟨fun _ y hy => absurd hy (by omega), fun _ => hc⟩
  | n + 1 => by
    have ih := mnS_ge (f := f) (m := m) hc n
    simp only [mnS]
    by_cases q : n &&& (31 ^^^ m) = 0
    · rw [if_pos q]
      constructor
      · intro h y hy hs
        by_cases e : y = n
        · subst e
          split at h <;> omega
        · refine ih.mp ?_ y (by omega) hs
          split at h <;> omega
      · intro h
        have h1 := h n (by omega) q
        have h2 := ih.mpr (fun y hy => h y (by omega))
        split <;> omega
    · rw [if_neg q, ih]
      constructor
      · intro h y hy hs
        by_cases e : y = n
        · subst e; exact absurd hs q
        · exact h y (by omega) hs
      · intro h y hy hs
        exact h y (by omega) hs
theorem mxS_ge {f : Nat → Int} {m : Nat} {c : Int} (hc : -268435456 < c) : ∀ n, (c ≤ mxS f m n ↔ ∃ y, y < n ∧ sbM m y ∧ c ≤ f y)
  | 0 => by
    simp only [mxS]
    exact ⟨fun h => absurd h (by omega), fun ⟨y, hy, _⟩ => absurd hy (by omega)⟩
  | n + 1 => by
    have ih := mxS_ge (f := f) (m := m) hc n
    simp only [mxS]
    by_cases q : n &&& (31 ^^^ m) = 0
    · rw [if_pos q]
      constructor
      · intro h
        by_cases e : c ≤ f n
        · exact ⟨n, by omega, q, e⟩
        · obtain ⟨y, a, b, c'⟩ := ih.mp (by split at h <;> omega)
          exact ⟨y, by omega, b, c'⟩
      · rintro ⟨y, a, b, c'⟩
        by_cases e : y = n
        · subst e; split <;> omega
        · have := ih.mpr ⟨y, by omega, b, c'⟩
          split <;> omega
    · rw [if_neg q, ih]
      constructor
      · rintro ⟨y, a, b, c'⟩
        exact ⟨y, by omega, b, c'⟩
      · rintro ⟨y, a, b, c'⟩
        by_cases e : y = n
        · subst e; exact absurd b q
        · exact ⟨y, by omega, b, c'⟩
theorem sbM_0 (m : Nat) : sbM m 0 := by unfold sbM; simp
def hlI (x : Int) : Int := if 0 < x then x - 1 else if x < 0 then x + 1 else 0
section GM
variable (N : Nat) (h : Hl) (sd : Nat → Nat) (cold : Nat)
def st' (s set side : Nat) : Prop := h.must ≤ hands h sd cold s set side
def gEnt (V : Nat → Int) (s own ans : Nat) : Int := if h.must ≤ hands h sd cold s own 0 then (if h.must ≤ hands h sd cold s ans 1 then hlI (V (nxt h sd cold s (own ||| ans))) else 9999) else (if h.must ≤ hands h sd cold s ans 1 then -9999 else 0)
def mO (s : Nat) : Nat := ablS h.P s &&& sideS sd h.P 0
def mA (s : Nat) : Nat := ablS h.P s &&& sideS sd h.P 1
def cmT (V : Nat → Int) (s own : Nat) : Int := mnS (fun ans => gEnt h sd cold V s own ans) (mA h sd s) N
def VV : Nat → Nat → Int
  | 0, _ => 0
  | r + 1, s => mxS (fun own => cmT N h sd cold (VV r) s own) (mO h sd s) N
def VF (s : Nat) : Int := VV N h sd cold 4000 s
end GM
section GN
variable {N : Nat} {h : Hl} {sd : Nat → Nat} {cold : Nat}
theorem cmT_ge {V : Nat → Int} {s own : Nat} {c : Int} (hc : c ≤ 268435456) : c ≤ cmT N h sd cold V s own ↔ ∀ ans, ans < N → sbM (mA h sd s) ans → c ≤ gEnt h sd cold V s own ans := by
  unfold cmT
  exact mnS_ge hc N
theorem VV_ge {r s : Nat} {c : Int} (hc : -268435456 < c) : c ≤ VV N h sd cold (r + 1) s ↔ ∃ own, own < N ∧ sbM (mO h sd s) own ∧ c ≤ cmT N h sd cold (VV N h sd cold r) s own := by
  simp only [VV]
  exact mxS_ge hc N
theorem ent_in {V : Nat → Int} (hV : ∀ s, -9999 ≤ V s ∧ V s ≤ 9999) (s own ans : Nat) : -9999 ≤ gEnt h sd cold V s own ans ∧ gEnt h sd cold V s own ans ≤ 9999 := by
  have := hV (nxt h sd cold s (own ||| ans))
  unfold gEnt hlI
  (repeat' split) <;> omega
theorem cmT_in (hN : 0 < N) {V : Nat → Int} (hV : ∀ s, -9999 ≤ V s ∧ V s ≤ 9999) (s own : Nat) : -9999 ≤ cmT N h sd cold V s own ∧ cmT N h sd cold V s own ≤ 9999 := by
  refine ⟨(cmT_ge (by omega)).mpr (fun y _ _ => (ent_in hV s own y).1), ?_⟩
  refine Int.not_lt.mp (fun hc => ?_)
  have h1 := (cmT_ge (N := N) (h := h) (sd := sd) (cold := cold) (V := V) (s := s) (own := own) (c := 10000) (by omega)).mp (by omega) 0 (by omega) (sbM_0 _)
  have := (ent_in (h := h) (sd := sd) (cold := cold) hV s own 0).2
  omega
theorem VV_in (hN : 0 < N) : ∀ r s, -9999 ≤ VV N h sd cold r s ∧ VV N h sd cold r s ≤ 9999
  | 0, s => by
    have e : VV N h sd cold 0 s = 0 := by simp only [VV]
    omega
  | r + 1, s => by
    have hV := fun x => VV_in hN r x
    refine ⟨(VV_ge (by omega)).mpr ⟨0, by omega, sbM_0 _, (cmT_in hN hV s 0).1⟩, ?_⟩
    refine Int.not_lt.mp (fun hc => ?_)
    obtain ⟨y, _, _, hy⟩ := (VV_ge (N := N) (h := h) (sd := sd) (cold := cold) (r := r) (s := s) (c := 10000) (by omega)).mp (by omega)
    have := (cmT_in (N := N) (h := h) (sd := sd) (cold := cold) hN hV s y).2
    omega
/-- two rows of values that are the same, but for what is not far from 0 -/
def near (t : Int) (x y : Int) : Prop := x = y ∨ (-t ≤ x ∧ x ≤ t ∧ -t ≤ y ∧ y ≤ t)
theorem near_ge {t x y c : Int} (h : near t x y) (hc : t < c ∨ c ≤ -t) : c ≤ x ↔ c ≤ y := by
  unfold near at h
  constructor <;> intro <;> omega
theorem ent_near {V W : Nat → Int} {t : Int} {s own ans : Nat} (ht : 0 ≤ t) (hn : near (t + 1) (V (nxt h sd cold s (own ||| ans))) (W (nxt h sd cold s (own ||| ans)))) : near t (gEnt h sd cold V s own ans) (gEnt h sd cold W s own ans) := by
  unfold gEnt
  by_cases q : h.must ≤ hands h sd cold s own 0
  · rw [if_pos q, if_pos q]
    by_cases q2 : h.must ≤ hands h sd cold s ans 1
    · rw [if_pos q2, if_pos q2]
      rcases hn with e | ⟨a, b, c, d⟩
      · exact Or.inl (by rw [e])
      · unfold hlI
        refine Or.inr ⟨?_, ?_, ?_, ?_⟩ <;> (repeat' split) <;> omega
    · rw [if_neg q2, if_neg q2]; exact Or.inl rfl
  · rw [if_neg q, if_neg q]; exact Or.inl rfl
theorem cmT_near {V W : Nat → Int} {t c : Int} {s own : Nat} (ht : 0 ≤ t) (hc : t < c ∨ c ≤ -t) (hc2 : c ≤ 268435456) (hn : ∀ ans, ans < N → sbM (mA h sd s) ans → near (t + 1) (V (nxt h sd cold s (own ||| ans))) (W (nxt h sd cold s (own ||| ans))) ∨ ¬ (h.must ≤ hands h sd cold s own 0 ∧ h.must ≤ hands h sd cold s ans 1)) : c ≤ cmT N h sd cold V s own ↔ c ≤ cmT N h sd cold W s own := by
  rw [cmT_ge hc2, cmT_ge hc2]
  refine forall_congr' (fun ans => forall_congr' (fun h1 => forall_congr' (fun h2 => ?_)))
  rcases hn ans h1 h2 with a | a
  · exact near_ge (ent_near ht a) hc
  · have e : gEnt h sd cold V s own ans = gEnt h sd cold W s own ans := by
      unfold gEnt
      by_cases q : h.must ≤ hands h sd cold s own 0
      · rw [if_pos q, if_pos q, if_neg (fun q2 => a ⟨q, q2⟩), if_neg (fun q2 => a ⟨q, q2⟩)]
      · rw [if_neg q, if_neg q]
    rw [e]
/-- hours told, and when a value comes to be -/
theorem VV_2 (hN : 0 < N) : ∀ r s, r ≤ 5000 → VV N h sd cold r s ≠ 0 → 10000 - (r : Int) ≤ VV N h sd cold r s ∨ VV N h sd cold r s ≤ (r : Int) - 10000
  | 0, s, _, hne => absurd (by simp only [VV]) hne
  | r + 1, s, hr, hne => by
    have hV := fun x => VV_2 hN r x (by omega)
    have hent : ∀ own ans, gEnt h sd cold (VV N h sd cold r) s own ans = 0 ∨ 10000 - ((r + 1 : Nat) : Int) ≤ gEnt h sd cold (VV N h sd cold r) s own ans ∨ gEnt h sd cold (VV N h sd cold r) s own ans ≤ ((r + 1 : Nat) : Int) - 10000 := by
      intro own ans
      have h1 := hV (nxt h sd cold s (own ||| ans))
      have h2 := VV_in (N := N) (h := h) (sd := sd) (cold := cold) hN r (nxt h sd cold s (own ||| ans))
      unfold gEnt
      by_cases q : h.must ≤ hands h sd cold s own 0
      · rw [if_pos q]
        by_cases q2 : h.must ≤ hands h sd cold s ans 1
        · rw [if_pos q2]
          by_cases e : VV N h sd cold r (nxt h sd cold s (own ||| ans)) = 0
          · rw [e]; exact Or.inl rfl
          · have := h1 e
            unfold hlI
            (repeat' split) <;> omega
        · rw [if_neg q2]; omega
      · rw [if_neg q]
        by_cases q2 : h.must ≤ hands h sd cold s ans 1
        · rw [if_pos q2]; omega
        · rw [if_neg q2]; omega
    rcases Int.lt_trichotomy (VV N h sd cold (r + 1) s) 0 with q | q | q
    · refine Or.inr (Int.not_lt.mp (fun hc => ?_))
      obtain ⟨own, o1, o2, o3⟩ := (VV_ge (N := N) (h := h) (sd := sd) (cold := cold) (r := r) (s := s) (c := ((r + 1 : Nat) : Int) - 10000 + 1) (by omega)).mp (by omega)
      have : ¬ (0 : Int) ≤ VV N h sd cold (r + 1) s := by omega
      rw [VV_ge (by omega)] at this
      refine this ⟨own, o1, o2, ?_⟩
      rw [cmT_ge (by omega)] at o3 ⊢
      intro ans a1 a2
      have h1 := o3 ans a1 a2
      have h2 := hent own ans
      omega
    · exact absurd q hne
    · refine Or.inl ?_
      obtain ⟨own, o1, o2, o3⟩ := (VV_ge (N := N) (h := h) (sd := sd) (cold := cold) (r := r) (s := s) (c := 1) (by omega)).mp (by omega)
      rw [VV_ge (by omega)]
      refine ⟨own, o1, o2, ?_⟩
      rw [cmT_ge (by omega)] at o3 ⊢
      intro ans a1 a2
      have h1 := o3 ans a1 a2
      have h2 := hent own ans
      omega
theorem VV_P (hN : 0 < N) : ∀ r s, r ≤ 4900 → VV N h sd cold (r + 1) s = VV N h sd cold r s ∨ (VV N h sd cold r s = 0 ∧ -(9999 - (r : Int)) ≤ VV N h sd cold (r + 1) s ∧ VV N h sd cold (r + 1) s ≤ 9999 - (r : Int))
  | 0, s, _ => by
    have := VV_in (N := N) (h := h) (sd := sd) (cold := cold) hN (0 + 1) s
    exact Or.inr ⟨by simp only [VV], by omega, by omega⟩
  | r + 1, s, hr => by
    have ih := fun x => VV_P hN r x (by omega)
    have hn : ∀ x, near (9998 - (r : Int) + 1) (VV N h sd cold r x) (VV N h sd cold (r + 1) x) := by
      intro x
      rcases ih x with e | ⟨a, b, c⟩
      · exact Or.inl e.symm
      · exact Or.inr ⟨by omega, by omega, by omega, by omega⟩
    have hge : ∀ c : Int, (9998 - (r : Int) < c ∨ c ≤ -(9998 - (r : Int))) → -268435456 < c → c ≤ 268435456 → (c ≤ VV N h sd cold (r + 1) s ↔ c ≤ VV N h sd cold (r + 1 + 1) s) := by
      intro c hc h1 h2
      rw [VV_ge h1, VV_ge h1]
      refine exists_congr (fun own => and_congr_right (fun _ => and_congr_right (fun _ => ?_)))
      exact cmT_near (by omega) hc h2 (fun ans _ _ => Or.inl (hn _))
    have hb := VV_in (N := N) (h := h) (sd := sd) (cold := cold) hN (r + 1) s
    have hb2 := VV_in (N := N) (h := h) (sd := sd) (cold := cold) hN (r + 1 + 1) s
    have h2 := VV_2 (N := N) (h := h) (sd := sd) (cold := cold) hN (r + 1) s (by omega)
    generalize hx : VV N h sd cold (r + 1) s = x at *
    generalize hy : VV N h sd cold (r + 1 + 1) s = y at *
    by_cases qx : x = 0
    · by_cases qy : -(9998 - (r : Int)) ≤ y ∧ y ≤ 9998 - (r : Int)
      · exact Or.inr ⟨qx, by omega, by omega⟩
      · left
        rcases (show 9998 - (r : Int) < y ∨ y < -(9998 - (r : Int)) by omega) with q | q
        · have := (hge y (by omega) (by omega) (by omega)).mpr (Int.le_refl _)
          omega
        · have := (hge (y + 1) (by omega) (by omega) (by omega)).mp (by omega)
          omega
    · left
      have := h2 qx
      rcases (show 9998 - (r : Int) < x ∨ x < -(9998 - (r : Int)) by omega) with q | q
      · have a := (hge x (by omega) (by omega) (by omega)).mp (Int.le_refl _)
        have b := hge (x + 1) (by omega) (by omega) (by omega)
        omega
      · have a := (hge x (by omega) (by omega) (by omega)).mp (Int.le_refl _)
        have b := hge (x + 1) (by omega) (by omega) (by omega)
        omega
theorem VV_st (hN : 0 < N) {r s : Nat} (hne : VV N h sd cold r s ≠ 0) : ∀ k, r + k ≤ 4900 → VV N h sd cold (r + k) s = VV N h sd cold r s
  | 0, _ => rfl
  | k + 1, hk => by
    have ih := VV_st hN hne k (by omega)
    rcases VV_P (N := N) (h := h) (sd := sd) (cold := cold) hN (r + k) s (by omega) with e | ⟨a, _⟩
    · rw [← Nat.add_assoc, e, ih]
    · rw [ih] at a; exact absurd a hne
/-- what stays as it is over states that are closed stays so for ever -/
theorem VV_fix (hN : 0 < N) {S : Nat → Prop} (hc : ∀ s own ans, S s → own < N → ans < N → sbM (mO h sd s) own → sbM (mA h sd s) ans → h.must ≤ hands h sd cold s own 0 → h.must ≤ hands h sd cold s ans 1 → S (nxt h sd cold s (own ||| ans))) {r : Nat} (hS : ∀ s, S s → VV N h sd cold (r + 1) s = VV N h sd cold r s) : ∀ k s, S s → VV N h sd cold (r + k) s = VV N h sd cold r s := by
  have key : ∀ (V W : Nat → Int), (∀ s, S s → V s = W s) → ∀ s, S s → ∀ own, own < N → sbM (mO h sd s) own → cmT N h sd cold V s own = cmT N h sd cold W s own := by
    intro V W hVW s hs own ho hos
    have : ∀ c : Int, c ≤ 268435456 → (c ≤ cmT N h sd cold V s own ↔ c ≤ cmT N h sd cold W s own) := by
      intro c hc'
      rw [cmT_ge hc', cmT_ge hc']
      refine forall_congr' (fun ans => forall_congr' (fun h1 => forall_congr' (fun h2 => ?_)))
      have e : gEnt h sd cold V s own ans = gEnt h sd cold W s own ans := by
        unfold gEnt
        by_cases q : h.must ≤ hands h sd cold s own 0
        · rw [if_pos q, if_pos q]
          by_cases q2 : h.must ≤ hands h sd cold s ans 1
          · rw [if_pos q2, if_pos q2, hVW _ (hc s own ans hs ho h1 hos h2 q q2)]
          · rw [if_neg q2, if_neg q2]
        · rw [if_neg q, if_neg q]
      rw [e]
    have hle : ∀ V : Nat → Int, cmT N h sd cold V s own ≤ 268435456 := by
      intro V
      have : ∀ n, mnS (fun ans => gEnt h sd cold V s own ans) (mA h sd s) n ≤ 268435456 := by
        intro n
        induction n with
        | zero => simp only [mnS]; exact Int.le_refl _
        | succ n ih => simp only [mnS]; (repeat' split) <;> omega
      unfold cmT
      exact this N
    exact Int.le_antisymm ((this _ (hle V)).mp (Int.le_refl _)) ((this _ (hle W)).mpr (Int.le_refl _))
  intro k
  induction k with
  | zero => intro s _; rfl
  | succ k ih =>
    intro s hs
    rw [← Nat.add_assoc, ← hS s hs]
    have hcong : ∀ c : Int, -268435456 < c → (c ≤ VV N h sd cold (r + k + 1) s ↔ c ≤ VV N h sd cold (r + 1) s) := by
      intro c hc'
      rw [VV_ge hc', VV_ge hc']
      refine exists_congr (fun own => and_congr_right (fun h1 => and_congr_right (fun h2 => ?_)))
      rw [key _ _ ih s hs own h1 h2]
    have b1 := VV_in (N := N) (h := h) (sd := sd) (cold := cold) hN (r + k + 1) s
    have b2 := VV_in (N := N) (h := h) (sd := sd) (cold := cold) hN (r + 1) s
    exact Int.le_antisymm ((hcong _ (by omega)).mp (Int.le_refl _)) ((hcong _ (by omega)).mpr (Int.le_refl _))
end GN
