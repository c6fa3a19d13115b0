/-! rows followed hour by hour, the first ways kept: pure -/
section LP
variable (okf : Nat → Nat → Bool) (nx : Nat → Nat → Nat)
def lkSet (F : FS) (s : Nat) : Nat → FS × (Nat → Nat) → FS × (Nat → Nat)
  | 0, st => st
  | n + 1, st => if okf s n = true then (addF (lkSet F s n st).1 (nx s n) (F.wy s) (F.hd s ||| n), if nx s n ∈ (lkSet F s n st).1.l then (lkSet F s n st).2 else ud (lkSet F s n st).2 (nx s n) (s * 32 + n)) else lkSet F s n st
def lkAll (F : FS) (N : Nat) : Nat → FS × (Nat → Nat) → FS × (Nat → Nat)
  | 0, st => st
  | i + 1, st => lkSet okf nx F (F.l.getD i 0) N (lkAll F N i st)
end LP
def lkH (okI : Nat → Nat → Nat → Bool) (nx : Nat → Nat → Nat) (N s0 : Nat) : Nat → FS
  | 0 => addF FS.nil s0 1 0
  | h + 1 => (lkAll (okI h) nx (lkH okI nx N s0 h) N (lkH okI nx N s0 h).l.length (FS.nil, fun _ => 0)).1
def cmH (okI : Nat → Nat → Nat → Bool) (nx : Nat → Nat → Nat) (N s0 h : Nat) : Nat → Nat := (lkAll (okI h) nx (lkH okI nx N s0 h) N (lkH okI nx N s0 h).l.length (FS.nil, fun _ => 0)).2
section LQ
variable {okf : Nat → Nat → Bool} {nx : Nat → Nat → Nat} {F : FS} {N : Nat}
theorem lkSet_nd {s : Nat} {st : FS × (Nat → Nat)} (h : st.1.l.Nodup) : ∀ n, (lkSet okf nx F s n st).1.l.Nodup
  | 0 => h
  | n + 1 => by
    have ih := lkSet_nd (s := s) h n
    simp only [lkSet]
    split
    · show (addF _ _ _ _).l.Nodup
      rw [addF_l]; exact addL_nodup ih
    · exact ih
theorem lkSet_val {s : Nat} {st : FS × (Nat → Nat)} (h : st.1.l.Nodup) (g : Nat → Nat) : ∀ n, (lkSet okf nx F s n st).1.val g = st.1.val g + F.wy s * stp' okf nx g s n
  | 0 => by show _ = _ + F.wy s * 0; simp only [lkSet]; omega
  | n + 1 => by
    have ih := lkSet_val (s := s) h g n
    have e : stp' okf nx g s (n + 1) = stp' okf nx g s n + (if okf s n = true then g (nx s n) else 0) := rfl
    simp only [lkSet]
    by_cases q : okf s n = true
    · rw [if_pos q]
      show (addF _ _ _ _).val g = _
      rw [addF_val (lkSet_nd h n), ih, e, if_pos q, Nat.mul_add]; omega
    · rw [if_neg q, ih, e, if_neg q, Nat.add_zero]
theorem lkAll_nd {st : FS × (Nat → Nat)} (h : st.1.l.Nodup) : ∀ i, (lkAll okf nx F N i st).1.l.Nodup
  | 0 => h
  | i + 1 => lkSet_nd (lkAll_nd h i) N
theorem lkAll_val {st : FS × (Nat → Nat)} (h : st.1.l.Nodup) (g : Nat → Nat) : ∀ i, (lkAll okf nx F N i st).1.val g = st.1.val g + preV okf nx F N g i
  | 0 => rfl
  | i + 1 => by
    have ih := lkAll_val (st := st) h g i
    have e : preV okf nx F N g (i + 1) = preV okf nx F N g i + F.wy (F.l.getD i 0) * stp' okf nx g (F.l.getD i 0) N := rfl
    simp only [lkAll]
    rw [lkSet_val (lkAll_nd h i), ih, e]; omega
theorem lkSet_mem {s : Nat} {st : FS × (Nat → Nat)} {x : Nat} : ∀ n, x ∈ (lkSet okf nx F s n st).1.l ↔ x ∈ st.1.l ∨ ∃ y, y < n ∧ okf s y = true ∧ nx s y = x
  | 0 => ⟨Or.inl, fun h => h.elim id (fun ⟨y, hy, _⟩ => absurd hy (by omega))⟩
  | n + 1 => by
    have ih := lkSet_mem (s := s) (st := st) (x := x) n
    simp only [lkSet]
    by_cases q : okf s n = true
    · rw [if_pos q]
      show x ∈ (addF _ _ _ _).l ↔ _
      rw [addF_mem, ih]
      constructor
      · rintro ((a | ⟨y, a, b, c⟩) | a)
        · exact Or.inl a
        · exact Or.inr ⟨y, by omega, b, c⟩
        · exact Or.inr ⟨n, by omega, q, a.symm⟩
      · rintro (a | ⟨y, a, b, c⟩)
        · exact Or.inl (Or.inl a)
        · by_cases e : y = n
          · subst e; exact Or.inr c.symm
          · exact Or.inl (Or.inr ⟨y, by omega, b, c⟩)
    · rw [if_neg q, ih]
      constructor
      · rintro (a | ⟨y, a, b, c⟩)
        · exact Or.inl a
        · exact Or.inr ⟨y, by omega, b, c⟩
      · rintro (a | ⟨y, a, b, c⟩)
        · exact Or.inl a
        · by_cases e : y = n
          · subst e; exact absurd b q
          · exact Or.inr ⟨y, by omega, b, c⟩
theorem lkAll_mem {st : FS × (Nat → Nat)} {x : Nat} : ∀ i, x ∈ (lkAll okf nx F N i st).1.l ↔ x ∈ st.1.l ∨ ∃ j, j < i ∧ ∃ y, y < N ∧ okf (F.l.getD j 0) y = true ∧ nx (F.l.getD j 0) y = x
  | 0 => ⟨Or.inl, fun h => h.elim id (fun ⟨j, hj, _⟩ => absurd hj (by omega))⟩
  | i + 1 => by
    have ih := lkAll_mem (st := st) (x := x) i
    simp only [lkAll]
    rw [lkSet_mem, ih]
    constructor
    · rintro ((a | ⟨j, a, b⟩) | a)
      · exact Or.inl a
      · exact Or.inr ⟨j, by omega, b⟩
      · exact Or.inr ⟨i, by omega, a⟩
    · rintro (a | ⟨j, a, b⟩)
      · exact Or.inl (Or.inl a)
      · by_cases e : j = i
        · subst e; exact Or.inr b
        · exact Or.inl (Or.inr ⟨j, by omega, b⟩)
/-- what stands stays, and how it came -/
def stk' (st st' : FS × (Nat → Nat)) : Prop := pre st.1.l st'.1.l ∧ ∀ x, x ∈ st.1.l → x ∈ st'.1.l ∧ st'.2 x = st.2 x
theorem stk'.refl {st : FS × (Nat → Nat)} : stk' st st := ⟨pre.refl, fun x hx => ⟨hx, rfl⟩⟩
theorem stk'.trans {a b c : FS × (Nat → Nat)} (h : stk' a b) (h2 : stk' b c) : stk' a c := ⟨h.1.trans h2.1, fun x hx => ⟨(h2.2 x (h.2 x hx).1).1, ((h2.2 x (h.2 x hx).1).2).trans (h.2 x hx).2⟩⟩
theorem lkSet_1 {s n : Nat} {st : FS × (Nat → Nat)} : stk' (lkSet okf nx F s n st) (lkSet okf nx F s (n + 1) st) := by
  simp only [lkSet]
  by_cases q : okf s n = true
  · rw [if_pos q]
    refine ⟨by show pre _ (addF _ _ _ _).l; rw [addF_l]; exact addL_pre, fun x hx => ⟨addF_mem.mpr (Or.inl hx), ?_⟩⟩
    show (if nx s n ∈ (lkSet okf nx F s n st).1.l then (lkSet okf nx F s n st).2 else ud (lkSet okf nx F s n st).2 (nx s n) (s * 32 + n)) x = (lkSet okf nx F s n st).2 x
    by_cases hn : nx s n ∈ (lkSet okf nx F s n st).1.l
    · rw [if_pos hn]
    · have hne : x ≠ nx s n := fun e => hn (by rw [← e]; exact hx)
      rw [if_neg hn, ud_ne hne]
  · rw [if_neg q]; exact stk'.refl
theorem lkSet_k {s n : Nat} {st : FS × (Nat → Nat)} : ∀ k, stk' (lkSet okf nx F s n st) (lkSet okf nx F s (n + k) st)
  | 0 => stk'.refl
  | k + 1 => (lkSet_k k).trans (by rw [← Nat.add_assoc]; exact lkSet_1)
theorem lkAll_k {i : Nat} {st : FS × (Nat → Nat)} : ∀ k, stk' (lkAll okf nx F N i st) (lkAll okf nx F N (i + k) st)
  | 0 => stk'.refl
  | k + 1 => (lkAll_k k).trans (by
    rw [← Nat.add_assoc]
    simp only [lkAll]
    have := lkSet_k (okf := okf) (nx := nx) (F := F) (s := F.l.getD (i + k) 0) (n := 0) (st := lkAll okf nx F N (i + k) st) N
    rw [Nat.zero_add] at this
    exact this)
def bit' (a p : Nat) : Prop := a / 2 ^ p % 2 = 1
theorem or_bit {a b p : Nat} : bit' (a ||| b) p ↔ bit' a p ∨ bit' b p := by
  unfold bit'
  have key : ∀ x : Nat, (x / 2 ^ p % 2 = 1) ↔ x.testBit p = true := fun x => by
    rw [Nat.testBit_eq_decide_div_mod_eq, decide_eq_true_iff]
  rw [key, key, key, Nat.testBit_or, Bool.or_eq_true]
theorem lkSet_hd {s p : Nat} {st : FS × (Nat → Nat)} {x : Nat} : ∀ n, x ∈ (lkSet okf nx F s n st).1.l → (bit' ((lkSet okf nx F s n st).1.hd x) p ↔ (x ∈ st.1.l → bit' (st.1.hd x) p) ∧ ∀ y, y < n → okf s y = true → nx s y = x → bit' (F.hd s ||| y) p)
  | 0, hx => ⟨fun h => ⟨fun _ => h, fun y hy => absurd hy (by omega)⟩, fun h => h.1 hx⟩
  | n + 1, hx => by
    have ih := lkSet_hd (s := s) (p := p) (st := st) (x := x) n
    have hm := lkSet_mem (okf := okf) (nx := nx) (F := F) (s := s) (st := st) (x := x) n
    simp only [lkSet] at hx ⊢
    by_cases q : okf s n = true
    · rw [if_pos q] at hx ⊢
      show bit' ((addF _ _ _ _).hd x) p ↔ _
      have hx' : x ∈ (addF (lkSet okf nx F s n st).1 (nx s n) (F.wy s) (F.hd s ||| n)).l := hx
      generalize lkSet okf nx F s n st = S at ih hm hx'
      by_cases ex : x = nx s n
      · unfold addF
        by_cases qm : nx s n ∈ S.1.l
        · rw [if_pos qm]
          show bit' (ud S.1.hd (nx s n) (S.1.hd (nx s n) &&& (F.hd s ||| n)) x) p ↔ _
          rw [ex, ud_eq, ← ex]
          have e1 : bit' (S.1.hd x &&& (F.hd s ||| n)) p ↔ bit' (S.1.hd x) p ∧ bit' (F.hd s ||| n) p := and_bit
          rw [e1, ih (ex ▸ qm)]
          constructor
          · rintro ⟨⟨a, b⟩, c⟩
            refine ⟨a, fun y hy hyo hyx => ?_⟩
            by_cases ey : y = n
            · subst ey; exact c
            · exact b y (by omega) hyo hyx
          · rintro ⟨a, b⟩
            exact ⟨⟨a, fun y hy => b y (by omega)⟩, b n (by omega) q ex.symm⟩
        · rw [if_neg qm]
          show bit' (ud S.1.hd (nx s n) (F.hd s ||| n) x) p ↔ _
          rw [ex, ud_eq, ← ex]
          have hnot : ¬ (x ∈ st.1.l ∨ ∃ y, y < n ∧ okf s y = true ∧ nx s y = x) := fun h => qm (ex ▸ hm.mpr h)
          constructor
          · intro c
            refine ⟨fun h => absurd (Or.inl h) hnot, fun y hy hyo hyx => ?_⟩
            by_cases ey : y = n
            · subst ey; exact c
            · exact absurd (Or.inr ⟨y, by omega, hyo, hyx⟩) hnot
          · rintro ⟨a, b⟩
            exact b n (by omega) q ex.symm
      · have hxS : x ∈ S.1.l := (addF_mem.mp hx').elim id (fun e => absurd e ex)
        have eh : (addF S.1 (nx s n) (F.wy s) (F.hd s ||| n)).hd x = S.1.hd x := by
          unfold addF
          split
          · show ud _ _ _ x = _; rw [ud_ne ex]
          · show ud _ _ _ x = _; rw [ud_ne ex]
        rw [eh, ih hxS]
        constructor
        · rintro ⟨a, b⟩
          refine ⟨a, fun y hy hyo hyx => ?_⟩
          by_cases ey : y = n
          · subst ey; exact absurd hyx.symm ex
          · exact b y (by omega) hyo hyx
        · rintro ⟨a, b⟩
          exact ⟨a, fun y hy => b y (by omega)⟩
    · rw [if_neg q] at hx ⊢
      rw [ih hx]
      constructor
      · rintro ⟨a, b⟩
        refine ⟨a, fun y hy hyo hyx => ?_⟩
        by_cases ey : y = n
        · subst ey; exact absurd hyo q
        · exact b y (by omega) hyo hyx
      · rintro ⟨a, b⟩
        exact ⟨a, fun y hy => b y (by omega)⟩
theorem lkAll_hd {p : Nat} {st : FS × (Nat → Nat)} {x : Nat} : ∀ i, x ∈ (lkAll okf nx F N i st).1.l → (bit' ((lkAll okf nx F N i st).1.hd x) p ↔ (x ∈ st.1.l → bit' (st.1.hd x) p) ∧ ∀ j, j < i → ∀ y, y < N → okf (F.l.getD j 0) y = true → nx (F.l.getD j 0) y = x → bit' (F.hd (F.l.getD j 0) ||| y) p)
  | 0, hx => ⟨fun h => ⟨fun _ => h, fun j hj => absurd hj (by omega)⟩, fun h => h.1 hx⟩
  | i + 1, hx => by
    have ih := lkAll_hd (p := p) (st := st) (x := x) i
    have hm := lkAll_mem (okf := okf) (nx := nx) (F := F) (N := N) (st := st) (x := x) i
    simp only [lkAll] at hx ⊢
    rw [lkSet_hd N hx]
    constructor
    · rintro ⟨a, b⟩
      refine ⟨fun h => ?_, fun j hj y hy hyo hyx => ?_⟩
      · have hx' := hm.mpr (Or.inl h)
        exact ((ih hx').mp (a hx')).1 h
      · by_cases ej : j = i
        · subst ej; exact b y hy hyo hyx
        · have hx' := hm.mpr (Or.inr ⟨j, by omega, y, hy, hyo, hyx⟩)
          exact ((ih hx').mp (a hx')).2 j (by omega) y hy hyo hyx
    · rintro ⟨a, b⟩
      exact ⟨fun hx' => (ih hx').mpr ⟨a, fun j hj => b j (by omega)⟩, b i (by omega)⟩
theorem or_lt {a b : Nat} (ha : a < 32) (hb : b < 32) : a ||| b < 32 := Nat.or_lt_two_pow (n := 5) ha hb
theorem addF_hd32 {S : FS} {x0 w mk : Nat} (h : ∀ x, x ∈ S.l → S.hd x < 32) (hm : mk < 32) : ∀ x, x ∈ (addF S x0 w mk).l → (addF S x0 w mk).hd x < 32 := by
  intro x hx
  unfold addF at hx ⊢
  by_cases q : x0 ∈ S.l
  · rw [if_pos q] at hx ⊢
    show ud _ _ _ x < 32
    by_cases e : x = x0
    · subst e; rw [ud_eq]; exact Nat.lt_of_le_of_lt Nat.and_le_right hm
    · rw [ud_ne e]; exact h x hx
  · rw [if_neg q] at hx ⊢
    show ud _ _ _ x < 32
    by_cases e : x = x0
    · subst e; rw [ud_eq]; exact hm
    · rw [ud_ne e]
      exact h x ((List.mem_append.mp (show x ∈ S.l ++ [x0] from hx)).elim id (fun hh => absurd (List.mem_singleton.mp hh) e))
theorem lkSet_32 {s : Nat} {st : FS × (Nat → Nat)} (hs : F.hd s < 32) (h : ∀ x, x ∈ st.1.l → st.1.hd x < 32) : ∀ n, n ≤ 32 → ∀ x, x ∈ (lkSet okf nx F s n st).1.l → (lkSet okf nx F s n st).1.hd x < 32
  | 0, _ => h
  | n + 1, hn => by
    have ih := lkSet_32 (s := s) hs h n (by omega)
    simp only [lkSet]
    by_cases q : okf s n = true
    · rw [if_pos q]
      exact addF_hd32 ih (or_lt hs (by omega))
    · rw [if_neg q]; exact ih
theorem lkAll_32 {st : FS × (Nat → Nat)} (hN : N ≤ 32) (hs : ∀ s, s ∈ F.l → F.hd s < 32) (h : ∀ x, x ∈ st.1.l → st.1.hd x < 32) : ∀ i, i ≤ F.l.length → ∀ x, x ∈ (lkAll okf nx F N i st).1.l → (lkAll okf nx F N i st).1.hd x < 32
  | 0, _ => h
  | i + 1, hi => lkSet_32 (hs _ (getD_mem (by omega))) (lkAll_32 hN hs h i (by omega)) N hN
end LQ
