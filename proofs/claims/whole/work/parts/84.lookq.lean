/-! the same, hour by hour -/
section LR
variable {okI : Nat → Nat → Nat → Bool} {nx : Nat → Nat → Nat} {N s0 : Nat}
theorem lkH0_l : (lkH okI nx N s0 0).l = [s0] ∧ (∀ x, (lkH okI nx N s0 0).hd x = 0) ∧ ∀ g, (lkH okI nx N s0 0).val g = g s0 := by
  have e0 : lkH okI nx N s0 0 = mkF ([] ++ [s0]) (ud (fun _ => 0) s0 1) (ud (fun _ => 0) s0 0) := by
    show addF FS.nil s0 1 0 = _
    unfold addF
    rw [if_neg (show ¬ s0 ∈ FS.nil.l from List.not_mem_nil)]; rfl
  refine ⟨by rw [e0]; rfl, fun x => ?_, fun g => ?_⟩
  · rw [e0]
    show ud (fun _ => 0) s0 0 x = 0
    by_cases e : x = s0
    · rw [e, ud_eq]
    · rw [ud_ne e]
  · show (addF FS.nil s0 1 0).val g = _
    rw [addF_val (F := FS.nil) List.nodup_nil]
    show sumL _ [] + _ = _
    simp [sumL]
theorem lkH_nd : ∀ h, (lkH okI nx N s0 h).l.Nodup
  | 0 => by rw [lkH0_l.1]; simp
  | h + 1 => lkAll_nd (st := (FS.nil, fun _ => 0)) List.nodup_nil _
theorem lkH_val (h : Nat) (g : Nat → Nat) : (lkH okI nx N s0 (h + 1)).val g = (lkH okI nx N s0 h).val (fun s => stp' (okI h) nx g s N) := by
  show (lkAll _ _ _ _ _ _).1.val g = _
  rw [lkAll_val (st := (FS.nil, fun _ => 0)) List.nodup_nil, preV_all]
  show sumL _ [] + _ = _
  simp [sumL]
theorem lkH_Wy (hN : N ≤ 32) (ho : ∀ i s y, N ≤ y → y < 32 → okI i s y = false) : ∀ h r, (lkH okI nx N s0 h).val (Wy okI nx r h) = Wy okI nx (r + h) 0 s0
  | 0, r => lkH0_l.2.2 _
  | h + 1, r => by
    rw [lkH_val, ← (show r + 1 + h = r + (h + 1) by omega), ← lkH_Wy hN ho h (r + 1)]
    congr 1
    funext s
    exact (stp'_out (ho h s) hN).symm
theorem lkH_bd (hN : N ≤ 32) : ∀ h, (lkH okI nx N s0 h).val (fun _ => 1) ≤ 32 ^ h
  | 0 => by rw [lkH0_l.2.2]; exact Nat.le_refl _
  | h + 1 => by
    have ih := lkH_bd hN h
    rw [lkH_val, Nat.pow_succ]
    have := val_le (F := lkH okI nx N s0 h) (g := fun s => stp' (okI h) nx (fun _ => 1) s N) (c := 32) (fun s => by
      have := stp'_le (ok := okI h) (nx := nx) (g := fun _ => 1) (s := s) 1 (fun _ => Nat.le_refl _) N
      show stp' (okI h) nx (fun _ => 1) s N ≤ 32
      omega)
    omega
theorem lkH_32 (hN : N ≤ 32) : ∀ h x, x ∈ (lkH okI nx N s0 h).l → (lkH okI nx N s0 h).hd x < 32
  | 0, x, _ => by rw [lkH0_l.2.1]; omega
  | h + 1, x, hx => lkAll_32 hN (lkH_32 hN h) (fun x hx => absurd hx (List.not_mem_nil)) _ (Nat.le_refl _) x hx
theorem lkH_lt {B : Nat} (h0 : s0 < B) (hx : ∀ s y, nx s y < B) : ∀ h x, x ∈ (lkH okI nx N s0 h).l → x < B
  | 0, x, hm => by rw [lkH0_l.1] at hm; rw [List.mem_singleton.mp hm]; exact h0
  | h + 1, x, hm => by
    rcases (lkAll_mem _).mp hm with a | ⟨j, _, y, _, _, e⟩
    · exact absurd a (List.not_mem_nil)
    · rw [← e]; exact hx _ _
/-- come to by rows in which one never holds -/
def rcB (okI : Nat → Nat → Nat → Bool) (nx : Nat → Nat → Nat) (N s0 p : Nat) : Nat → Nat → Prop
  | 0, x => x = s0
  | h + 1, x => ∃ t y, rcB okI nx N s0 p h t ∧ y < N ∧ okI h t y = true ∧ ¬ bit' y p ∧ nx t y = x
theorem rcB_mem {p : Nat} : ∀ h x, rcB okI nx N s0 p h x → x ∈ (lkH okI nx N s0 h).l
  | 0, x, e => by rw [lkH0_l.1, show x = s0 from e]; simp
  | h + 1, x, ⟨t, y, a, b, c, _, e⟩ => by
    obtain ⟨j, hj, ej⟩ := mem_getD (rcB_mem h t a)
    exact (lkAll_mem _).mpr (Or.inr ⟨j, hj, y, b, by rw [ej]; exact c, by rw [ej]; exact e⟩)
theorem lkH_hd {p : Nat} : ∀ h x, x ∈ (lkH okI nx N s0 h).l → (¬ bit' ((lkH okI nx N s0 h).hd x) p ↔ rcB okI nx N s0 p h x)
  | 0, x, hx => by
    rw [lkH0_l.2.1]
    rw [lkH0_l.1] at hx
    refine ⟨fun _ => List.mem_singleton.mp hx, fun _ h => ?_⟩
    unfold bit' at h
    rw [Nat.zero_div] at h
    cases h
  | h + 1, x, hx => by
    have e : bit' ((lkH okI nx N s0 (h + 1)).hd x) p ↔ _ := lkAll_hd (p := p) _ hx
    rw [e]
    constructor
    · intro hn
      have hn' : ¬ ∀ j, j < (lkH okI nx N s0 h).l.length → ∀ y, y < N → okI h ((lkH okI nx N s0 h).l.getD j 0) y = true → nx ((lkH okI nx N s0 h).l.getD j 0) y = x → bit' ((lkH okI nx N s0 h).hd ((lkH okI nx N s0 h).l.getD j 0) ||| y) p := fun hh => hn ⟨fun h' => absurd h' (List.not_mem_nil), hh⟩
      refine Classical.byContradiction (fun hc => hn' (fun j hj y hy hyo hyx => ?_))
      refine Classical.byContradiction (fun hb => hc ?_)
      rw [or_bit, not_or] at hb
      have hm := getD_mem hj
      exact ⟨_, y, (lkH_hd h _ hm).mp hb.1, hy, hyo, hb.2, hyx⟩
    · rintro ⟨t, y, a, b, c, e2, e3⟩ ⟨_, hh⟩
      have hm := rcB_mem h t a
      obtain ⟨j, hj, ej⟩ := mem_getD hm
      have := hh j hj y b (by rw [ej]; exact c) (by rw [ej]; exact e3)
      rw [ej, or_bit] at this
      rcases this with q | q
      · exact (lkH_hd h t hm).mpr a q
      · exact e2 q
def okB (okI : Nat → Nat → Nat → Bool) (p : Nat) : Nat → Nat → Nat → Bool := fun i s y => okI i s y && decide (¬ y / 2 ^ p % 2 = 1)
theorem okB_iff {p i s y : Nat} : okB okI p i s y = true ↔ okI i s y = true ∧ ¬ bit' y p := by
  unfold okB bit'
  rw [Bool.and_eq_true, decide_eq_true_eq]
theorem Wy_pos {r i s : Nat} : 0 < Wy okI nx (r + 1) i s ↔ ∃ y, y < 32 ∧ okI i s y = true ∧ 0 < Wy okI nx r (i + 1) (nx s y) := by
  show 0 < sumN (fun y => if okI i s y = true then Wy okI nx r (i + 1) (nx s y) else 0) 32 ↔ _
  rw [sumN_pos]
  constructor
  · rintro ⟨y, a, b⟩
    by_cases q : okI i s y = true
    · simp only [if_pos q] at b
      exact ⟨y, a, q, b⟩
    · simp only [if_neg q] at b
      omega
  · rintro ⟨y, a, q, b⟩
    exact ⟨y, a, by simp only [if_pos q]; exact b⟩
theorem rcB_Wy {p : Nat} (hN : N ≤ 32) (ho : ∀ i s y, N ≤ y → y < 32 → okI i s y = false) : ∀ h r, (∃ x, rcB okI nx N s0 p h x ∧ 0 < Wy (okB okI p) nx r h x) ↔ 0 < Wy (okB okI p) nx (r + h) 0 s0
  | 0, r => ⟨fun ⟨x, a, b⟩ => by rw [show x = s0 from a] at b; exact b, fun h => ⟨s0, rfl, h⟩⟩
  | h + 1, r => by
    rw [← (show r + 1 + h = r + (h + 1) by omega), ← rcB_Wy hN ho h (r + 1)]
    constructor
    · rintro ⟨x, ⟨t, y, a, b, c, e, f⟩, g⟩
      exact ⟨t, a, Wy_pos.mpr ⟨y, by omega, okB_iff.mpr ⟨c, e⟩, by rw [f]; exact g⟩⟩
    · rintro ⟨t, a, g⟩
      obtain ⟨y, b, c, g⟩ := Wy_pos.mp g
      obtain ⟨c1, c2⟩ := okB_iff.mp c
      refine ⟨nx t y, ⟨t, y, a, ?_, c1, c2, rfl⟩, g⟩
      rcases Nat.lt_or_ge y N with q | q
      · exact q
      · rw [ho h t y q b] at c1; cases c1
/-- the first row -/
def Chl (okI : Nat → Nat → Nat → Bool) (nx : Nat → Nat → Nat) (s0 n : Nat) (c t : Nat → Nat) : Prop := c 0 = s0 ∧ ∀ k, k < n → t k < 32 ∧ okI k (c k) (t k) = true ∧ nx (c k) (t k) = c (k + 1) ∧ 0 < Wy okI nx (n - (k + 1)) (k + 1) (c (k + 1)) ∧ ∀ x, x < t k → ¬ (okI k (c k) x = true ∧ 0 < Wy okI nx (n - (k + 1)) (k + 1) (nx (c k) x))
theorem Chl_of : ∀ (r i s : Nat), 0 < Wy okI nx r i s → ∃ c t : Nat → Nat, c i = s ∧ ∀ k, i ≤ k → k < i + r → t k < 32 ∧ okI k (c k) (t k) = true ∧ nx (c k) (t k) = c (k + 1) ∧ 0 < Wy okI nx (i + r - (k + 1)) (k + 1) (c (k + 1)) ∧ ∀ x, x < t k → ¬ (okI k (c k) x = true ∧ 0 < Wy okI nx (i + r - (k + 1)) (k + 1) (nx (c k) x))
  | 0, i, s, _ => ⟨fun _ => s, fun _ => 0, rfl, fun k h1 h2 => absurd h2 (by omega)⟩
  | r + 1, i, s, h => by
    obtain ⟨y, y1, y2, y3⟩ := Wy_pos.mp h
    obtain ⟨m, m1, m2, m3⟩ := least_of (Pr := fun x => okI i s x = true ∧ 0 < Wy okI nx r (i + 1) (nx s x)) ⟨y2, y3⟩
    obtain ⟨c, t, c0, hc⟩ := Chl_of r (i + 1) (nx s m) m2.2
    refine ⟨ud c i s, ud t i m, ud_eq, fun k h1 h2 => ?_⟩
    by_cases e : k = i
    · subst e
      rw [ud_eq, ud_eq, ud_ne (by omega), c0, show k + (r + 1) - (k + 1) = r by omega]
      exact ⟨by omega, m2.1, rfl, m2.2, m3⟩
    · rw [ud_ne e, ud_ne e, ud_ne (by omega)]
      have := hc k (by omega) (by omega)
      rw [show i + 1 + r - (k + 1) = i + (r + 1) - (k + 1) by omega] at this
      exact this
theorem Chl_ex {n : Nat} (h : 0 < Wy okI nx n 0 s0) : ∃ c t, Chl okI nx s0 n c t := by
  obtain ⟨c, t, a, b⟩ := Chl_of n 0 s0 h
  refine ⟨c, t, a, fun k hk => ?_⟩
  have := b k (by omega) (by omega)
  rw [Nat.zero_add] at this
  exact this
theorem Chl_un {n : Nat} {c t c' t' : Nat → Nat} (h : Chl okI nx s0 n c t) (h' : Chl okI nx s0 n c' t') : ∀ k, k ≤ n → c k = c' k ∧ (k < n → t k = t' k) := by
  have key : ∀ k, k < n → c k = c' k → t k = t' k := by
    intro k hk e
    obtain ⟨a1, a2, a3, a4, a5⟩ := h.2 k hk
    obtain ⟨b1, b2, b3, b4, b5⟩ := h'.2 k hk
    rcases Nat.lt_trichotomy (t k) (t' k) with q | q | q
    · exact absurd ⟨by rw [← e]; exact a2, by rw [← e, a3]; exact a4⟩ (b5 _ q)
    · exact q
    · exact absurd ⟨by rw [e]; exact b2, by rw [e, b3]; exact b4⟩ (a5 _ q)
  intro k
  induction k with
  | zero => intro _; exact ⟨by rw [h.1, h'.1], fun hk => key 0 hk (by rw [h.1, h'.1])⟩
  | succ k ih =>
    intro hk
    obtain ⟨e0, et⟩ := ih (by omega)
    have e : c (k + 1) = c' (k + 1) := by rw [← (h.2 k (by omega)).2.2.1, ← (h'.2 k (by omega)).2.2.1, e0, et (by omega)]
    exact ⟨e, fun hk' => key (k + 1) hk' e⟩
theorem lkH_chain (hN : N ≤ 32) (ho : ∀ i s y, N ≤ y → y < 32 → okI i s y = false) {n : Nat} {c t : Nat → Nat} (hc : Chl okI nx s0 n c t) : ∀ h, h ≤ n → (∃ p, p < (lkH okI nx N s0 h).l.length ∧ (lkH okI nx N s0 h).l.getD p 0 = c h ∧ ∀ a, a < p → Wy okI nx (n - h) h ((lkH okI nx N s0 h).l.getD a 0) = 0) ∧ ∀ j, j < h → cmH okI nx N s0 j (c (j + 1)) = c j * 32 + t j
  | 0, _ => ⟨⟨0, by rw [lkH0_l.1]; simp, by rw [lkH0_l.1, hc.1]; rfl, fun a ha => absurd ha (by omega)⟩, fun j hj => absurd hj (by omega)⟩
  | h + 1, hh => by
    obtain ⟨⟨p, p1, p2, p3⟩, hcm⟩ := lkH_chain hN ho hc h (by omega)
    obtain ⟨t1, t2, t3, t4, t5⟩ := hc.2 h (by omega)
    have ht : t h < N := by
      rcases Nat.lt_or_ge (t h) N with q | q
      · exact q
      · rw [ho h (c h) (t h) q t1] at t2; cases t2
    -- what stands before the chain's state is added
    have hdead1 : ∀ x, x ∈ (lkAll (okI h) nx (lkH okI nx N s0 h) N p (FS.nil, fun _ => 0)).1.l → Wy okI nx (n - (h + 1)) (h + 1) x = 0 := by
      intro x hx
      rcases (lkAll_mem _).mp hx with a | ⟨j, hj, y, hy, hyo, e⟩
      · exact absurd a (List.not_mem_nil)
      · have := p3 j hj
        rw [show n - h = (n - (h + 1)) + 1 by omega] at this
        have hp : ¬ 0 < Wy okI nx (n - (h + 1) + 1) h ((lkH okI nx N s0 h).l.getD j 0) := by omega
        rw [Wy_pos] at hp
        rcases Nat.eq_zero_or_pos (Wy okI nx (n - (h + 1)) (h + 1) x) with q | q
        · exact q
        · exact absurd ⟨y, by omega, hyo, by rw [e]; exact q⟩ hp
    have k2 := lkAll_k (okf := okI h) (nx := nx) (F := lkH okI nx N s0 h) (N := N) (i := p + 1) (st := (FS.nil, fun _ => 0)) ((lkH okI nx N s0 h).l.length - (p + 1))
    rw [show p + 1 + ((lkH okI nx N s0 h).l.length - (p + 1)) = (lkH okI nx N s0 h).l.length by omega] at k2
    have e1 : lkAll (okI h) nx (lkH okI nx N s0 h) N (p + 1) (FS.nil, fun _ => 0) = lkSet (okI h) nx (lkH okI nx N s0 h) (c h) N (lkAll (okI h) nx (lkH okI nx N s0 h) N p (FS.nil, fun _ => 0)) := by
      simp only [lkAll]
      rw [p2]
    rw [e1] at k2
    generalize hS : lkAll (okI h) nx (lkH okI nx N s0 h) N p (FS.nil, fun _ => 0) = S at hdead1 k2
    have k1 := lkSet_k (okf := okI h) (nx := nx) (F := lkH okI nx N s0 h) (s := c h) (n := t h + 1) (st := S) (N - (t h + 1))
    rw [show t h + 1 + (N - (t h + 1)) = N by omega] at k1
    have k12 := k1.trans k2
    have hdead2 : ∀ x, x ∈ (lkSet (okI h) nx (lkH okI nx N s0 h) (c h) (t h) S).1.l → Wy okI nx (n - (h + 1)) (h + 1) x = 0 := by
      intro x hx
      rcases (lkSet_mem _).mp hx with a | ⟨y, hy, hyo, e⟩
      · exact hdead1 x a
      · rcases Nat.eq_zero_or_pos (Wy okI nx (n - (h + 1)) (h + 1) x) with q | q
        · exact q
        · exact absurd ⟨hyo, by rw [e]; exact q⟩ (t5 y hy)
    have hnot : ¬ c (h + 1) ∈ (lkSet (okI h) nx (lkH okI nx N s0 h) (c h) (t h) S).1.l := fun hm => by
      have := hdead2 _ hm
      omega
    have e2 : lkSet (okI h) nx (lkH okI nx N s0 h) (c h) (t h + 1) S = (addF (lkSet (okI h) nx (lkH okI nx N s0 h) (c h) (t h) S).1 (c (h + 1)) ((lkH okI nx N s0 h).wy (c h)) ((lkH okI nx N s0 h).hd (c h) ||| t h), ud (lkSet (okI h) nx (lkH okI nx N s0 h) (c h) (t h) S).2 (c (h + 1)) (c h * 32 + t h)) := by
      simp only [lkSet]
      rw [if_pos t2, t3, if_neg hnot]
    generalize hT : lkSet (okI h) nx (lkH okI nx N s0 h) (c h) (t h) S = T at hdead2 hnot e2
    have hl : (lkSet (okI h) nx (lkH okI nx N s0 h) (c h) (t h + 1) S).1.l = T.1.l ++ [c (h + 1)] := by
      rw [e2]
      show (addF _ _ _ _).l = _
      rw [addF_l]; unfold addL; rw [if_neg hnot]
    have hcmm : (lkSet (okI h) nx (lkH okI nx N s0 h) (c h) (t h + 1) S).2 (c (h + 1)) = c h * 32 + t h := by
      rw [e2]; exact ud_eq
    have hin : c (h + 1) ∈ (lkSet (okI h) nx (lkH okI nx N s0 h) (c h) (t h + 1) S).1.l := by rw [hl]; simp
    have hpl : T.1.l.length < (lkSet (okI h) nx (lkH okI nx N s0 h) (c h) (t h + 1) S).1.l.length := by rw [hl]; simp
    refine ⟨⟨T.1.l.length, Nat.lt_of_lt_of_le hpl k12.1.1, ?_, fun a ha => ?_⟩, fun j hj => ?_⟩
    · show (lkAll _ _ _ _ _ _).1.l.getD _ 0 = _
      rw [k12.1.2 _ hpl, hl, List.getD_eq_getElem?_getD, List.getElem?_append_right (Nat.le_refl _)]; simp
    · show Wy okI nx _ _ ((lkAll _ _ _ _ _ _).1.l.getD a 0) = 0
      rw [k12.1.2 a (by omega), hl, List.getD_eq_getElem?_getD, List.getElem?_append_left ha, ← List.getD_eq_getElem?_getD]
      exact hdead2 _ (getD_mem ha)
    · by_cases e : j = h
      · subst e
        show (lkAll _ _ _ _ _ _).2 _ = _
        rw [(k12.2 _ hin).2]; exact hcmm
      · exact hcm j (by omega)
end LR
