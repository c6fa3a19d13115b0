/-! how near all are to rest -/
section RP
variable (ok : Nat → Nat → Bool) (nx : Nat → Nat → Nat) (goal : Nat → Bool)
/-- a goal is come to in just k hours -/
def gK : Nat → Nat → Prop
  | 0, s => goal s = true
  | k + 1, s => ∃ set, set < 32 ∧ ok s set = true ∧ gK k (nx s set)
/-- in k hours, and not before -/
def Ds (s k : Nat) : Prop := gK ok nx goal k s ∧ ∀ j, j < k → ¬ gK ok nx goal j s
theorem Ds_un {s k j : Nat} (h : Ds ok nx goal s k) (h2 : Ds ok nx goal s j) : k = j := by
  rcases Nat.lt_trichotomy k j with q | q | q
  · exact absurd h.1 (h2.2 k q)
  · exact q
  · exact absurd h2.1 (h.2 j q)
theorem Ds_of {s k : Nat} (h : gK ok nx goal k s) : ∃ j, j ≤ k ∧ Ds ok nx goal s j := by
  induction k using Nat.strongRecOn with
  | ind k ih =>
    by_cases q : ∃ j, j < k ∧ gK ok nx goal j s
    · obtain ⟨j, hj, hg⟩ := q
      obtain ⟨i, hi, hd⟩ := ih j hj hg
      exact ⟨i, by omega, hd⟩
    · exact ⟨k, Nat.le_refl _, h, fun j hj hg => q ⟨j, hj, hg⟩⟩
/-- the sets that bring it about, the first ones -/
def Chn (s0 D : Nat) (c t : Nat → Nat) : Prop := c 0 = s0 ∧ ∀ k, k < D → t k < 32 ∧ ok (c k) (t k) = true ∧ nx (c k) (t k) = c (k + 1) ∧ Ds ok nx goal (c (k + 1)) (D - (k + 1)) ∧ ∀ x, x < t k → ¬ (ok (c k) x = true ∧ Ds ok nx goal (nx (c k) x) (D - (k + 1)))
theorem least_of {Pr : Nat → Prop} {n : Nat} (h : Pr n) : ∃ m, m ≤ n ∧ Pr m ∧ ∀ x, x < m → ¬ Pr x := by
  induction n using Nat.strongRecOn with
  | ind n ih =>
    by_cases q : ∃ j, j < n ∧ Pr j
    · obtain ⟨j, hj, hg⟩ := q
      obtain ⟨i, hi, hd⟩ := ih j hj hg
      exact ⟨i, by omega, hd⟩
    · exact ⟨n, Nat.le_refl _, h, fun j hj hg => q ⟨j, hj, hg⟩⟩
theorem Ds_succ {s D : Nat} (h : Ds ok nx goal s (D + 1)) : ∃ set, set < 32 ∧ ok s set = true ∧ Ds ok nx goal (nx s set) D := by
  obtain ⟨⟨set, h1, h2, h3⟩, h4⟩ := h
  refine ⟨set, h1, h2, h3, fun j hj hg => h4 (j + 1) (by omega) ⟨set, h1, h2, hg⟩⟩
theorem Chn_of : ∀ (D s0 : Nat), Ds ok nx goal s0 D → ∃ c t, Chn ok nx goal s0 D c t
  | 0, s0, _ => ⟨fun _ => s0, fun _ => 0, rfl, fun k hk => absurd hk (by omega)⟩
  | D + 1, s0, h => by
    obtain ⟨set, h1, h2, h3⟩ := Ds_succ ok nx goal h
    obtain ⟨m, m1, m2, m3⟩ := least_of (Pr := fun x => ok s0 x = true ∧ Ds ok nx goal (nx s0 x) D) ⟨h2, h3⟩
    obtain ⟨c, t, c0, hc⟩ := Chn_of D (nx s0 m) m2.2
    refine ⟨fun k => match k with
      | 0 => s0
      | k + 1 => c k, fun k => match k with
      | 0 => m
      | k + 1 => t k, rfl, fun k hk => ?_⟩
    cases k with
    | zero =>
      refine ⟨show m < 32 by omega, m2.1, c0.symm, ?_, fun x hx => ?_⟩
      · show Ds ok nx goal (c 0) (D + 1 - 1)
        rw [c0]; exact m2.2
      · exact m3 x hx
    | succ k =>
      have := hc k (by omega)
      rw [show D + 1 - (k + 1 + 1) = D - (k + 1) by omega]
      exact this
theorem Chn_ds {s0 D : Nat} {c t : Nat → Nat} (h : Chn ok nx goal s0 D c t) (h0 : Ds ok nx goal s0 D) : ∀ k, k ≤ D → Ds ok nx goal (c k) (D - k)
  | 0, _ => by rw [h.1]; exact h0
  | k + 1, hk => (h.2 k (by omega)).2.2.2.1
theorem Chn_un {s0 D : Nat} {c t c' t' : Nat → Nat} (h : Chn ok nx goal s0 D c t) (h' : Chn ok nx goal s0 D c' t') : ∀ k, k ≤ D → c k = c' k ∧ (k < D → t k = t' k)
  | 0, _ => by
    have e : c 0 = c' 0 := by rw [h.1, h'.1]
    refine ⟨e, fun hk => ?_⟩
    obtain ⟨a1, a2, a3, a4, a5⟩ := h.2 0 hk
    obtain ⟨b1, b2, b3, b4, b5⟩ := h'.2 0 hk
    rcases Nat.lt_trichotomy (t 0) (t' 0) with q | q | q
    · exact absurd ⟨by rw [← e]; exact a2, by rw [← e, a3]; exact a4⟩ (b5 _ q)
    · exact q
    · exact absurd ⟨by rw [e]; exact b2, by rw [e, b3]; exact b4⟩ (a5 _ q)
  | k + 1, hk => by
    obtain ⟨e0, et⟩ := Chn_un h h' k (by omega)
    have e : c (k + 1) = c' (k + 1) := by
      rw [← (h.2 k (by omega)).2.2.1, ← (h'.2 k (by omega)).2.2.1, e0, et (by omega)]
    refine ⟨e, fun hk' => ?_⟩
    obtain ⟨a1, a2, a3, a4, a5⟩ := h.2 (k + 1) hk'
    obtain ⟨b1, b2, b3, b4, b5⟩ := h'.2 (k + 1) hk'
    rcases Nat.lt_trichotomy (t (k + 1)) (t' (k + 1)) with q | q | q
    · exact absurd ⟨by rw [← e]; exact a2, by rw [← e, a3]; exact a4⟩ (b5 _ q)
    · exact q
    · exact absurd ⟨by rw [e]; exact b2, by rw [e, b3]; exact b4⟩ (a5 _ q)
end RP
/-- what a walk to a goal keeps -/
def GInv (ok : Nat → Nat → Bool) (nx : Nat → Nat → Nat) (goal : Nat → Bool) (s0 D : Nat) (c t : Nat → Nat) (i : Nat) (w : WS) : Prop := i ≤ w.l.length ∧
  (∀ x, x ∈ w.l → ∀ m, gK ok nx goal m x → D ≤ w.fr x + m) ∧
  (∀ a b, a ≤ b → b < w.l.length → w.fr (w.l.getD a 0) ≤ w.fr (w.l.getD b 0)) ∧
  (∀ b, b < w.l.length → i < w.l.length → w.fr (w.l.getD b 0) ≤ w.fr (w.l.getD i 0) + 1) ∧
  ∃ k p, k ≤ D ∧ i ≤ p ∧ p < w.l.length ∧ w.l.getD p 0 = c k ∧ w.fr (c k) = k ∧ (∀ a, a < p → w.fr (w.l.getD a 0) = k → ¬ Ds ok nx goal (w.l.getD a 0) (D - k)) ∧ (∀ x, x ∈ w.l → w.fr x = k + 1 → k + 1 ≤ D → ¬ Ds ok nx goal x (D - (k + 1))) ∧ ∀ j, j < k → c (j + 1) ∈ w.l ∧ w.cm (c (j + 1)) = c j * 32 + t j
theorem exW_new {ok : Nat → Nat → Bool} {nx : Nat → Nat → Nat} {s : Nat} {w : WS} : ∀ n x, x ∈ (exW ok nx s n w).l → x ∈ w.l ∨ ∃ set, set < n ∧ ok s set = true ∧ x = nx s set ∧ (exW ok nx s n w).fr x = w.fr s + 1 ∧ (exW ok nx s n w).cm x = s * 32 + set
  | 0, x, hx => Or.inl hx
  | n + 1, x, hx => by
    by_cases q : ok s n = true
    · have e : exW ok nx s (n + 1) w = addW (exW ok nx s n w) (nx s n) (w.fr s + 1) (s * 32 + n) := by simp only [exW]; rw [if_pos q]
      rw [e] at hx ⊢
      by_cases m : x ∈ (exW ok nx s n w).l
      · rw [(addW_fr m).1, (addW_fr m).2]
        rcases exW_new n x m with a | ⟨set, h1, h2, h3, h4, h5⟩
        · exact Or.inl a
        · exact Or.inr ⟨set, by omega, h2, h3, h4, h5⟩
      · rw [addW_l] at hx
        have ex : x = nx s n := (addL_mem.mp hx).elim (fun a => absurd a m) id
        subst ex
        exact Or.inr ⟨n, by omega, q, rfl, (addW_new m).1, (addW_new m).2⟩
    · have e : exW ok nx s (n + 1) w = exW ok nx s n w := by simp only [exW]; rw [if_neg q]
      rw [e] at hx ⊢
      rcases exW_new n x hx with a | ⟨set, h1, h2, h3, h4, h5⟩
      · exact Or.inl a
      · exact Or.inr ⟨set, by omega, h2, h3, h4, h5⟩
theorem exW_mono {ok : Nat → Nat → Bool} {nx : Nat → Nat → Nat} {s : Nat} {w : WS} {n : Nat} : ∀ k, pre (exW ok nx s n w).l (exW ok nx s (n + k) w).l ∧ ∀ x, x ∈ (exW ok nx s n w).l → x ∈ (exW ok nx s (n + k) w).l ∧ (exW ok nx s (n + k) w).fr x = (exW ok nx s n w).fr x ∧ (exW ok nx s (n + k) w).cm x = (exW ok nx s n w).cm x
  | 0 => ⟨pre.refl, fun x hx => ⟨hx, rfl, rfl⟩⟩
  | k + 1 => by
    obtain ⟨a, b⟩ := exW_mono (ok := ok) (nx := nx) (s := s) (w := w) (n := n) k
    rw [← Nat.add_assoc]
    by_cases q : ok s (n + k) = true
    · have e : exW ok nx s (n + k + 1) w = addW (exW ok nx s (n + k) w) (nx s (n + k)) (w.fr s + 1) (s * 32 + (n + k)) := by simp only [exW]; rw [if_pos q]
      rw [e]
      refine ⟨a.trans (by rw [addW_l]; exact addL_pre), fun x hx => ?_⟩
      obtain ⟨b1, b2, b3⟩ := b x hx
      exact ⟨by rw [addW_l]; exact addL_mem.mpr (Or.inl b1), by rw [(addW_fr b1).1, b2], by rw [(addW_fr b1).2, b3]⟩
    · have e : exW ok nx s (n + k + 1) w = exW ok nx s (n + k) w := by simp only [exW]; rw [if_neg q]
      rw [e]
      exact ⟨a, b⟩
theorem exW_nodup {ok : Nat → Nat → Bool} {nx : Nat → Nat → Nat} {s : Nat} {w : WS} (h : w.l.Nodup) : ∀ n, (exW ok nx s n w).l.Nodup
  | 0 => h
  | n + 1 => by
    have ih := exW_nodup (ok := ok) (nx := nx) (s := s) h n
    simp only [exW]
    split
    · rw [addW_l]; exact addL_nodup ih
    · exact ih
theorem GInv.start {ok : Nat → Nat → Bool} {nx : Nat → Nat → Nat} {goal : Nat → Bool} {s0 D : Nat} {c t : Nat → Nat} (h : Ds ok nx goal s0 D) (hc : c 0 = s0) : GInv ok nx goal s0 D c t 0 (w0 s0) := by
  have hl : (w0 s0).l = [s0] := rfl
  have hf : ∀ x, (w0 s0).fr x = 0 := fun _ => rfl
  refine ⟨Nat.zero_le _, fun x hx m hm => ?_, fun a b _ _ => ?_, fun b _ _ => ?_, 0, 0, Nat.zero_le _, Nat.le_refl _, by rw [hl]; simp, ?_, hf _, fun a ha => absurd ha (by omega), fun x hx e => ?_, fun j hj => absurd hj (by omega)⟩
  · rw [hl] at hx
    have : x = s0 := by simpa using hx
    subst this
    rw [hf]
    rcases Nat.lt_or_ge m D with q | q
    · exact absurd hm (h.2 m q)
    · omega
  · rw [hf, hf]; exact Nat.le_refl _
  · rw [hf]; exact Nat.zero_le _
  · rw [hc, hl]; rfl
  · rw [hf] at e; omega
theorem GInv.step {ok : Nat → Nat → Bool} {nx : Nat → Nat → Nat} {goal : Nat → Bool} {s0 D N i : Nat} {c t : Nat → Nat} {w : WS} (hN : N ≤ 32) (ho : ∀ s set, N ≤ set → set < 32 → ok s set = false) (h0 : Ds ok nx goal s0 D) (hch : Chn ok nx goal s0 D c t) (hn : w.l.Nodup) (h : GInv ok nx goal s0 D c t i w) (hi : i < w.l.length) (hg : goal (w.l.getD i 0) = false) : GInv ok nx goal s0 D c t (i + 1) (exW ok nx (w.l.getD i 0) N w) := by
  obtain ⟨g0, g1, g2, g3, k, p, hk, hip, hp, hpc, hfk, g4, g5, g6⟩ := h
  obtain ⟨p1, p2⟩ := exW_pre (ok := ok) (nx := nx) (s := w.l.getD i 0) (w := w) N
  have hnew := exW_new (ok := ok) (nx := nx) (s := w.l.getD i 0) (w := w) N
  have hnd' := exW_nodup (ok := ok) (nx := nx) (s := w.l.getD i 0) hn N
  have hsm := getD_mem hi
  generalize hs : w.l.getD i 0 = s at *
  generalize hw' : exW ok nx s N w = w' at *
  -- places of the new list
  have hold : ∀ b, b < w.l.length → w'.l.getD b 0 = w.l.getD b 0 ∧ w'.fr (w.l.getD b 0) = w.fr (w.l.getD b 0) := fun b hb => ⟨p1.2 b hb, (p2 _ (getD_mem hb)).2.1⟩
  have hnw : ∀ b, w.l.length ≤ b → b < w'.l.length → w'.fr (w'.l.getD b 0) = w.fr s + 1 := by
    intro b hb hb'
    rcases hnew _ (getD_mem hb') with a | ⟨set, h1, h2, h3, h4, h5⟩
    · obtain ⟨j, hj, ej⟩ := mem_getD a
      have := getD_inj hnd' (show j < w'.l.length by have := p1.1; omega) hb' (by rw [(hold j hj).1, ej])
      omega
    · exact h4
  have hle : ∀ b, b < w'.l.length → w'.fr (w'.l.getD b 0) ≤ w.fr s + 1 := by
    intro b hb
    rcases Nat.lt_or_ge b w.l.length with q | q
    · rw [(hold b q).1, (hold b q).2]; exact g3 b q hi
    · rw [hnw b q hb]; exact Nat.le_refl _
  have hfi : ∀ b, i ≤ b → b < w'.l.length → w.fr s ≤ w'.fr (w'.l.getD b 0) := by
    intro b hb hb'
    rcases Nat.lt_or_ge b w.l.length with q | q
    · rw [(hold b q).1, (hold b q).2, ← hs]; exact g2 i b hb q
    · rw [hnw b q hb']; omega
  have h1' : ∀ x, x ∈ w'.l → ∀ m, gK ok nx goal m x → D ≤ w'.fr x + m := by
    intro x hx m hm
    rcases hnew x hx with a | ⟨set, h1, h2, h3, h4, h5⟩
    · rw [(p2 x a).2.1]; exact g1 x a m hm
    · rw [h4]
      have := g1 s hsm (m + 1) ⟨set, by omega, h2, by rw [← h3]; exact hm⟩
      omega
  have h2' : ∀ a b, a ≤ b → b < w'.l.length → w'.fr (w'.l.getD a 0) ≤ w'.fr (w'.l.getD b 0) := by
    intro a b hab hb
    rcases Nat.lt_or_ge b w.l.length with q | q
    · rw [(hold b q).1, (hold b q).2, (hold a (by omega)).1, (hold a (by omega)).2]; exact g2 a b hab q
    · rw [hnw b q hb]; exact hle a (by omega)
  refine ⟨by have := p1.1; omega, h1', h2', fun b hb hi' => ?_, ?_⟩
  · have := hle b hb
    have := hfi (i + 1) (by omega) hi'
    omega
  -- the chain
  rcases Nat.lt_or_ge i p with q | q
  · refine ⟨k, p, hk, by omega, by have := p1.1; omega, by rw [(hold p hp).1]; exact hpc, ?_, fun a ha e => ?_, fun x hx e hkD => ?_, fun j hj => ?_⟩
    · rw [← hpc, (hold p hp).2, hpc]; exact hfk
    · rw [(hold a (by omega)).1] at e ⊢
      rw [(hold a (by omega)).2] at e
      exact g4 a ha e
    · rcases hnew x hx with a | ⟨set, h1, h2, h3, h4, h5⟩
      · rw [(p2 x a).2.1] at e
        exact g5 x a e hkD
      · intro hds
        have hfs : w.fr s = k := by omega
        have hg' : gK ok nx goal (D - k) s := by
          rw [show D - k = (D - (k + 1)) + 1 by omega]
          exact ⟨set, by omega, h2, by rw [← h3]; exact hds.1⟩
        obtain ⟨j, hj, hdj⟩ := Ds_of ok nx goal hg'
        have := g1 s hsm j hdj.1
        have hje : j = D - k := by omega
        refine g4 i q (by rw [hs]; exact hfs) ?_
        rw [hs, ← hje]; exact hdj
    · obtain ⟨a1, a2⟩ := g6 j hj
      exact ⟨(p2 _ a1).1, by rw [(p2 _ a1).2.2]; exact a2⟩
  · have hpe : p = i := by omega
    subst hpe
    have hsc : s = c k := by rw [← hs]; exact hpc
    have hfs : w.fr s = k := by rw [hsc]; exact hfk
    have hdk := Chn_ds ok nx goal hch h0 k hk
    have hkD : k < D := by
      rcases Nat.lt_or_ge k D with a | a
      · exact a
      · rw [show D - k = 0 by omega, ← hsc] at hdk
        have : goal s = true := hdk.1
        rw [this] at hg; cases hg
    obtain ⟨c1, c2, c3, c4, c5⟩ := hch.2 k hkD
    rw [← hsc] at c2 c3 c5
    have htN : t k < N := by
      rcases Nat.lt_or_ge (t k) N with a | a
      · exact a
      · rw [ho s (t k) a c1] at c2; cases c2
    have hnot : ¬ c (k + 1) ∈ w.l := by
      intro hm
      have e1 := g1 _ hm _ c4.1
      obtain ⟨b, hb, eb⟩ := mem_getD hm
      have e2 := g3 b hb hi
      rw [eb, hfs] at e2
      exact g5 _ hm (by omega) (by omega) c4
    have hnot1 : ¬ c (k + 1) ∈ (exW ok nx s (t k) w).l := by
      intro hm
      rcases exW_new (t k) _ hm with a | ⟨set, h1, h2, h3, h4, h5⟩
      · exact hnot a
      · exact c5 set h1 ⟨h2, by rw [← h3]; exact c4⟩
    have e1 : exW ok nx s (t k + 1) w = addW (exW ok nx s (t k) w) (c (k + 1)) (w.fr s + 1) (s * 32 + t k) := by simp only [exW]; rw [if_pos c2, c3]
    have el : (exW ok nx s (t k + 1) w).l = (exW ok nx s (t k) w).l ++ [c (k + 1)] := by
      rw [e1, addW_l]; unfold addL; rw [if_neg hnot1]
    obtain ⟨m1, m2⟩ := exW_mono (ok := ok) (nx := nx) (s := s) (w := w) (n := t k + 1) (N - (t k + 1))
    rw [show t k + 1 + (N - (t k + 1)) = N by omega, hw'] at m1 m2
    obtain ⟨q1, q2⟩ := exW_mono (ok := ok) (nx := nx) (s := s) (w := w) (n := t k) (N - t k)
    rw [show t k + (N - t k) = N by omega, hw'] at q1 q2
    have hin : c (k + 1) ∈ (exW ok nx s (t k + 1) w).l := by rw [el]; simp
    have hlen1 : w.l.length ≤ (exW ok nx s (t k) w).l.length := (exW_pre (ok := ok) (nx := nx) (s := s) (w := w) (t k)).1.1
    have hfr1 : w'.fr (c (k + 1)) = k + 1 := by rw [(m2 _ hin).2.1, e1, (addW_new hnot1).1, hfs]
    have hcm1 : w'.cm (c (k + 1)) = c k * 32 + t k := by rw [(m2 _ hin).2.2, e1, (addW_new hnot1).2, hsc]
    have hple : (exW ok nx s (t k) w).l.length < (exW ok nx s (t k + 1) w).l.length := by rw [el]; simp
    refine ⟨k + 1, (exW ok nx s (t k) w).l.length, by omega, by omega, by have := m1.1; omega, ?_, hfr1, fun a ha e => ?_, fun x hx e => ?_, fun j hj => ?_⟩
    · rw [m1.2 _ hple, el, List.getD_eq_getElem?_getD, List.getElem?_append_right (Nat.le_refl _)]; simp
    · rw [q1.2 a ha] at e ⊢
      have hma := getD_mem ha
      rcases exW_new (t k) _ hma with b | ⟨set, h1, h2, h3, h4, h5⟩
      · rw [(p2 _ b).2.1] at e
        exact g5 _ b e (by omega)
      · intro hds
        rw [h3] at hds
        exact c5 set h1 ⟨h2, hds⟩
    · obtain ⟨b, hb, eb⟩ := mem_getD hx
      have := hle b hb
      rw [eb, hfs] at this
      omega
    · by_cases ej : j = k
      · subst ej
        exact ⟨(m2 _ hin).1, hcm1⟩
      · obtain ⟨a1, a2⟩ := g6 j (by omega)
        exact ⟨(p2 _ a1).1, by rw [(p2 _ a1).2.2]; exact a2⟩
theorem GInv.found {ok : Nat → Nat → Bool} {nx : Nat → Nat → Nat} {goal : Nat → Bool} {s0 D i : Nat} {c t : Nat → Nat} {w : WS} (h : GInv ok nx goal s0 D c t i w) (hi : i < w.l.length) (hg : goal (w.l.getD i 0) = true) : w.l.getD i 0 = c D ∧ w.fr (c D) = D ∧ ∀ j, j < D → c (j + 1) ∈ w.l ∧ w.cm (c (j + 1)) = c j * 32 + t j := by
  obtain ⟨g0, g1, g2, g3, k, p, hk, hip, hp, hpc, hfk, g4, g5, g6⟩ := h
  have e1 := g1 _ (getD_mem hi) 0 hg
  have e2 := g2 i p hip hp
  rw [hpc, hfk] at e2
  have hkD : k = D := by omega
  subst hkD
  have hpi : p = i := by
    rcases Nat.lt_or_ge i p with q | q
    · refine absurd ?_ (g4 i q (by omega))
      rw [Nat.sub_self]
      exact ⟨hg, fun j hj => absurd hj (by omega)⟩
    · omega
  subst hpi
  exact ⟨hpc, hfk, g6⟩
