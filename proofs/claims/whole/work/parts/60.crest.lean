section RQ
variable (ok : Nat → Nat → Bool) (nx : Nat → Nat → Nat) (goal : Nat → Bool)
noncomputable def dstI (s0 : Nat) : Int := Classical.epsilon (fun r : Int => (∃ D : Nat, r = D ∧ Ds ok nx goal s0 D) ∨ (r = -1 ∧ ∀ k, ¬ gK ok nx goal k s0))
noncomputable def rbI (s0 i : Nat) : Int := Classical.epsilon (fun r : Int => (∃ (D : Nat) (c t : Nat → Nat), Ds ok nx goal s0 D ∧ Chn ok nx goal s0 D c t ∧ r = if i < D then (t i : Int) else -1) ∨ (r = -1 ∧ ∀ k, ¬ gK ok nx goal k s0))
theorem dstI_D {s0 D : Nat} (h : Ds ok nx goal s0 D) : dstI ok nx goal s0 = D := by
  have := Classical.epsilon_spec (p := fun r : Int => (∃ D : Nat, r = D ∧ Ds ok nx goal s0 D) ∨ (r = -1 ∧ ∀ k, ¬ gK ok nx goal k s0)) ⟨(D : Int), Or.inl ⟨D, rfl, h⟩⟩
  unfold dstI
  rcases this with ⟨E, e, hE⟩ | ⟨_, hn⟩
  · rw [e, Ds_un ok nx goal hE h]
  · exact absurd h.1 (hn D)
theorem dstI_n {s0 : Nat} (h : ∀ k, ¬ gK ok nx goal k s0) : dstI ok nx goal s0 = -1 := by
  have := Classical.epsilon_spec (p := fun r : Int => (∃ D : Nat, r = D ∧ Ds ok nx goal s0 D) ∨ (r = -1 ∧ ∀ k, ¬ gK ok nx goal k s0)) ⟨-1, Or.inr ⟨rfl, h⟩⟩
  unfold dstI
  rcases this with ⟨E, e, hE⟩ | ⟨e, _⟩
  · exact absurd hE.1 (h E)
  · exact e
theorem rbI_D {s0 i D : Nat} {c t : Nat → Nat} (h : Ds ok nx goal s0 D) (hc : Chn ok nx goal s0 D c t) : rbI ok nx goal s0 i = if i < D then (t i : Int) else -1 := by
  have := Classical.epsilon_spec (p := fun r : Int => (∃ (D : Nat) (c t : Nat → Nat), Ds ok nx goal s0 D ∧ Chn ok nx goal s0 D c t ∧ r = if i < D then (t i : Int) else -1) ∨ (r = -1 ∧ ∀ k, ¬ gK ok nx goal k s0)) ⟨_, Or.inl ⟨D, c, t, h, hc, rfl⟩⟩
  unfold rbI
  rcases this with ⟨E, c', t', hE, hc', e⟩ | ⟨_, hn⟩
  · have := Ds_un ok nx goal hE h
    subst this
    rw [e]
    by_cases q : i < E
    · rw [if_pos q, if_pos q, (Chn_un ok nx goal hc' hc i (by omega)).2 q]
    · rw [if_neg q, if_neg q]
  · exact absurd h.1 (hn D)
theorem rbI_n {s0 i : Nat} (h : ∀ k, ¬ gK ok nx goal k s0) : rbI ok nx goal s0 i = -1 := by
  have := Classical.epsilon_spec (p := fun r : Int => (∃ (D : Nat) (c t : Nat → Nat), Ds ok nx goal s0 D ∧ Chn ok nx goal s0 D c t ∧ r = if i < D then (t i : Int) else -1) ∨ (r = -1 ∧ ∀ k, ¬ gK ok nx goal k s0)) ⟨-1, Or.inr ⟨rfl, h⟩⟩
  unfold rbI
  rcases this with ⟨E, c', t', hE, hc', e⟩ | ⟨e, _⟩
  · exact absurd hE.1 (h E)
  · exact e
end RQ
def goalN (σ : Sg) (n : Int) : Nat → Bool := aHave σ.h.P n.toNat
noncomputable def aRested (σ : Sg) (n : Int) : Int := if 0 ≤ n ∧ n ≤ 4 then dstI (okA σ.h σ.m.sd σ.m.cold false) (nxt σ.h σ.m.sd σ.m.cold) (goalN σ n) (cod σ.m.st σ.h.P) else -3
noncomputable def aRestBy (σ : Sg) (n i : Int) : Int := if (0 ≤ n ∧ n ≤ 4) ∧ 0 ≤ i then rbI (okA σ.h σ.m.sd σ.m.cold false) (nxt σ.h σ.m.sd σ.m.cold) (goalN σ n) (cod σ.m.st σ.h.P) i.toNat else -3
/-- a walk to a goal done: none, or it lies where the chain ends -/
def WDn (M : AM) (ok : Nat → Nat → Bool) (nx : Nat → Nat → Nat) (goal : Nat → Bool) (s0 : Nat) : Prop := ((∀ k, ¬ gK ok nx goal k s0) ∧ M 49 4 = -1) ∨ ∃ (D : Nat) (c t : Nat → Nat), Ds ok nx goal s0 D ∧ Chn ok nx goal s0 D c t ∧ M 49 4 = c D ∧ (∀ k, k ≤ D → c k < 3125) ∧ M 51 (c D) = D ∧ ∀ j, j < D → M 52 (c (j + 1)) = ((c j * 32 + t j : Nat) : Int)
section RR
variable {G : AG} {d : Nat} {M : AM}
theorem c_walkTo {B : Nat} {n : Nat} {σ : Sg} (hd : 12 ≤ d) (ok : SgOK B σ) (hS : StOK M σ.h σ.m.sd σ.m.cold (2 ^ σ.h.P - 1)) :
    MS G d mi_Wk_spread [vr 49, vr 33, vi (cod σ.m.st σ.h.P), vi n, vi 0] M (fun r M' => r = none ∧ WDn M' (okA σ.h σ.m.sd σ.m.cold false) (nxt σ.h σ.m.sd σ.m.cold) (goalN σ n) (cod σ.m.st σ.h.P) ∧ StOK M' σ.h σ.m.sd σ.m.cold (2 ^ σ.h.P - 1) ∧ Same [33, 49, 50, 51, 52] M M') := by
  have hok := ok.2.2.1
  have hP := hok.1
  have h32 := p2_32 hP
  have mok := ok.2.2.2.1.1
  have h5 := p5 hP
  have hs5 : cod σ.m.st σ.h.P < 5 ^ σ.h.P := cod_5P (fun p => (mok.1 p).2)
  have hout : ∀ s set, 2 ^ σ.h.P ≤ set → set < 32 → okA σ.h σ.m.sd σ.m.cold false s set = false := fun s set h1 h2 => okA_out hP h1 h2
  generalize hg : goalN σ n = goal
  generalize ho : okA σ.h σ.m.sd σ.m.cold false = okf at hout ⊢
  generalize hs0 : cod σ.m.st σ.h.P = s0 at hs5 ⊢
  have hgg : ∀ s, goal s = aHave σ.h.P n s := fun s => by rw [← hg]; rfl
  by_cases q : ∃ k, gK okf (nxt σ.h σ.m.sd σ.m.cold) goal k s0
  · obtain ⟨k, hk⟩ := q
    obtain ⟨D, -, hD⟩ := Ds_of _ _ _ hk
    obtain ⟨c, t, hc⟩ := Chn_of _ _ _ D s0 hD
    have := c_Wk_spread (G := G) (d := d) (M := M) (h := σ.h) (sd := σ.m.sd) (cold := σ.m.cold) (s0 := s0) (both := false) (n := n) (goal := goal) (I := fun i w => w.l.Nodup ∧ GInv okf (nxt σ.h σ.m.sd σ.m.cold) goal s0 D c t i w) (by omega) hok hS hs5 (Or.inr ⟨n, rfl, hgg⟩) ⟨by simp [w0, mkW, WS.l], GInv.start hD hc.1⟩ (fun i w hI hi hgi => by rw [ho]; exact ⟨exW_nodup hI.1 _, hI.2.step h32 hout hD hc hI.1 hi hgi⟩)
    refine this.mono ?_
    rintro r M' okM' ⟨rfl, ⟨i, w, ⟨hn, hI⟩, hw, hx5, hgoal⟩, v1, v2⟩
    refine ⟨rfl, Or.inr ?_, v1, v2⟩
    rcases hgoal with ⟨hi, hgi, h4⟩ | ⟨hi, h4⟩
    · obtain ⟨f1, f2, f3⟩ := hI.found hi hgi
      have hcl : ∀ k, k ≤ D → c k < 3125 := by
        intro k hk'
        cases k with
        | zero => rw [hc.1]; omega
        | succ j => exact hw.2.2.2.2.2 _ (f3 j (by omega)).1
      have hm : c D ∈ w.l := by rw [← f1]; exact getD_mem hi
      refine ⟨D, c, t, hD, hc, by rw [h4, f1], hcl, ?_, fun j hj => ?_⟩
      · rw [hw.2.2.1 _ (hw.2.2.2.2.2 _ hm), if_pos hm, f2]
      · rw [hw.2.2.2.1 _ (f3 j hj).1, (f3 j hj).2]
    · obtain ⟨g0, g1, g2, g3, k', p, hkk, hip, hp, hpc, hfk, g4, g5, g6⟩ := hI
      omega
  · have hno : ∀ k, ¬ gK okf (nxt σ.h σ.m.sd σ.m.cold) goal k s0 := fun k hk => q ⟨k, hk⟩
    have := c_Wk_spread (G := G) (d := d) (M := M) (h := σ.h) (sd := σ.m.sd) (cold := σ.m.cold) (s0 := s0) (both := false) (n := n) (goal := goal) (I := fun i w => ∀ x, x ∈ w.l → ∀ k, ¬ gK okf (nxt σ.h σ.m.sd σ.m.cold) goal k x) (by omega) hok hS hs5 (Or.inr ⟨n, rfl, hgg⟩) (fun x hx => by
      have : x = s0 := by simpa [w0, mkW, WS.l] using hx
      rw [this]; exact hno) (fun i w hI hi hgi => by
      rw [ho]
      exact exW_all (R := fun x _ => ∀ k, ¬ gK okf (nxt σ.h σ.m.sd σ.m.cold) goal k x) (fun x hx => hI x hx) _ (fun set hs hok' k hk => hI _ (getD_mem hi) (k + 1) ⟨set, by omega, hok', hk⟩))
    refine this.mono ?_
    rintro r M' okM' ⟨rfl, ⟨i, w, hI, hw, hx5, hgoal⟩, v1, v2⟩
    refine ⟨rfl, Or.inl ⟨hno, ?_⟩, v1, v2⟩
    rcases hgoal with ⟨hi, hgi, h4⟩ | ⟨hi, h4⟩
    · exact absurd hgi (hI _ (getD_mem hi) 0)
    · exact h4
theorem c_Wk_hoursToGoal {okf : Nat → Nat → Bool} {nx : Nat → Nat → Nat} {goal : Nat → Bool} {s0 : Nat} (h : WDn M okf nx goal s0) : MS G d mi_Wk_hoursToGoal [vr 49] M (fun r M' => r = some (vi (dstI okf nx goal s0)) ∧ M' = M) := by
  refine MS.run ck_Wk_hoursToGoal [some (vr 49)] [] 10 fun _ _ => ?_
  rcases h with ⟨hn, h4⟩ | ⟨D, c, t, hD, hc, h4, hl, h51, h52⟩
  · rw [dstI_n okf nx goal hn]
    simp only [wR, wB, wE0, wE1, wE2, wE3, g0, gS, s10, s11, s1S, s20, s21, s2S, kl0, kl1, kl2, kl3, sp0, sp1, sp2, sp3, cn1, cn2, cn3, cn4, cn5, cn6, jJa, lk0, lk1, jmS, jmN, s4_0, s4_1, s4_2, s4_3, s4_4, sw0, sw1, cKs, cKn, true_and, and_true, List.map_cons, List.map_nil, Nat.reduceAdd, Nat.zero_add, Int.reduceAdd, Nat.reduceEqDiff, reduceIte, Classical.not_not, b_Wk_hoursToGoal, shWk, h4]
    (repeat' (first | omega | (with_reducible exact True.intro) | exact ⟨by omega, by omega⟩ | (with_reducible exact Or.inr trivial) | (with_reducible exact Or.inl trivial) | (with_reducible assumption) | (with_reducible exact Same.refl) | (with_reducible rfl) | (with_reducible refine And.intro ?_ ?_) | (with_reducible intro _)))
  · rw [dstI_D okf nx goal hD]
    have := hl D (Nat.le_refl _)
    simp only [wR, wB, wE0, wE1, wE2, wE3, g0, gS, s10, s11, s1S, s20, s21, s2S, kl0, kl1, kl2, kl3, sp0, sp1, sp2, sp3, cn1, cn2, cn3, cn4, cn5, cn6, jJa, lk0, lk1, jmS, jmN, s4_0, s4_1, s4_2, s4_3, s4_4, sw0, sw1, cKs, cKn, true_and, and_true, List.map_cons, List.map_nil, Nat.reduceAdd, Nat.zero_add, Int.reduceAdd, Nat.reduceEqDiff, reduceIte, Classical.not_not, b_Wk_hoursToGoal, shWk, h4, h51]
    (repeat' (first | omega | (with_reducible exact True.intro) | exact ⟨by omega, by omega⟩ | (with_reducible exact Or.inr trivial) | (with_reducible exact Or.inl trivial) | (with_reducible assumption) | (with_reducible exact Same.refl) | (with_reducible rfl) | (with_reducible refine And.intro ?_ ?_) | (with_reducible intro _)))
theorem c_Wk_setAt {okf : Nat → Nat → Bool} {nx : Nat → Nat → Nat} {goal : Nat → Bool} {s0 i : Nat} (hd : 1 ≤ d) (h : WDn M okf nx goal s0) : MS G d mi_Wk_setAt [vr 49, vi i] M (fun r M' => r = some (vi (rbI okf nx goal s0 i)) ∧ M' = M) := by
  refine MS.by ck_Wk_setAt [some (vr 49), some (vi i), none, none, none] fun _ hokM => ?_
  refine AW.run ck_Wk_setAt [14, 16] 10 0 ?_
  simp only [wR, wB, wE0, wE1, wE2, wE3, g0, gS, s10, s11, s1S, s20, s21, s2S, kl0, kl1, kl2, kl3, sp0, sp1, sp2, sp3, cn1, cn2, cn3, cn4, cn5, cn6, jJa, lk0, lk1, jmS, jmN, s4_0, s4_1, s4_2, s4_3, s4_4, sw0, sw1, cKs, cKn, true_and, and_true, List.map_cons, List.map_nil, Nat.reduceAdd, Nat.zero_add, Int.reduceAdd, Nat.reduceEqDiff, reduceIte, Classical.not_not, b_Wk_setAt, shWk]
  refine ⟨by omega, MS.to (c_Wk_hoursToGoal h) fun _ => ?_⟩
  generalize hQ : (fun (r : Option AV) (M' : AM) => r = some (vi (rbI okf nx goal s0 i)) ∧ M' = M) = Q
  simp only [wR, wB, wE0, wE1, wE2, wE3, g0, gS, s10, s11, s1S, s20, s21, s2S, kl0, kl1, kl2, kl3, sp0, sp1, sp2, sp3, cn1, cn2, cn3, cn4, cn5, cn6, jJa, lk0, lk1, jmS, jmN, s4_0, s4_1, s4_2, s4_3, s4_4, sw0, sw1, cKs, cKn, true_and, and_true, List.map_cons, List.map_nil, Nat.reduceAdd, Nat.zero_add, Int.reduceAdd, Nat.reduceEqDiff, reduceIte, Classical.not_not, b_Wk_setAt]
  have a14 : rbI okf nx goal s0 i = -1 → AW G d mi_Wk_setAt Q 14 [some (vr 49), some (vi i), some (vi (dstI okf nx goal s0)), none, none] [] M := by
    intro e
    refine AW.run ck_Wk_setAt [] 10 14 ?_
    simp only [wR, wB, wE0, wE1, wE2, wE3, g0, gS, s10, s11, s1S, s20, s21, s2S, kl0, kl1, kl2, kl3, sp0, sp1, sp2, sp3, cn1, cn2, cn3, cn4, cn5, cn6, jJa, lk0, lk1, jmS, jmN, s4_0, s4_1, s4_2, s4_3, s4_4, sw0, sw1, cKs, cKn, true_and, and_true, List.map_cons, List.map_nil, Nat.reduceAdd, Nat.zero_add, Int.reduceAdd, Nat.reduceEqDiff, reduceIte, Classical.not_not, b_Wk_setAt]
    subst hQ
    exact ⟨by rw [e], rfl⟩
  rcases h with ⟨hn, h4⟩ | ⟨D, c, t, hD, hc, h4, hl, h51, h52⟩
  · have e := dstI_n okf nx goal hn
    have := a14 (rbI_n okf nx goal hn)
    rw [e] at this ⊢
    (repeat' (first | omega | exact ⟨by omega, by omega⟩ | (with_reducible exact Or.inr trivial) | (with_reducible exact Or.inl trivial) | (with_reducible assumption) | (with_reducible exact Same.refl) | (with_reducible rfl) | (with_reducible refine And.intro ?_ ?_) | (with_reducible intro _)))
  · have hDi : inI (M 51 (c D)) := hokM.1 51 .int 3125 rfl (c D) (hl D (Nat.le_refl _))
    rw [h51] at hDi
    obtain ⟨hD1, hD2⟩ := hDi
    have e := dstI_D okf nx goal hD
    have er := rbI_D okf nx goal (i := i) hD hc
    rw [e] at a14 ⊢
    by_cases q : i < D
    · rw [if_pos q] at er
      (repeat' (first | omega | exact ⟨by omega, by omega⟩ | (with_reducible exact Or.inr trivial) | (with_reducible exact Or.inl trivial) | (with_reducible assumption) | (with_reducible exact Same.refl) | (with_reducible rfl) | (with_reducible refine And.intro ?_ ?_) | (with_reducible intro _)))
      rw [er] at hQ
      have loop : ∀ (r k : Nat), k = i + r → k < D → AW G d mi_Wk_setAt Q 26 [some (vr 49), some (vi i), some (vi D), some (vi (c (k + 1))), some (vi k)] [] M := by
        intro r
        induction r with
        | zero =>
          intro k hk hkD
          obtain rfl : k = i := by omega
          have hci := hl (k + 1) (by omega)
          have ht := (hc.2 k hkD).1
          have e52 := h52 k hkD
          refine AW.run ck_Wk_setAt [26] 10 26 ?_
          simp only [wR, wB, wE0, wE1, wE2, wE3, g0, gS, s10, s11, s1S, s20, s21, s2S, kl0, kl1, kl2, kl3, sp0, sp1, sp2, sp3, cn1, cn2, cn3, cn4, cn5, cn6, jJa, lk0, lk1, jmS, jmN, s4_0, s4_1, s4_2, s4_3, s4_4, sw0, sw1, cKs, cKn, true_and, and_true, List.map_cons, List.map_nil, Nat.reduceAdd, Nat.zero_add, Int.reduceAdd, Nat.reduceEqDiff, reduceIte, Classical.not_not, b_Wk_setAt, shWk, e52]
          subst hQ
          (repeat' (first | omega | exact ⟨by omega, by omega⟩ | (with_reducible exact Or.inr trivial) | (with_reducible exact Or.inl trivial) | (with_reducible assumption) | (with_reducible exact Same.refl) | (with_reducible rfl) | (with_reducible refine And.intro ?_ ?_) | (with_reducible intro _)))
          rw [show ((c k * 32 + t k : Nat) : Int) % 32 = (t k : Int) by omega]
        | succ r ih =>
          intro k hk hkD
          have hci := hl (k + 1) (by omega)
          have hck := hl k (by omega)
          have ht := (hc.2 k hkD).1
          have e52 := h52 k hkD
          have key := ih (k - 1) (by omega) (by omega)
          rw [show k - 1 + 1 = k by omega, show ((k - 1 : Nat) : Int) = (k : Int) - 1 by omega] at key
          refine AW.run ck_Wk_setAt [26] 10 26 ?_
          simp only [wR, wB, wE0, wE1, wE2, wE3, g0, gS, s10, s11, s1S, s20, s21, s2S, kl0, kl1, kl2, kl3, sp0, sp1, sp2, sp3, cn1, cn2, cn3, cn4, cn5, cn6, jJa, lk0, lk1, jmS, jmN, s4_0, s4_1, s4_2, s4_3, s4_4, sw0, sw1, cKs, cKn, true_and, and_true, List.map_cons, List.map_nil, Nat.reduceAdd, Nat.zero_add, Int.reduceAdd, Nat.reduceEqDiff, reduceIte, Classical.not_not, b_Wk_setAt, shWk, e52]
          rw [show ((c k * 32 + t k : Nat) : Int) / 32 = (c k : Int) by omega]
          (repeat' (first | omega | exact ⟨by omega, by omega⟩ | (with_reducible exact Or.inr trivial) | (with_reducible exact Or.inl trivial) | (with_reducible assumption) | (with_reducible exact Same.refl) | (with_reducible rfl) | (with_reducible refine And.intro ?_ ?_) | (with_reducible intro _)))
      have := loop (D - 1 - i) (D - 1) (by omega) (by omega)
      rw [show D - 1 + 1 = D by omega, show ((D - 1 : Nat) : Int) = (D : Int) - 1 by omega] at this
      refine AW.run ck_Wk_setAt [26] 10 16 ?_
      simp only [wR, wB, wE0, wE1, wE2, wE3, g0, gS, s10, s11, s1S, s20, s21, s2S, kl0, kl1, kl2, kl3, sp0, sp1, sp2, sp3, cn1, cn2, cn3, cn4, cn5, cn6, jJa, lk0, lk1, jmS, jmN, s4_0, s4_1, s4_2, s4_3, s4_4, sw0, sw1, cKs, cKn, true_and, and_true, List.map_cons, List.map_nil, Nat.reduceAdd, Nat.zero_add, Int.reduceAdd, Nat.reduceEqDiff, reduceIte, Classical.not_not, b_Wk_setAt, shWk, h4]
      (repeat' (first | omega | exact ⟨by omega, by omega⟩ | (with_reducible exact Or.inr trivial) | (with_reducible exact Or.inl trivial) | (with_reducible assumption) | (with_reducible exact Same.refl) | (with_reducible rfl) | (with_reducible refine And.intro ?_ ?_) | (with_reducible intro _)))
    · rw [if_neg q] at er
      have := a14 er
      (repeat' (first | omega | exact ⟨by omega, by omega⟩ | (with_reducible exact Or.inr trivial) | (with_reducible exact Or.inl trivial) | (with_reducible assumption) | (with_reducible exact Same.refl) | (with_reducible rfl) | (with_reducible refine And.intro ?_ ?_) | (with_reducible intro _)))
theorem c_H_rested {n : Int} {B : Nat} {σ : Sg} (hd : 20 ≤ d) (ok : SgOK B σ) (hR : CR M σ) : MS G d mi_H_rested [vr 0, vi n] M (fun r M' => r = some (vi (aRested σ n)) ∧ CR M' σ ∧ Hi M M') := by
  obtain ⟨z, hs, hM, hp, hT⟩ := hR.z
  have hok := ok.2.2.1
  have hP := hok.1
  have mok := ok.2.2.2.1.1
  refine MS.by ck_H_rested [some (vr 0), some (vi n)] fun _ _ => ?_
  generalize hQ : (fun (r : Option AV) (M' : AM) => r = some (vi (aRested σ n)) ∧ CR M' σ ∧ Hi M M') = Q
  unfold aRested at hQ
  by_cases q : 0 ≤ n ∧ n ≤ 4
  · rw [if_pos q] at hQ
    obtain ⟨k, rfl⟩ := Int.eq_ofNat_of_zero_le q.1
    refine AW.run ck_H_rested [9] 10 0 ?_
    simp only [wR, wB, wE0, wE1, wE2, wE3, g0, gS, s10, s11, s1S, s20, s21, s2S, kl0, kl1, kl2, kl3, sp0, sp1, sp2, sp3, cn1, cn2, cn3, cn4, cn5, cn6, jJa, lk0, lk1, jmS, jmN, s4_0, s4_1, s4_2, s4_3, s4_4, sw0, sw1, cKs, cKn, true_and, and_true, List.map_cons, List.map_nil, Nat.reduceAdd, Nat.zero_add, Int.reduceAdd, Nat.reduceEqDiff, reduceIte, Classical.not_not, b_H_rested, shH]
    (repeat' (first | omega | exact ⟨by omega, by omega⟩ | (with_reducible exact Or.inr trivial) | (with_reducible exact Or.inl trivial) | (with_reducible assumption) | (with_reducible exact Same.refl) | (with_reducible rfl) | (with_reducible refine And.intro ?_ ?_) | (with_reducible intro _)))
    refine (c_H_aimAtAll (d := d - 1) (by omega) ok hR).mono ?_
    rintro r M1 okM1 ⟨rfl, u1, u2⟩
    simp only [wR, wB, wE0, wE1, wE2, wE3, g0, gS, s10, s11, s1S, s20, s21, s2S, kl0, kl1, kl2, kl3, sp0, sp1, sp2, sp3, cn1, cn2, cn3, cn4, cn5, cn6, jJa, lk0, lk1, jmS, jmN, s4_0, s4_1, s4_2, s4_3, s4_4, sw0, sw1, cKs, cKn, true_and, and_true, List.map_cons, List.map_nil, Nat.reduceAdd, Nat.zero_add, Int.reduceAdd, Nat.reduceEqDiff, reduceIte, Classical.not_not, b_H_rested, shH]
    refine ⟨by omega, MS.to (c_H_nowCode (d := d - 1) (by omega) (CR.cz hs u2) (hM.eq (u2 _ (by omega)) (u2 _ (by omega))) hP mok) fun _ => ?_⟩
    simp only [wR, wB, wE0, wE1, wE2, wE3, g0, gS, s10, s11, s1S, s20, s21, s2S, kl0, kl1, kl2, kl3, sp0, sp1, sp2, sp3, cn1, cn2, cn3, cn4, cn5, cn6, jJa, lk0, lk1, jmS, jmN, s4_0, s4_1, s4_2, s4_3, s4_4, sw0, sw1, cKs, cKn, true_and, and_true, List.map_cons, List.map_nil, Nat.reduceAdd, Nat.zero_add, Int.reduceAdd, Nat.reduceEqDiff, reduceIte, Classical.not_not, b_H_rested, shH]
    refine ⟨by omega, (c_walkTo (d := d - 1) (by omega) ok u1).mono ?_⟩
    rintro r M2 okM2 ⟨rfl, v0, v1, v2⟩
    simp only [wR, wB, wE0, wE1, wE2, wE3, g0, gS, s10, s11, s1S, s20, s21, s2S, kl0, kl1, kl2, kl3, sp0, sp1, sp2, sp3, cn1, cn2, cn3, cn4, cn5, cn6, jJa, lk0, lk1, jmS, jmN, s4_0, s4_1, s4_2, s4_3, s4_4, sw0, sw1, cKs, cKn, true_and, and_true, List.map_cons, List.map_nil, Nat.reduceAdd, Nat.zero_add, Int.reduceAdd, Nat.reduceEqDiff, reduceIte, Classical.not_not, b_H_rested, shH]
    refine ⟨by omega, MS.to (c_Wk_hoursToGoal v0) fun _ => ?_⟩
    simp only [wR, wB, wE0, wE1, wE2, wE3, g0, gS, s10, s11, s1S, s20, s21, s2S, kl0, kl1, kl2, kl3, sp0, sp1, sp2, sp3, cn1, cn2, cn3, cn4, cn5, cn6, jJa, lk0, lk1, jmS, jmN, s4_0, s4_1, s4_2, s4_3, s4_4, sw0, sw1, cKs, cKn, true_and, and_true, List.map_cons, List.map_nil, Nat.reduceAdd, Nat.zero_add, Int.reduceAdd, Nat.reduceEqDiff, reduceIte, Classical.not_not, b_H_rested]
    subst hQ
    have hsc := u2.trans (Scr.walk v2)
    exact ⟨rfl, hR.aim hsc (fun p _ => (mok.1 p).1) v1, hsc.hi⟩
  · rw [if_neg q] at hQ
    have a9 : AW G d mi_H_rested Q 9 [some (vr 0), some (vi n)] [] M := by
      refine AW.run ck_H_rested [] 10 9 ?_
      simp only [wR, wB, wE0, wE1, wE2, wE3, g0, gS, s10, s11, s1S, s20, s21, s2S, kl0, kl1, kl2, kl3, sp0, sp1, sp2, sp3, cn1, cn2, cn3, cn4, cn5, cn6, jJa, lk0, lk1, jmS, jmN, s4_0, s4_1, s4_2, s4_3, s4_4, sw0, sw1, cKs, cKn, true_and, and_true, List.map_cons, List.map_nil, Nat.reduceAdd, Nat.zero_add, Int.reduceAdd, Nat.reduceEqDiff, reduceIte, Classical.not_not, b_H_rested]
      subst hQ
      exact ⟨rfl, hR, Hi.refl⟩
    refine AW.run ck_H_rested [9, 12] 10 0 ?_
    simp only [wR, wB, wE0, wE1, wE2, wE3, g0, gS, s10, s11, s1S, s20, s21, s2S, kl0, kl1, kl2, kl3, sp0, sp1, sp2, sp3, cn1, cn2, cn3, cn4, cn5, cn6, jJa, lk0, lk1, jmS, jmN, s4_0, s4_1, s4_2, s4_3, s4_4, sw0, sw1, cKs, cKn, true_and, and_true, List.map_cons, List.map_nil, Nat.reduceAdd, Nat.zero_add, Int.reduceAdd, Nat.reduceEqDiff, reduceIte, Classical.not_not, b_H_rested, shH]
    (repeat' (first | omega | exact ⟨by omega, by omega⟩ | (with_reducible exact Or.inr trivial) | (with_reducible exact Or.inl trivial) | (with_reducible assumption) | (with_reducible exact Same.refl) | (with_reducible rfl) | (with_reducible refine And.intro ?_ ?_) | (with_reducible intro _)))
theorem c_H_restBy {n i : Int} {B : Nat} {σ : Sg} (hd : 20 ≤ d) (ok : SgOK B σ) (hR : CR M σ) : MS G d mi_H_restBy [vr 0, vi n, vi i] M (fun r M' => r = some (vi (aRestBy σ n i)) ∧ CR M' σ ∧ Hi M M') := by
  obtain ⟨z, hs, hM, hp, hT⟩ := hR.z
  have hok := ok.2.2.1
  have hP := hok.1
  have mok := ok.2.2.2.1.1
  refine MS.by ck_H_restBy [some (vr 0), some (vi n), some (vi i)] fun _ _ => ?_
  generalize hQ : (fun (r : Option AV) (M' : AM) => r = some (vi (aRestBy σ n i)) ∧ CR M' σ ∧ Hi M M') = Q
  unfold aRestBy at hQ
  by_cases q : (0 ≤ n ∧ n ≤ 4) ∧ 0 ≤ i
  · rw [if_pos q] at hQ
    obtain ⟨k, rfl⟩ := Int.eq_ofNat_of_zero_le q.1.1
    obtain ⟨j, rfl⟩ := Int.eq_ofNat_of_zero_le q.2
    rw [Int.toNat_natCast] at hQ
    have a16 : AW G d mi_H_restBy Q 16 [some (vr 0), some (vi k), some (vi j)] [] M := by
      refine AW.run ck_H_restBy [] 10 16 ?_
      simp only [wR, wB, wE0, wE1, wE2, wE3, g0, gS, s10, s11, s1S, s20, s21, s2S, kl0, kl1, kl2, kl3, sp0, sp1, sp2, sp3, cn1, cn2, cn3, cn4, cn5, cn6, jJa, lk0, lk1, jmS, jmN, s4_0, s4_1, s4_2, s4_3, s4_4, sw0, sw1, cKs, cKn, true_and, and_true, List.map_cons, List.map_nil, Nat.reduceAdd, Nat.zero_add, Int.reduceAdd, Nat.reduceEqDiff, reduceIte, Classical.not_not, b_H_restBy, shH]
      refine ⟨by omega, (c_H_aimAtAll (d := d - 1) (by omega) ok hR).mono ?_⟩
      rintro r M1 okM1 ⟨rfl, u1, u2⟩
      simp only [wR, wB, wE0, wE1, wE2, wE3, g0, gS, s10, s11, s1S, s20, s21, s2S, kl0, kl1, kl2, kl3, sp0, sp1, sp2, sp3, cn1, cn2, cn3, cn4, cn5, cn6, jJa, lk0, lk1, jmS, jmN, s4_0, s4_1, s4_2, s4_3, s4_4, sw0, sw1, cKs, cKn, true_and, and_true, List.map_cons, List.map_nil, Nat.reduceAdd, Nat.zero_add, Int.reduceAdd, Nat.reduceEqDiff, reduceIte, Classical.not_not, b_H_restBy, shH]
      refine ⟨by omega, MS.to (c_H_nowCode (d := d - 1) (by omega) (CR.cz hs u2) (hM.eq (u2 _ (by omega)) (u2 _ (by omega))) hP mok) fun _ => ?_⟩
      simp only [wR, wB, wE0, wE1, wE2, wE3, g0, gS, s10, s11, s1S, s20, s21, s2S, kl0, kl1, kl2, kl3, sp0, sp1, sp2, sp3, cn1, cn2, cn3, cn4, cn5, cn6, jJa, lk0, lk1, jmS, jmN, s4_0, s4_1, s4_2, s4_3, s4_4, sw0, sw1, cKs, cKn, true_and, and_true, List.map_cons, List.map_nil, Nat.reduceAdd, Nat.zero_add, Int.reduceAdd, Nat.reduceEqDiff, reduceIte, Classical.not_not, b_H_restBy, shH]
      refine ⟨by omega, (c_walkTo (d := d - 1) (by omega) ok u1).mono ?_⟩
      rintro r M2 okM2 ⟨rfl, v0, v1, v2⟩
      simp only [wR, wB, wE0, wE1, wE2, wE3, g0, gS, s10, s11, s1S, s20, s21, s2S, kl0, kl1, kl2, kl3, sp0, sp1, sp2, sp3, cn1, cn2, cn3, cn4, cn5, cn6, jJa, lk0, lk1, jmS, jmN, s4_0, s4_1, s4_2, s4_3, s4_4, sw0, sw1, cKs, cKn, true_and, and_true, List.map_cons, List.map_nil, Nat.reduceAdd, Nat.zero_add, Int.reduceAdd, Nat.reduceEqDiff, reduceIte, Classical.not_not, b_H_restBy, shH]
      refine ⟨by omega, MS.to (c_Wk_setAt (d := d - 1) (by omega) v0) fun _ => ?_⟩
      simp only [wR, wB, wE0, wE1, wE2, wE3, g0, gS, s10, s11, s1S, s20, s21, s2S, kl0, kl1, kl2, kl3, sp0, sp1, sp2, sp3, cn1, cn2, cn3, cn4, cn5, cn6, jJa, lk0, lk1, jmS, jmN, s4_0, s4_1, s4_2, s4_3, s4_4, sw0, sw1, cKs, cKn, true_and, and_true, List.map_cons, List.map_nil, Nat.reduceAdd, Nat.zero_add, Int.reduceAdd, Nat.reduceEqDiff, reduceIte, Classical.not_not, b_H_restBy]
      subst hQ
      have hsc := u2.trans (Scr.walk v2)
      exact ⟨rfl, hR.aim hsc (fun p _ => (mok.1 p).1) v1, hsc.hi⟩
    refine AW.run ck_H_restBy [13, 16] 10 0 ?_
    simp only [wR, wB, wE0, wE1, wE2, wE3, g0, gS, s10, s11, s1S, s20, s21, s2S, kl0, kl1, kl2, kl3, sp0, sp1, sp2, sp3, cn1, cn2, cn3, cn4, cn5, cn6, jJa, lk0, lk1, jmS, jmN, s4_0, s4_1, s4_2, s4_3, s4_4, sw0, sw1, cKs, cKn, true_and, and_true, List.map_cons, List.map_nil, Nat.reduceAdd, Nat.zero_add, Int.reduceAdd, Nat.reduceEqDiff, reduceIte, Classical.not_not, b_H_restBy, shH]
    (repeat' (first | omega | exact ⟨by omega, by omega⟩ | (with_reducible exact Or.inr trivial) | (with_reducible exact Or.inl trivial) | (with_reducible assumption) | (with_reducible exact Same.refl) | (with_reducible rfl) | (with_reducible refine And.intro ?_ ?_) | (with_reducible intro _)))
  · rw [if_neg q] at hQ
    have a13 : AW G d mi_H_restBy Q 13 [some (vr 0), some (vi n), some (vi i)] [] M := by
      refine AW.run ck_H_restBy [] 10 13 ?_
      simp only [wR, wB, wE0, wE1, wE2, wE3, g0, gS, s10, s11, s1S, s20, s21, s2S, kl0, kl1, kl2, kl3, sp0, sp1, sp2, sp3, cn1, cn2, cn3, cn4, cn5, cn6, jJa, lk0, lk1, jmS, jmN, s4_0, s4_1, s4_2, s4_3, s4_4, sw0, sw1, cKs, cKn, true_and, and_true, List.map_cons, List.map_nil, Nat.reduceAdd, Nat.zero_add, Int.reduceAdd, Nat.reduceEqDiff, reduceIte, Classical.not_not, b_H_restBy]
      subst hQ
      exact ⟨rfl, hR, Hi.refl⟩
    refine AW.run ck_H_restBy [13, 16] 10 0 ?_
    simp only [wR, wB, wE0, wE1, wE2, wE3, g0, gS, s10, s11, s1S, s20, s21, s2S, kl0, kl1, kl2, kl3, sp0, sp1, sp2, sp3, cn1, cn2, cn3, cn4, cn5, cn6, jJa, lk0, lk1, jmS, jmN, s4_0, s4_1, s4_2, s4_3, s4_4, sw0, sw1, cKs, cKn, true_and, and_true, List.map_cons, List.map_nil, Nat.reduceAdd, Nat.zero_add, Int.reduceAdd, Nat.reduceEqDiff, reduceIte, Classical.not_not, b_H_restBy, shH]
    (repeat' (first | omega | exact ⟨by omega, by omega⟩ | (with_reducible exact Or.inr trivial) | (with_reducible exact Or.inl trivial) | (with_reducible assumption) | (with_reducible exact Same.refl) | (with_reducible rfl) | (with_reducible refine And.intro ?_ ?_) | (with_reducible intro _)))
end RR
