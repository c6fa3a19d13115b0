/-! the model's hours of holding -/
/-- may a set hold, of some people, with so many hands of a side -/
def okH (h : Hl) (sd : Nat → Nat) (cold side pe must s set : Nat) : Bool := okP h.P pe s set && decide (must ≤ hands h sd cold s set side)
theorem okH_P {h : Hl} {sd : Nat → Nat} {cold side pe must s set : Nat} (e : okH h sd cold side pe must s set = true) : okP h.P pe s set = true ∧ must ≤ hands h sd cold s set side := by
  unfold okH at e
  rw [Bool.and_eq_true, decide_eq_true_eq] at e
  exact e
theorem okH_of {h : Hl} {sd : Nat → Nat} {cold side pe must s set : Nat} (e : okP h.P pe s set = true) (e2 : must ≤ hands h sd cold s set side) : okH h sd cold side pe must s set = true := by
  unfold okH
  rw [Bool.and_eq_true, decide_eq_true_eq]
  exact ⟨e, e2⟩
def hbZ (ok : Nat → Nat → Bool) (nx : Nat → Nat → Nat) (f : Nat → Nat) (s set : Nat) : Int := if ok s set = true then (hbN ok nx f s set : Int) else -1
theorem stood_bit {h : Hl} {sd : Nat → Nat} {cold s set side : Nat} (hs : side ≤ 1) : stood h sd cold s set / 2 ^ side % 2 = if h.must ≤ hands h sd cold s set side then 1 else 0 := by
  unfold stood
  rcases (show side = 0 ∨ side = 1 by omega) with rfl | rfl <;> by_cases q0 : h.must ≤ hands h sd cold s set 0 <;> by_cases q1 : h.must ≤ hands h sd cold s set 1 <;> simp [q0, q1]
theorem nc1 : ((1 : Nat) : Int) = 1 := rfl
section HQ
variable {ok : Nat → Nat → Bool} {nx : Nat → Nat → Nat} {l : List Nat} {f : Nat → Nat}
theorem HvF.zero (h : HvF ok nx l f) {s : Nat} (hs : s ∈ l) (h0 : f s = 0) : pkI ok nx s = -1 := by
  have hv : Vl ok nx s 0 := by
    rcases h s hs with ⟨a, b⟩ | ⟨a, b⟩
    · rw [h0] at b; exact b
    · omega
  rcases pkI_S (ok := ok) (nx := nx) s with a | ⟨k, a⟩
  · exact (Vl_ev ok nx hv a.ev).elim
  · have e := Vl_un ok nx hv a.vl
    rcases a.2 with ⟨_, b⟩ | ⟨x, _, _, _, ⟨w, _, w2⟩, _⟩
    · exact b
    · omega
theorem HvF.pick (hc : ∀ t set, t ∈ l → set < 32 → ok t set = true → nx t set ∈ l) (h : HvF ok nx l f) {s : Nat} (hs : s ∈ l) (h0 : f s ≠ 0) : ∃ x : Nat, pkI ok nx s = x ∧ x < 32 ∧ ok s x = true ∧ hbN ok nx f s x = f s ∧ ∀ y, y < x → ¬ (ok s y = true ∧ hbN ok nx f s y = f s) := by
  have hev : ∀ t, t ∈ l → Ev ok nx t → f t = 268435456 := by
    intro t ht he
    rcases h t ht with ⟨a, b⟩ | ⟨a, b⟩
    · exact (Vl_ev ok nx b he).elim
    · exact a
  have hvl : ∀ t w, t ∈ l → Vl ok nx t w → f t = w ∧ w < 3125 := by
    intro t w ht he
    rcases h t ht with ⟨a, b⟩ | ⟨a, b⟩
    · have := Vl_un ok nx b he
      exact ⟨this, by omega⟩
    · exact (Vl_ev ok nx he b).elim
  rcases pkI_S (ok := ok) (nx := nx) s with a | ⟨k, a⟩
  · have es := hev s hs a.ev
    obtain ⟨x, x0, x1, x2, x3, x4⟩ := a
    refine ⟨x, x0, x1, x2, ?_, fun y hy ⟨hyo, hyb⟩ => ?_⟩
    · unfold hbN
      rw [if_pos x2, if_pos (hev _ (hc s x hs x1 x2) x3), es]
    · obtain ⟨w, hw⟩ := x4 y hy hyo
      have := hvl _ w (hc s y hs (by omega) hyo) hw
      unfold hbN at hyb
      rw [if_pos hyo, if_neg (by omega), this.1] at hyb
      omega
  · have es := (hvl s k hs a.vl).1
    rcases a.2 with ⟨b, _⟩ | ⟨x, x0, x1, x2, ⟨w, w1, w2⟩, x4⟩
    · omega
    · refine ⟨x, x0, x1, x2, ?_, fun y hy ⟨hyo, hyb⟩ => ?_⟩
      · have := hvl _ w (hc s x hs x1 x2) w1
        unfold hbN
        rw [if_pos x2, if_neg (by omega), this.1]
        omega
      · obtain ⟨u, u1, u2⟩ := x4 y hy hyo
        have := hvl _ u (hc s y hs (by omega) hyo) u1
        unfold hbN at hyb
        rw [if_pos hyo, if_neg (by omega), this.1] at hyb
        omega
theorem HvF.hld (h : HvF ok nx l f) {s : Nat} (hs : s ∈ l) : hldI ok nx s = if f s = 268435456 then -1 else (f s : Int) := by
  rcases h s hs with ⟨a, b⟩ | ⟨a, b⟩
  · rw [if_neg (by omega), hldI_v b]
  · rw [if_pos a, hldI_e b]
theorem rosI_0 {s i : Nat} (h : pkI ok nx s = -1) : rosI ok nx i s = -1 := by
  cases i with
  | zero => exact h
  | succ i => simp only [rosI]; rw [if_pos h]
theorem rosI_s {s i x : Nat} (h : pkI ok nx s = x) : rosI ok nx (i + 1) s = rosI ok nx i (nx s x) := by
  simp only [rosI]
  rw [if_neg (by omega), h, Int.toNat_natCast]
end HQ
section MH2
variable {G : AG} {d : Nat} {M : AM}
theorem c_Md_heldBy {h : Hl} {sd : Nat → Nat} {cold pe s0 s set side : Nat} {l : List Nat} {f : Nat → Nat} (hd : 1 ≤ d) (hok : HlOK h) (hL : LSt M h sd cold pe s0 l) (hf : farM M l f) (hs : s ∈ l) (hset : set < 32) (hside : side ≤ 1) : MS G d mi_Md_heldBy [vr 117, vi s, vi set, vi side] M (fun r M' => r = some (vi (hbZ (okH h sd cold side pe h.must) (nxt h sd cold) f s set)) ∧ M' = M) := by
  have hs3 := hL.1.2.2.2.2 s hs
  obtain ⟨e1, e2⟩ := hL.2.2.2 s hs set hset
  refine MS.by ck_Md_heldBy [some (vr 117), some (vi s), some (vi set), some (vi side), none] fun _ _ => ?_
  generalize hQ : (fun (r : Option AV) (M' : AM) => r = some (vi (hbZ (okH h sd cold side pe h.must) (nxt h sd cold) f s set)) ∧ M' = M) = Q
  have a38 : ∀ l4, okH h sd cold side pe h.must s set = false → AW G d mi_Md_heldBy Q 38 [some (vr 117), some (vi s), some (vi set), some (vi side), l4] [] M := by
    intro l4 e
    refine AW.run ck_Md_heldBy [] 10 38 ?_
    simp only [wR, wB, wE0, wE1, wE2, wE3, g0, gS, s10, s11, s1S, s20, s21, s2S, kl0, kl1, kl2, kl3, sp0, sp1, sp2, sp3, cn1, cn2, cn3, cn4, cn5, cn6, jJa, lk0, lk1, jmS, jmN, s4_0, s4_1, s4_2, s4_3, s4_4, sw0, sw1, cKs, cKn, true_and, and_true, List.map_cons, List.map_nil, Nat.reduceAdd, Nat.zero_add, Int.reduceAdd, Nat.reduceEqDiff, reduceIte, Classical.not_not, b_Md_heldBy]
    subst hQ
    unfold hbZ
    rw [if_neg (by rw [e]; decide)]
    exact ⟨rfl, rfl⟩
  refine AW.run ck_Md_heldBy [38, 40] 10 0 ?_
  simp only [wR, wB, wE0, wE1, wE2, wE3, g0, gS, s10, s11, s1S, s20, s21, s2S, kl0, kl1, kl2, kl3, sp0, sp1, sp2, sp3, cn1, cn2, cn3, cn4, cn5, cn6, jJa, lk0, lk1, jmS, jmN, s4_0, s4_1, s4_2, s4_3, s4_4, sw0, sw1, cKs, cKn, true_and, and_true, List.map_cons, List.map_nil, Nat.reduceAdd, Nat.zero_add, Int.reduceAdd, Nat.reduceEqDiff, reduceIte, Classical.not_not, b_Md_heldBy, shMd, e1]
  by_cases q : okP h.P pe s set = true
  · rw [if_pos q]
    have e2' := e2 q
    have h3 : stood h sd cold s set ≤ 3 := stood_le
    have ht : nxt h sd cold s set ∈ l := (hL.2.1.2 _).mpr (((hL.2.1.2 _).mp hs).step hset q)
    have hnl : nxt h sd cold s set < 3125 := hL.1.2.2.2.2 _ ht
    obtain ⟨f1, f2⟩ := hf _ ht
    simp only [wR, wB, wE0, wE1, wE2, wE3, g0, gS, s10, s11, s1S, s20, s21, s2S, kl0, kl1, kl2, kl3, sp0, sp1, sp2, sp3, cn1, cn2, cn3, cn4, cn5, cn6, jJa, lk0, lk1, jmS, jmN, s4_0, s4_1, s4_2, s4_3, s4_4, sw0, sw1, cKs, cKn, true_and, and_true, List.map_cons, List.map_nil, Nat.reduceAdd, Nat.zero_add, Int.reduceAdd, Nat.reduceEqDiff, reduceIte, Classical.not_not, e2']
    (repeat' (first | omega | exact ⟨by omega, by omega⟩ | (with_reducible exact Or.inr trivial) | (with_reducible exact Or.inl trivial) | (with_reducible assumption) | (with_reducible exact Same.refl) | (with_reducible rfl) | (with_reducible refine And.intro ?_ ?_) | (with_reducible intro _)))
    refine MS.to (c_Md_isIn (a := stood h sd cold s set) (k := side) (by omega) (by omega)) fun _ => ?_
    rw [stood_bit hside]
    by_cases q2 : h.must ≤ hands h sd cold s set side
    · rw [if_pos q2]
      have eo := okH_of q q2
      simp only [wR, wB, wE0, wE1, wE2, wE3, g0, gS, s10, s11, s1S, s20, s21, s2S, kl0, kl1, kl2, kl3, sp0, sp1, sp2, sp3, cn1, cn2, cn3, cn4, cn5, cn6, jJa, lk0, lk1, jmS, jmN, s4_0, s4_1, s4_2, s4_3, s4_4, sw0, sw1, cKs, cKn, true_and, and_true, List.map_cons, List.map_nil, Nat.reduceAdd, Nat.zero_add, Int.reduceAdd, Nat.reduceEqDiff, reduceIte, Classical.not_not, b_Md_heldBy, shMd, nc1, up_rd, Int.reduceEq, and_false, false_and, and_self, reduceIte, not_true_eq_false, not_false_eq_true, false_imp_iff, true_imp_iff, true_or, or_true]
      refine AW.run ck_Md_heldBy [] 10 40 ?_
      simp only [wR, wB, wE0, wE1, wE2, wE3, g0, gS, s10, s11, s1S, s20, s21, s2S, kl0, kl1, kl2, kl3, sp0, sp1, sp2, sp3, cn1, cn2, cn3, cn4, cn5, cn6, jJa, lk0, lk1, jmS, jmN, s4_0, s4_1, s4_2, s4_3, s4_4, sw0, sw1, cKs, cKn, true_and, and_true, List.map_cons, List.map_nil, Nat.reduceAdd, Nat.zero_add, Int.reduceAdd, Nat.reduceEqDiff, reduceIte, Classical.not_not, b_Md_heldBy, shMd, f1]
      subst hQ
      unfold hbZ hbN
      rw [if_pos eo, if_pos eo]
      by_cases q3 : f (nxt h sd cold s set) = 268435456
      · rw [if_pos q3]
        (repeat' (first | omega | exact ⟨by omega, by omega⟩ | (with_reducible exact Or.inr trivial) | (with_reducible exact Or.inl trivial) | (with_reducible assumption) | (with_reducible exact Same.refl) | (with_reducible rfl) | (with_reducible refine And.intro ?_ ?_) | (with_reducible intro _)))
        all_goals rfl
      · rw [if_neg q3]
        (repeat' (first | omega | exact ⟨by omega, by omega⟩ | (with_reducible exact Or.inr trivial) | (with_reducible exact Or.inl trivial) | (with_reducible assumption) | (with_reducible exact Same.refl) | (with_reducible rfl) | (with_reducible refine And.intro ?_ ?_) | (with_reducible intro _)))
        all_goals rfl
    · rw [if_neg q2]
      have := a38 (some (vi (nxt h sd cold s set))) (by unfold okH; simp [q2])
      simp only [wR, wB, wE0, wE1, wE2, wE3, g0, gS, s10, s11, s1S, s20, s21, s2S, kl0, kl1, kl2, kl3, sp0, sp1, sp2, sp3, cn1, cn2, cn3, cn4, cn5, cn6, jJa, lk0, lk1, jmS, jmN, s4_0, s4_1, s4_2, s4_3, s4_4, sw0, sw1, cKs, cKn, true_and, and_true, List.map_cons, List.map_nil, Nat.reduceAdd, Nat.zero_add, Int.reduceAdd, Nat.reduceEqDiff, reduceIte, Classical.not_not, b_Md_heldBy, shMd, nc0, up_rd, Int.reduceEq, and_false, false_and, and_self, reduceIte, not_true_eq_false, not_false_eq_true, false_imp_iff, true_imp_iff, true_or, or_true]
      (repeat' (first | omega | exact ⟨by omega, by omega⟩ | (with_reducible exact Or.inr trivial) | (with_reducible exact Or.inl trivial) | (with_reducible assumption) | (with_reducible exact Same.refl) | (with_reducible rfl) | (with_reducible refine And.intro ?_ ?_) | (with_reducible intro _)))
  · rw [if_neg q]
    have := a38 (some (vi (-1))) (by unfold okH; simp [q])
    (repeat' (first | omega | exact ⟨by omega, by omega⟩ | (with_reducible exact Or.inr trivial) | (with_reducible exact Or.inl trivial) | (with_reducible assumption) | (with_reducible exact Same.refl) | (with_reducible rfl) | (with_reducible refine And.intro ?_ ?_) | (with_reducible intro _)))
end MH2
