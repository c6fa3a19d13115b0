/-! the model's deeds -/
theorem cpy_0 {M : AM} {a sp b dp : Int} : cpy M a sp b dp 0 = M := by
  funext x y
  unfold cpy
  rw [if_neg (by omega)]
theorem cpy_s {M : AM} {a sp b dp i : Int} (hi : 0 ≤ i) : up (cpy M a sp b dp i) b (dp + i) (M a (sp + i)) = cpy M a sp b dp (i + 1) := by
  funext x y
  unfold up cpy
  by_cases q : x = b ∧ y = dp + i
  · rw [if_pos q, if_pos (by omega), q.2, show dp + i - dp = i by omega]
  · rw [if_neg q]
    by_cases q2 : x = b ∧ dp ≤ y ∧ y < dp + i
    · rw [if_pos q2, if_pos (by omega)]
    · rw [if_neg q2, if_neg (by omega)]
theorem cpy_at {M : AM} {a sp b dp n x y : Int} (h : x ≠ b ∨ y < dp ∨ dp + n ≤ y) : cpy M a sp b dp n x y = M x y := by
  unfold cpy
  rw [if_neg (by omega)]
theorem cpy_in {M : AM} {a sp b dp n y : Int} (h : 0 ≤ y) (h2 : y < n) : cpy M a sp b dp n b (dp + y) = M a (sp + y) := by
  unfold cpy
  rw [if_pos (by omega), show dp + y - dp = y by omega]
theorem MRow.eq {A A' : Int → Int} {P : Nat} {m : Mo} (h : MRow A P m) (hP : P ≤ 5) (e : ∀ y : Int, 0 ≤ y → y < 12 → A' y = A y) : MRow A' P m :=
  ⟨fun p hp => ⟨by rw [e _ (by omega) (by omega)]; exact (h.1 p hp).1, by rw [e _ (by omega) (by omega)]; exact (h.1 p hp).2⟩, by rw [e _ (by omega) (by omega)]; exact h.2.1, by rw [e _ (by omega) (by omega)]; exact h.2.2⟩
theorem MLaw.eq {A A' : Int → Int} {l n : Nat} {code : Nat → Int} (h : MLaw A l n code) (hl : l ≤ 1) (e : ∀ y : Int, (0 ≤ y ∧ y < 19) ∨ (153 ≤ y ∧ y < 1053) → A' y = A y) : MLaw A' l n code := by
  obtain ⟨a, b⟩ := h
  refine ⟨by rw [e _ (by omega)]; exact a, fun hn => ?_⟩
  obtain ⟨f, b1, b2, b3, b4⟩ := b hn
  exact ⟨f, by rw [e _ (by omega)]; exact b1, by rw [e _ (by omega)]; exact b2, b3, fun k hk => by rw [e _ (by omega)]; exact b4 k hk⟩
theorem MH.eq {A A' : Int → Int} {h : Hl} (H : MH A h) (hP : h.P ≤ 5) (e : ∀ y : Int, (0 ≤ y ∧ y < 19) ∨ (153 ≤ y ∧ y < 1053) → A' y = A y) : MH A' h := by
  obtain ⟨a, b, c, f, g, i⟩ := H
  exact ⟨by rw [e _ (by omega)]; exact a, by rw [e _ (by omega)]; exact b, by rw [e _ (by omega)]; exact c, fun p hp => ⟨by rw [e _ (by omega)]; exact (f p hp).1, by rw [e _ (by omega)]; exact (f p hp).2⟩, g.eq (by omega) e, i.eq (by omega) e⟩
section MD
variable {G : AG} {d : Nat} {M : AM}
theorem c_Md_keeps : MS G d mi_Md_keeps [vr 117] M (fun r M' => r = none ∧ M' = cpy M 118 19 124 0 12) := by
  refine MS.by ck_Md_keeps [some (vr 117), none] fun _ _ => ?_
  have loop : ∀ (k i : Nat), i + k = 12 → AW G d mi_Md_keeps (fun r M' => r = none ∧ M' = cpy M 118 19 124 0 12) 2 [some (vr 117), some (vi i)] [] (cpy M 118 19 124 0 i) := by
    intro k
    induction k with
    | zero =>
      intro i hi
      refine AW.run ck_Md_keeps [2] 8 2 ?_
      simp only [wR, wB, wE0, wE1, wE2, wE3, g0, gS, s10, s11, s1S, s20, s21, s2S, kl0, kl1, kl2, kl3, sp0, sp1, sp2, sp3, cn1, cn2, cn3, cn4, cn5, cn6, jJa, lk0, lk1, jmS, jmN, s4_0, s4_1, s4_2, s4_3, s4_4, sw0, sw1, cKs, cKn, true_and, and_true, List.map_cons, List.map_nil, Nat.reduceAdd, Nat.zero_add, Int.reduceAdd, Nat.reduceEqDiff, reduceIte, Classical.not_not, b_Md_keeps]
      obtain rfl : i = 12 := by omega
      (repeat' (first | omega | (with_reducible exact True.intro) | exact ⟨by omega, by omega⟩ | (with_reducible exact Or.inr trivial) | (with_reducible exact Or.inl trivial) | (with_reducible assumption) | (with_reducible exact Same.refl) | (with_reducible rfl) | (with_reducible refine And.intro ?_ ?_) | (with_reducible intro _)))
      rfl
    | succ k ih =>
      intro i hi
      have key := ih (i + 1) (by omega)
      refine AW.run ck_Md_keeps [2] 8 2 ?_
      have e1 : cpy M 118 19 124 0 i 118 (19 + (i : Int)) = M 118 (19 + (i : Int)) := cpy_at (by omega)
      have e2 := cpy_s (M := M) (a := 118) (sp := 19) (b := 124) (dp := 0) (i := i) (by omega)
      rw [Int.zero_add] at e2
      simp only [wR, wB, wE0, wE1, wE2, wE3, g0, gS, s10, s11, s1S, s20, s21, s2S, kl0, kl1, kl2, kl3, sp0, sp1, sp2, sp3, cn1, cn2, cn3, cn4, cn5, cn6, jJa, lk0, lk1, jmS, jmN, s4_0, s4_1, s4_2, s4_3, s4_4, sw0, sw1, cKs, cKn, true_and, and_true, List.map_cons, List.map_nil, Nat.reduceAdd, Nat.zero_add, Int.reduceAdd, Nat.reduceEqDiff, reduceIte, Classical.not_not, b_Md_keeps, shMd, e1, e2, ce]
      (repeat' (first | omega | exact ⟨by omega, by omega⟩ | (with_reducible exact Or.inr trivial) | (with_reducible exact Or.inl trivial) | (with_reducible assumption) | (with_reducible exact Same.refl) | (with_reducible rfl) | (with_reducible refine And.intro ?_ ?_) | (with_reducible intro _)))
  refine AW.run ck_Md_keeps [2] 8 0 ?_
  simp only [wR, wB, wE0, wE1, wE2, wE3, g0, gS, s10, s11, s1S, s20, s21, s2S, kl0, kl1, kl2, kl3, sp0, sp1, sp2, sp3, cn1, cn2, cn3, cn4, cn5, cn6, jJa, lk0, lk1, jmS, jmN, s4_0, s4_1, s4_2, s4_3, s4_4, sw0, sw1, cKs, cKn, true_and, and_true, List.map_cons, List.map_nil, Nat.reduceAdd, Nat.zero_add, Int.reduceAdd, Nat.reduceEqDiff, reduceIte, Classical.not_not, b_Md_keeps]
  have := loop 12 0 (by omega)
  rwa [show ((0 : Nat) : Int) = 0 from rfl, cpy_0] at this
theorem c_Md_isAgain : MS G d mi_Md_isAgain [vr 117] M (fun r M' => r = none ∧ M' = cpy M 124 0 118 19 12) := by
  refine MS.by ck_Md_isAgain [some (vr 117), none] fun _ _ => ?_
  have loop : ∀ (k i : Nat), i + k = 12 → AW G d mi_Md_isAgain (fun r M' => r = none ∧ M' = cpy M 124 0 118 19 12) 2 [some (vr 117), some (vi i)] [] (cpy M 124 0 118 19 i) := by
    intro k
    induction k with
    | zero =>
      intro i hi
      refine AW.run ck_Md_isAgain [2] 8 2 ?_
      simp only [wR, wB, wE0, wE1, wE2, wE3, g0, gS, s10, s11, s1S, s20, s21, s2S, kl0, kl1, kl2, kl3, sp0, sp1, sp2, sp3, cn1, cn2, cn3, cn4, cn5, cn6, jJa, lk0, lk1, jmS, jmN, s4_0, s4_1, s4_2, s4_3, s4_4, sw0, sw1, cKs, cKn, true_and, and_true, List.map_cons, List.map_nil, Nat.reduceAdd, Nat.zero_add, Int.reduceAdd, Nat.reduceEqDiff, reduceIte, Classical.not_not, b_Md_isAgain]
      obtain rfl : i = 12 := by omega
      (repeat' (first | omega | (with_reducible exact True.intro) | exact ⟨by omega, by omega⟩ | (with_reducible exact Or.inr trivial) | (with_reducible exact Or.inl trivial) | (with_reducible assumption) | (with_reducible exact Same.refl) | (with_reducible rfl) | (with_reducible refine And.intro ?_ ?_) | (with_reducible intro _)))
      rfl
    | succ k ih =>
      intro i hi
      have key := ih (i + 1) (by omega)
      refine AW.run ck_Md_isAgain [2] 8 2 ?_
      have e1 : cpy M 124 0 118 19 i 124 (i : Int) = M 124 (i : Int) := cpy_at (by omega)
      have e2 := cpy_s (M := M) (a := 124) (sp := 0) (b := 118) (dp := 19) (i := i) (by omega)
      rw [Int.zero_add] at e2
      simp only [wR, wB, wE0, wE1, wE2, wE3, g0, gS, s10, s11, s1S, s20, s21, s2S, kl0, kl1, kl2, kl3, sp0, sp1, sp2, sp3, cn1, cn2, cn3, cn4, cn5, cn6, jJa, lk0, lk1, jmS, jmN, s4_0, s4_1, s4_2, s4_3, s4_4, sw0, sw1, cKs, cKn, true_and, and_true, List.map_cons, List.map_nil, Nat.reduceAdd, Nat.zero_add, Int.reduceAdd, Nat.reduceEqDiff, reduceIte, Classical.not_not, b_Md_isAgain, shMd, e1, e2, ce]
      (repeat' (first | omega | exact ⟨by omega, by omega⟩ | (with_reducible exact Or.inr trivial) | (with_reducible exact Or.inl trivial) | (with_reducible assumption) | (with_reducible exact Same.refl) | (with_reducible rfl) | (with_reducible refine And.intro ?_ ?_) | (with_reducible intro _)))
  refine AW.run ck_Md_isAgain [2] 8 0 ?_
  simp only [wR, wB, wE0, wE1, wE2, wE3, g0, gS, s10, s11, s1S, s20, s21, s2S, kl0, kl1, kl2, kl3, sp0, sp1, sp2, sp3, cn1, cn2, cn3, cn4, cn5, cn6, jJa, lk0, lk1, jmS, jmN, s4_0, s4_1, s4_2, s4_3, s4_4, sw0, sw1, cKs, cKn, true_and, and_true, List.map_cons, List.map_nil, Nat.reduceAdd, Nat.zero_add, Int.reduceAdd, Nat.reduceEqDiff, reduceIte, Classical.not_not, b_Md_isAgain]
  have := loop 12 0 (by omega)
  rwa [show ((0 : Nat) : Int) = 0 from rfl, cpy_0] at this
/-- the model's past -/
def MPast (A : Int → Int) (P np : Nat) (pm : Nat → Mo) : Prop := A 31 = np ∧ ∀ i : Nat, i < np → MRow (fun y => A (32 + 12 * (i : Int) + y)) P (pm i)
set_option maxRecDepth 20000 in
theorem c_Md_notes {P np : Nat} {pm : Nat → Mo} {m : Mo} (hP : P ≤ 5) (hn : np ≤ 10) (hp : MPast (M 118) P np pm) (hm : MRow (M 124) P m) :
    MS G d mi_Md_notes [vr 117] M (fun r M' => r = none ∧ MPast (M' 118) P (pushN np) (pushM np pm m) ∧ Same [118] M M' ∧ ∀ y : Int, (y < 31 ∨ 152 ≤ y) → M' 118 y = M 118 y) := by
  obtain ⟨h31, hrow⟩ := hp
  refine MS.by ck_Md_notes [some (vr 117), none] fun _ _ => ?_
  generalize hQ : (fun (r : Option AV) (M' : AM) => r = none ∧ MPast (M' 118) P (pushN np) (pushM np pm m) ∧ Same [118] M M' ∧ ∀ y : Int, (y < 31 ∨ 152 ≤ y) → M' 118 y = M 118 y) = Q
  have a55 : ∀ (N : AM) (k : Nat) (pm' : Nat → Mo) (l1 : Option AV), k < 10 → MPast (N 118) P k pm' → Same [118] M N → (∀ y : Int, (y < 31 ∨ 152 ≤ y) → N 118 y = M 118 y) → pushN np = k + 1 → pushM np pm m = (fun i => if i = k then m else pm' i) → AW G d mi_Md_notes Q 55 [some (vr 117), l1] [] N := by
    intro N k pm' l1 hk hpN hs hfr e1 e2
    obtain ⟨n31, nrow⟩ := hpN
    have loop : ∀ (r i : Nat), i + r = 12 → AW G d mi_Md_notes Q 57 [some (vr 117), some (vi i)] [] (cpy N 124 0 118 (32 + 12 * (k : Int)) i) := by
      intro r
      induction r with
      | zero =>
        intro i hi
        obtain rfl : i = 12 := by omega
        have e31 : cpy N 124 0 118 (32 + 12 * (k : Int)) ((12 : Nat) : Int) 118 31 = k := by rw [cpy_at (by omega)]; exact n31
        refine AW.run ck_Md_notes [57] 8 57 ?_
        simp only [wR, wB, wE0, wE1, wE2, wE3, g0, gS, s10, s11, s1S, s20, s21, s2S, kl0, kl1, kl2, kl3, sp0, sp1, sp2, sp3, cn1, cn2, cn3, cn4, cn5, cn6, jJa, lk0, lk1, jmS, jmN, s4_0, s4_1, s4_2, s4_3, s4_4, sw0, sw1, cKs, cKn, true_and, and_true, List.map_cons, List.map_nil, Nat.reduceAdd, Nat.zero_add, Int.reduceAdd, Nat.reduceEqDiff, reduceIte, Classical.not_not, b_Md_notes, shMd, e31]
        (repeat' (first | omega | exact ⟨by omega, by omega⟩ | (with_reducible exact Or.inr trivial) | (with_reducible exact Or.inl trivial) | (with_reducible assumption) | (with_reducible exact Same.refl) | (with_reducible rfl) | (with_reducible refine And.intro ?_ ?_) | (with_reducible intro _)))
        subst hQ
        refine ⟨rfl, ⟨?_, fun i hi => ?_⟩, ?_, ?_⟩
        · rw [up_eq, e1]; rfl
        · rw [e2]
          show MRow _ P (if i = k then m else pm' i)
          by_cases q : i = k
          · subst q
            rw [if_pos rfl]
            refine hm.eq hP (fun y y0 y1 => ?_)
            rw [up_ne2 (by omega), cpy_in y0 (by omega), Int.zero_add, hs 124 (by (first | decide | (simp only [List.mem_cons, List.not_mem_nil, or_false, not_or, not_false_eq_true, and_true]; omega) | (simp [List.mem_cons]; done)))]
          · rw [if_neg q]
            refine (nrow i (by omega)).eq hP (fun y y0 y1 => ?_)
            rw [up_ne2 (by omega), cpy_at (by omega)]
        · refine hs.trans ?_
          intro x hx
          simp only [List.mem_cons, List.not_mem_nil, or_false] at hx
          funext y
          rw [up_ne1 hx, cpy_at (by omega)]
        · intro y hy
          rw [up_ne2 (by omega), cpy_at (by omega)]
          exact hfr y hy
      | succ r ih =>
        intro i hi
        have key := ih (i + 1) (by omega)
        have e31 : cpy N 124 0 118 (32 + 12 * (k : Int)) i 118 31 = k := by rw [cpy_at (by omega)]; exact n31
        have e1 : cpy N 124 0 118 (32 + 12 * (k : Int)) i 124 (i : Int) = N 124 (i : Int) := cpy_at (by omega)
        have e2 := cpy_s (M := N) (a := 124) (sp := 0) (b := 118) (dp := 32 + 12 * (k : Int)) (i := i) (by omega)
        rw [Int.zero_add] at e2
        refine AW.run ck_Md_notes [57] 8 57 ?_
        simp only [wR, wB, wE0, wE1, wE2, wE3, g0, gS, s10, s11, s1S, s20, s21, s2S, kl0, kl1, kl2, kl3, sp0, sp1, sp2, sp3, cn1, cn2, cn3, cn4, cn5, cn6, jJa, lk0, lk1, jmS, jmN, s4_0, s4_1, s4_2, s4_3, s4_4, sw0, sw1, cKs, cKn, true_and, and_true, List.map_cons, List.map_nil, Nat.reduceAdd, Nat.zero_add, Int.reduceAdd, Nat.reduceEqDiff, reduceIte, Classical.not_not, b_Md_notes, shMd, e31, e1, ce]
        rw [e2]
        (repeat' (first | omega | exact ⟨by omega, by omega⟩ | (with_reducible exact Or.inr trivial) | (with_reducible exact Or.inl trivial) | (with_reducible assumption) | (with_reducible exact Same.refl) | (with_reducible rfl) | (with_reducible refine And.intro ?_ ?_) | (with_reducible intro _)))
        exact key
    refine AW.run ck_Md_notes [57] 8 55 ?_
    simp only [wR, wB, wE0, wE1, wE2, wE3, g0, gS, s10, s11, s1S, s20, s21, s2S, kl0, kl1, kl2, kl3, sp0, sp1, sp2, sp3, cn1, cn2, cn3, cn4, cn5, cn6, jJa, lk0, lk1, jmS, jmN, s4_0, s4_1, s4_2, s4_3, s4_4, sw0, sw1, cKs, cKn, true_and, and_true, List.map_cons, List.map_nil, Nat.reduceAdd, Nat.zero_add, Int.reduceAdd, Nat.reduceEqDiff, reduceIte, Classical.not_not, b_Md_notes]
    have := loop 12 0 (by omega)
    rwa [show ((0 : Nat) : Int) = 0 from rfl, cpy_0] at this
  have l14 : np = 10 → ∀ (r i : Nat), i + r = 108 → AW G d mi_Md_notes Q 14 [some (vr 117), some (vi i)] [] (cpy M 118 44 118 32 i) := by
    intro h10 r
    induction r with
    | zero =>
      intro i hi
      obtain rfl : i = 108 := by omega
      have e31 : cpy M 118 44 118 32 ((108 : Nat) : Int) 118 31 = np := by rw [cpy_at (by omega)]; exact h31
      refine AW.run ck_Md_notes [55] 8 14 ?_
      simp only [wR, wB, wE0, wE1, wE2, wE3, g0, gS, s10, s11, s1S, s20, s21, s2S, kl0, kl1, kl2, kl3, sp0, sp1, sp2, sp3, cn1, cn2, cn3, cn4, cn5, cn6, jJa, lk0, lk1, jmS, jmN, s4_0, s4_1, s4_2, s4_3, s4_4, sw0, sw1, cKs, cKn, true_and, and_true, List.map_cons, List.map_nil, Nat.reduceAdd, Nat.zero_add, Int.reduceAdd, Nat.reduceEqDiff, reduceIte, Classical.not_not, b_Md_notes, shMd, e31]
      (repeat' (first | omega | exact ⟨by omega, by omega⟩ | (with_reducible exact Or.inr trivial) | (with_reducible exact Or.inl trivial) | (with_reducible assumption) | (with_reducible exact Same.refl) | (with_reducible rfl) | (with_reducible refine And.intro ?_ ?_) | (with_reducible intro _)))
      refine a55 _ 9 (fun i => pm (i + 1)) _ (by omega) ⟨by rw [up_eq, h10]; rfl, fun i hi => ?_⟩ ?_ ?_ (by unfold pushN; rw [if_pos h10]) (by unfold pushM; rw [if_pos h10])
      · refine (hrow (i + 1) (by omega)).eq hP (fun y y0 y1 => ?_)
        rw [up_ne2 (by omega), show (32 : Int) + 12 * (i : Int) + y = 32 + (12 * (i : Int) + y) by omega, cpy_in (by omega) (by omega), show (44 : Int) + (12 * (i : Int) + y) = 32 + 12 * ((i + 1 : Nat) : Int) + y by omega]
      · intro x hx
        simp only [List.mem_cons, List.not_mem_nil, or_false] at hx
        funext y
        rw [up_ne1 hx, cpy_at (by omega)]
      · intro y hy
        rw [up_ne2 (by omega), cpy_at (by omega)]
    | succ r ih =>
      intro i hi
      have key := ih (i + 1) (by omega)
      have e1 : cpy M 118 44 118 32 i 118 (44 + (i : Int)) = M 118 (44 + (i : Int)) := cpy_at (by omega)
      have e2 := cpy_s (M := M) (a := 118) (sp := 44) (b := 118) (dp := 32) (i := i) (by omega)
      refine AW.run ck_Md_notes [14] 8 14 ?_
      simp only [wR, wB, wE0, wE1, wE2, wE3, g0, gS, s10, s11, s1S, s20, s21, s2S, kl0, kl1, kl2, kl3, sp0, sp1, sp2, sp3, cn1, cn2, cn3, cn4, cn5, cn6, jJa, lk0, lk1, jmS, jmN, s4_0, s4_1, s4_2, s4_3, s4_4, sw0, sw1, cKs, cKn, true_and, and_true, List.map_cons, List.map_nil, Nat.reduceAdd, Nat.zero_add, Int.reduceAdd, Nat.reduceEqDiff, reduceIte, Classical.not_not, b_Md_notes, shMd, e1, e2, ce]
      (repeat' (first | omega | exact ⟨by omega, by omega⟩ | (with_reducible exact Or.inr trivial) | (with_reducible exact Or.inl trivial) | (with_reducible assumption) | (with_reducible exact Same.refl) | (with_reducible rfl) | (with_reducible refine And.intro ?_ ?_) | (with_reducible intro _)))
  refine AW.run ck_Md_notes [14, 55] 8 0 ?_
  simp only [wR, wB, wE0, wE1, wE2, wE3, g0, gS, s10, s11, s1S, s20, s21, s2S, kl0, kl1, kl2, kl3, sp0, sp1, sp2, sp3, cn1, cn2, cn3, cn4, cn5, cn6, jJa, lk0, lk1, jmS, jmN, s4_0, s4_1, s4_2, s4_3, s4_4, sw0, sw1, cKs, cKn, true_and, and_true, List.map_cons, List.map_nil, Nat.reduceAdd, Nat.zero_add, Int.reduceAdd, Nat.reduceEqDiff, reduceIte, Classical.not_not, b_Md_notes, shMd, h31]
  (repeat' (first | omega | exact ⟨by omega, by omega⟩ | (with_reducible exact Or.inr trivial) | (with_reducible exact Or.inl trivial) | (with_reducible assumption) | (with_reducible exact Same.refl) | (with_reducible rfl) | (with_reducible refine And.intro ?_ ?_) | (with_reducible intro _)))
  · exact a55 M np pm _ (by omega) ⟨h31, hrow⟩ Same.refl (fun _ _ => rfl) (by unfold pushN; rw [if_neg (by omega)]) (by unfold pushM; rw [if_neg (by omega)])
  · have := l14 (by omega) 108 0 (by omega)
    rwa [show ((0 : Nat) : Int) = 0 from rfl, cpy_0] at this
end MD
