section TC
variable {G : AG} {d : Nat} {M N K : AM} {t : Nat → Nat} {n m k w F : Nat} {h : Hl} {mo : Mo} {z : Int}
set_option maxRecDepth 20000 in
theorem c_Rd_personLine (hd : 4 ≤ d) (hz : z = 7 ∨ z = 16) (hA : AtC M t n m k) (q2 : kin t n (pls t n (k)) = 2) (hF : CF M z h mo) (hP : h.P ≤ 5) (ok : okZ (LIp t n F k h mo)) : MS G d mi_Rd_personLine [vr 2, vr z] M (fun r M' => r = none ∧ PoX t n m z M M' (LIp t n F k h mo)) := by
  have hH := isO_z hz
  have hs := sh_Ha hH
  have i1 : isArr (z + 1) := ⟨_, hs.1.1⟩
  have i2 : isArr (z + 2) := ⟨_, hs.2.1.1⟩
  have hp2 : M z 2 = h.P := hF.1.2.2.1
  refine MS.by ck_Rd_personLine [some (vr 2), some (vr z), none, none] fun _ _ => ?_
  generalize hQ : (fun (r : Option AV) (M' : AM) => r = none ∧ PoX t n m z M M' (LIp t n F k h mo)) = Q
  have hq : ∀ M', PoX t n m z M M' (LIp t n F k h mo) → Q none M' := by
    intro M' h
    rw [← hQ]
    exact ⟨rfl, h⟩
  clear hQ
  unfold LIp at hq ok
  by_cases q5 : h.P = 5
  · rw [if_pos q5] at hq
    have hp2 : M z 2 = 5 := by rw [hp2, q5]; rfl
    have hrf := c_Rd_refuse_2 (G := G) (d := d - 1) (w := 4) (by omega) hA
    refine AW.run ck_Rd_personLine [16] 12 0 ?_
    simp only [wR, wB, wE0, wE1, wE2, wE3, g0, gS, s10, s11, s1S, s20, s21, s2S, kl0, kl1, kl2, kl3, sp0, sp1, sp2, sp3, cn1, cn2, cn3, cn4, cn5, cn6, jJa, lk0, lk1, jmS, jmN, s4_0, s4_1, s4_2, s4_3, s4_4, sw0, sw1, cKs, cKn, true_and, and_true, List.map_cons, List.map_nil, Nat.reduceAdd, Nat.zero_add, Int.reduceAdd, Nat.reduceEqDiff, reduceIte, Classical.not_not, b_Rd_personLine, shH, hH, hp2, Int.reduceEq, not_true_eq_false, not_false_eq_true, false_imp_iff, true_imp_iff, and_self]
    (repeat' (first | omega | (with_reducible exact True.intro) | exact ⟨by omega, by omega⟩ | (with_reducible exact Or.inr trivial) | (with_reducible exact Or.inl trivial) | (with_reducible assumption) | (with_reducible exact Same.refl) | (with_reducible rfl) | (with_reducible refine And.intro ?_ ?_) | (with_reducible intro _)))
    refine hrf.mono ?_
    rintro r M1 _ ⟨rfl, hb, f⟩
    simp only [wR, wB, wE0, wE1, wE2, wE3, g0, gS, s10, s11, s1S, s20, s21, s2S, kl0, kl1, kl2, kl3, sp0, sp1, sp2, sp3, cn1, cn2, cn3, cn4, cn5, cn6, jJa, lk0, lk1, jmS, jmN, s4_0, s4_1, s4_2, s4_3, s4_4, sw0, sw1, cKs, cKn, true_and, and_true, List.map_cons, List.map_nil, Nat.reduceAdd, Nat.zero_add, Int.reduceAdd, Nat.reduceEqDiff, reduceIte, Classical.not_not, b_Rd_personLine, shH, Int.reduceEq, not_true_eq_false, not_false_eq_true, false_imp_iff, true_imp_iff, and_self]
    exact hq _ (BdX.po ⟨f.x hz, hb⟩)
  rw [if_neg q5] at hq ok
  generalize hpp : h.P = p at *
  have a64 : ∀ N : AM, N 2 8 = 23 → Q none N → AW G d mi_Rd_personLine Q 64 [some (vr 2), some (vr z), some (vi p), some (vi 0)] [] N := by
    intro N h23 hg
    refine AW.run ck_Rd_personLine [] 12 64 ?_
    simp only [wR, wB, wE0, wE1, wE2, wE3, g0, gS, s10, s11, s1S, s20, s21, s2S, kl0, kl1, kl2, kl3, sp0, sp1, sp2, sp3, cn1, cn2, cn3, cn4, cn5, cn6, jJa, lk0, lk1, jmS, jmN, s4_0, s4_1, s4_2, s4_3, s4_4, sw0, sw1, cKs, cKn, true_and, and_true, List.map_cons, List.map_nil, Nat.reduceAdd, Nat.zero_add, Int.reduceAdd, Nat.reduceEqDiff, reduceIte, Classical.not_not, b_Rd_personLine, shH, h23, Int.reduceEq, not_true_eq_false, not_false_eq_true, false_imp_iff, true_imp_iff, and_self]
    (repeat' (first | omega | (with_reducible exact True.intro) | exact ⟨by omega, by omega⟩ | (with_reducible exact Or.inr trivial) | (with_reducible exact Or.inl trivial) | (with_reducible assumption) | (with_reducible exact Same.refl) | (with_reducible rfl) | (with_reducible refine And.intro ?_ ?_) | (with_reducible intro _)))
  have hnx := c_Rd_next_2 (G := G) (d := d - 1) hA (by omega)
  refine AW.run ck_Rd_personLine [16] 12 0 ?_
  simp only [wR, wB, wE0, wE1, wE2, wE3, g0, gS, s10, s11, s1S, s20, s21, s2S, kl0, kl1, kl2, kl3, sp0, sp1, sp2, sp3, cn1, cn2, cn3, cn4, cn5, cn6, jJa, lk0, lk1, jmS, jmN, s4_0, s4_1, s4_2, s4_3, s4_4, sw0, sw1, cKs, cKn, true_and, and_true, List.map_cons, List.map_nil, Nat.reduceAdd, Nat.zero_add, Int.reduceAdd, Nat.reduceEqDiff, reduceIte, Classical.not_not, b_Rd_personLine, shH, hH, hp2]
  (repeat' (first | omega | (with_reducible exact True.intro) | exact ⟨by omega, by omega⟩ | (with_reducible exact Or.inr trivial) | (with_reducible exact Or.inl trivial) | (with_reducible assumption) | (with_reducible exact Same.refl) | (with_reducible rfl) | (with_reducible refine And.intro ?_ ?_) | (with_reducible intro _)))
  refine AW.run ck_Rd_personLine [64] 12 16 ?_
  simp only [wR, wB, wE0, wE1, wE2, wE3, g0, gS, s10, s11, s1S, s20, s21, s2S, kl0, kl1, kl2, kl3, sp0, sp1, sp2, sp3, cn1, cn2, cn3, cn4, cn5, cn6, jJa, lk0, lk1, jmS, jmN, s4_0, s4_1, s4_2, s4_3, s4_4, sw0, sw1, cKs, cKn, true_and, and_true, List.map_cons, List.map_nil, Nat.reduceAdd, Nat.zero_add, Int.reduceAdd, Nat.reduceEqDiff, reduceIte, Classical.not_not, b_Rd_personLine, shH, hH]
  (repeat' (first | omega | (with_reducible exact True.intro) | exact ⟨by omega, by omega⟩ | (with_reducible exact Or.inr trivial) | (with_reducible exact Or.inl trivial) | (with_reducible assumption) | (with_reducible exact Same.refl) | (with_reducible rfl) | (with_reducible refine And.intro ?_ ?_) | (with_reducible intro _)))
  refine hnx.mono ?_
  rintro r M1 _ ⟨rfl, hA1, f1⟩
  have hw := c_Rd_word_2 (G := G) (d := d - 1) (x := 3) (by omega) hA1 (by unfold vK; omega) (by omega)
  rw [show ((ck 3 : Nat) : Int) = 1 by decide +kernel] at hw
  simp only [wR, wB, wE0, wE1, wE2, wE3, g0, gS, s10, s11, s1S, s20, s21, s2S, kl0, kl1, kl2, kl3, sp0, sp1, sp2, sp3, cn1, cn2, cn3, cn4, cn5, cn6, jJa, lk0, lk1, jmS, jmN, s4_0, s4_1, s4_2, s4_3, s4_4, sw0, sw1, cKs, cKn, true_and, and_true, List.map_cons, List.map_nil, Nat.reduceAdd, Nat.zero_add, Int.reduceAdd, Nat.reduceEqDiff, reduceIte, Classical.not_not, b_Rd_personLine, shH, Int.reduceEq, not_true_eq_false, not_false_eq_true, false_imp_iff, true_imp_iff, and_self]
  (repeat' (first | omega | (with_reducible exact True.intro) | exact ⟨by omega, by omega⟩ | (with_reducible exact Or.inr trivial) | (with_reducible exact Or.inl trivial) | (with_reducible assumption) | (with_reducible exact Same.refl) | (with_reducible rfl) | (with_reducible refine And.intro ?_ ?_) | (with_reducible intro _)))
  refine hw.mono ?_
  rintro r M2 _ ⟨rfl, f2, ⟨q3, hA2⟩ | ⟨q3, hb⟩⟩
  · rw [if_pos q3] at hq ok
    simp only [wR, wB, wE0, wE1, wE2, wE3, g0, gS, s10, s11, s1S, s20, s21, s2S, kl0, kl1, kl2, kl3, sp0, sp1, sp2, sp3, cn1, cn2, cn3, cn4, cn5, cn6, jJa, lk0, lk1, jmS, jmN, s4_0, s4_1, s4_2, s4_3, s4_4, sw0, sw1, cKs, cKn, true_and, and_true, List.map_cons, List.map_nil, Nat.reduceAdd, Nat.zero_add, Int.reduceAdd, Nat.reduceEqDiff, reduceIte, Classical.not_not, b_Rd_personLine, shH, hH, Int.reduceEq, not_true_eq_false, not_false_eq_true, false_imp_iff, true_imp_iff, and_self]
    (repeat' (first | omega | (with_reducible exact True.intro) | exact ⟨by omega, by omega⟩ | (with_reducible exact Or.inr trivial) | (with_reducible exact Or.inl trivial) | (with_reducible assumption) | (with_reducible exact Same.refl) | (with_reducible rfl) | (with_reducible refine And.intro ?_ ?_) | (with_reducible intro _)))
    refine (c_Rd_number_z (most := 1) (g := fun x => FL t n F p (k + 3) h.sAdd (mo.sAdd p x)) (by omega) (by omega) hA2).mono ?_
    rintro r M3 _ ⟨f3, ⟨y, rfl, hy, hz', hA3, q23⟩ | ⟨w, rfl, hz', hb⟩⟩
    · have e34 : M2 z 4 = M3 z 4 := by rw [f3.pl (by omega)]
      have hk3 := hA3.m9
      rw [hz'] at hq ok
      simp only [wR, wB, wE0, wE1, wE2, wE3, g0, gS, s10, s11, s1S, s20, s21, s2S, kl0, kl1, kl2, kl3, sp0, sp1, sp2, sp3, cn1, cn2, cn3, cn4, cn5, cn6, jJa, lk0, lk1, jmS, jmN, s4_0, s4_1, s4_2, s4_3, s4_4, sw0, sw1, cKs, cKn, true_and, and_true, List.map_cons, List.map_nil, Nat.reduceAdd, Nat.zero_add, Int.reduceAdd, Nat.reduceEqDiff, reduceIte, Classical.not_not, b_Rd_personLine, shH, hH, hs, i1, i2, ce, Int.reduceEq, not_true_eq_false, not_false_eq_true, false_imp_iff, true_imp_iff, and_self]
      (repeat' (first | omega | (with_reducible exact True.intro) | exact ⟨by omega, by omega⟩ | (with_reducible exact Or.inr trivial) | (with_reducible exact Or.inl trivial) | (with_reducible assumption) | (with_reducible exact Same.refl) | (with_reducible rfl) | (with_reducible refine And.intro ?_ ?_) | (with_reducible intro _)))
      have hcf := (hF.f2 hz ((f1.trans f2).trans f3)).add (y := y) (by omega) hy
      rw [hpp] at hcf
      rw [e34]
      refine c_Rd_flags (by omega) hz F (k + 3) 0 h.sAdd (mo.sAdd p y) _ ⟨?_, (((hA3.c7 (by omega)).c7 (by omega)).c7 (by omega)).c7 (by omega), hcf⟩ (by show h.P + 1 ≤ 5; omega) (by show p < h.P + 1; omega) (by omega) ok hq
      exact (((((f1.trans f2).trans f3).x hz).up (by omega) (by omega)).up (by omega) (by omega) |>.up (by omega) (by omega)).up (by omega) (by omega)
    · rw [hz'] at hq
      simp only [wR, wB, wE0, wE1, wE2, wE3, g0, gS, s10, s11, s1S, s20, s21, s2S, kl0, kl1, kl2, kl3, sp0, sp1, sp2, sp3, cn1, cn2, cn3, cn4, cn5, cn6, jJa, lk0, lk1, jmS, jmN, s4_0, s4_1, s4_2, s4_3, s4_4, sw0, sw1, cKs, cKn, true_and, and_true, List.map_cons, List.map_nil, Nat.reduceAdd, Nat.zero_add, Int.reduceAdd, Nat.reduceEqDiff, reduceIte, Classical.not_not, b_Rd_personLine, shH, hH, hs, i1, i2, ce, Int.reduceEq, not_true_eq_false, not_false_eq_true, false_imp_iff, true_imp_iff, and_self]
      (repeat' (first | omega | (with_reducible exact True.intro) | exact ⟨by omega, by omega⟩ | (with_reducible exact Or.inr trivial) | (with_reducible exact Or.inl trivial) | (with_reducible assumption) | (with_reducible exact Same.refl) | (with_reducible rfl) | (with_reducible refine And.intro ?_ ?_) | (with_reducible intro _)))
      have hb' := BdX.up hz (BdX.up hz (BdX.up hz (BdX.up hz (x := z) (y := 4) (v := bOr (M2 z 4) (bShl 0 (p : Int))) ⟨((f1.trans f2).trans f3).x hz, hb⟩ (by omega) (by omega)) (x := z + 1) (y := (p : Int)) (v := 4) (by omega) (by omega)) (x := z + 2) (y := (p : Int)) (v := 1) (by omega) (by omega)) (x := z) (y := 2) (v := ((p + 1 : Nat) : Int)) (by omega) (by omega)
      exact a64 _ hb'.2.2.2.1 (hq _ hb'.po)
  · rw [if_neg q3] at hq
    have hng := c_Rd_number_g (G := G) (d := d - 1) (a := 1) (by omega) hb.ne hb.2.2.1
    simp only [wR, wB, wE0, wE1, wE2, wE3, g0, gS, s10, s11, s1S, s20, s21, s2S, kl0, kl1, kl2, kl3, sp0, sp1, sp2, sp3, cn1, cn2, cn3, cn4, cn5, cn6, jJa, lk0, lk1, jmS, jmN, s4_0, s4_1, s4_2, s4_3, s4_4, sw0, sw1, cKs, cKn, true_and, and_true, List.map_cons, List.map_nil, Nat.reduceAdd, Nat.zero_add, Int.reduceAdd, Nat.reduceEqDiff, reduceIte, Classical.not_not, b_Rd_personLine, shH, hH, Int.reduceEq, not_true_eq_false, not_false_eq_true, false_imp_iff, true_imp_iff, and_self]
    (repeat' (first | omega | (with_reducible exact True.intro) | exact ⟨by omega, by omega⟩ | (with_reducible exact Or.inr trivial) | (with_reducible exact Or.inl trivial) | (with_reducible assumption) | (with_reducible exact Same.refl) | (with_reducible rfl) | (with_reducible refine And.intro ?_ ?_) | (with_reducible intro _)))
    refine MS.to hng fun _ => ?_
    simp only [wR, wB, wE0, wE1, wE2, wE3, g0, gS, s10, s11, s1S, s20, s21, s2S, kl0, kl1, kl2, kl3, sp0, sp1, sp2, sp3, cn1, cn2, cn3, cn4, cn5, cn6, jJa, lk0, lk1, jmS, jmN, s4_0, s4_1, s4_2, s4_3, s4_4, sw0, sw1, cKs, cKn, true_and, and_true, List.map_cons, List.map_nil, Nat.reduceAdd, Nat.zero_add, Int.reduceAdd, Nat.reduceEqDiff, reduceIte, Classical.not_not, b_Rd_personLine, shH, hH, hs, i1, i2, ce, Int.reduceEq, not_true_eq_false, not_false_eq_true, false_imp_iff, true_imp_iff, and_self]
    (repeat' (first | omega | (with_reducible exact True.intro) | exact ⟨by omega, by omega⟩ | (with_reducible exact Or.inr trivial) | (with_reducible exact Or.inl trivial) | (with_reducible assumption) | (with_reducible exact Same.refl) | (with_reducible rfl) | (with_reducible refine And.intro ?_ ?_) | (with_reducible intro _)))
    have hb' := BdX.up hz (BdX.up hz (BdX.up hz (BdX.up hz (x := z) (y := 4) (v := bOr (M2 z 4) (bShl 0 (p : Int))) ⟨(f1.trans f2).x hz, hb⟩ (by omega) (by omega)) (x := z + 1) (y := (p : Int)) (v := 4) (by omega) (by omega)) (x := z + 2) (y := (p : Int)) (v := 1) (by omega) (by omega)) (x := z) (y := 2) (v := ((p + 1 : Nat) : Int)) (by omega) (by omega)
    exact a64 _ hb'.2.2.2.1 (hq _ hb'.po)
theorem c_Rd_lawInto {x b : Int} (hx : isO x 3) (h0 : 0 ≤ x) (hb : b = 0 ∨ b = 1) : MS G d mi_Rd_lawInto [vr 2, vr x, vi b] M (fun r M' => r = none ∧ M' = up (up (up M 2 9 x) x 1 0) 2 10 b) := by
  have e9 : up M 2 9 x 2 9 = x := up_eq _ _ _ _
  refine MS.run ck_Rd_lawInto [some (vr 2), some (vr x), some (vi b)] [] 12 fun _ _ => ?_
  rcases hb with rfl | rfl
  · simp only [wR, wB, wE0, wE1, wE2, wE3, g0, gS, s10, s11, s1S, s20, s21, s2S, kl0, kl1, kl2, kl3, sp0, sp1, sp2, sp3, cn1, cn2, cn3, cn4, cn5, cn6, jJa, lk0, lk1, jmS, jmN, s4_0, s4_1, s4_2, s4_3, s4_4, sw0, sw1, cKs, cKn, true_and, and_true, List.map_cons, List.map_nil, Nat.reduceAdd, Nat.zero_add, Int.reduceAdd, Nat.reduceEqDiff, reduceIte, Classical.not_not, b_Rd_lawInto, shH, hx, e9, Int.reduceEq, not_true_eq_false, not_false_eq_true, false_imp_iff, true_imp_iff, and_self]
    (repeat' (first | omega | (with_reducible exact True.intro) | exact ⟨by omega, by omega⟩ | (with_reducible exact Or.inr trivial) | (with_reducible exact Or.inl trivial) | (with_reducible assumption) | (with_reducible exact Same.refl) | (with_reducible rfl) | (with_reducible refine And.intro ?_ ?_) | (with_reducible intro _)))
  · simp only [wR, wB, wE0, wE1, wE2, wE3, g0, gS, s10, s11, s1S, s20, s21, s2S, kl0, kl1, kl2, kl3, sp0, sp1, sp2, sp3, cn1, cn2, cn3, cn4, cn5, cn6, jJa, lk0, lk1, jmS, jmN, s4_0, s4_1, s4_2, s4_3, s4_4, sw0, sw1, cKs, cKn, true_and, and_true, List.map_cons, List.map_nil, Nat.reduceAdd, Nat.zero_add, Int.reduceAdd, Nat.reduceEqDiff, reduceIte, Classical.not_not, b_Rd_lawInto, shH, hx, e9, Int.reduceEq, not_true_eq_false, not_false_eq_true, false_imp_iff, true_imp_iff, and_self]
    (repeat' (first | omega | (with_reducible exact True.intro) | exact ⟨by omega, by omega⟩ | (with_reducible exact Or.inr trivial) | (with_reducible exact Or.inl trivial) | (with_reducible assumption) | (with_reducible exact Same.refl) | (with_reducible rfl) | (with_reducible refine And.intro ?_ ?_) | (with_reducible intro _)))
end TC
