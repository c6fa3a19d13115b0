section TD
variable {G : AG} {d : Nat} {M N K : AM} {t : Nat → Nat} {n m k w F : Nat} {h : Hl} {mo : Mo} {z : Int}
theorem FrC.x {z' : Int} (hz : z = 7 ∨ z = 16) (hz' : z' = z + 3 ∨ z' = z + 5) (f : FrC z' M N) : FrX z M N :=
  ⟨fun x h1 h2 => f.1 x h1 (by omega) (by omega), by rw [f.1 z (by omega) (by omega) (by omega)]⟩
theorem lwz {z' : Int} (hz : z = 7 ∨ z = 16) (hz' : z' = z + 3 ∨ z' = z + 5) : lwZ z' := by
  have hs := sh_Ha (isO_z hz)
  rcases hz' with rfl | rfl
  · exact ⟨hs.2.2.1, by omega, by omega⟩
  · exact ⟨hs.2.2.2.1, by omega, by omega⟩
theorem AtC.f9 {y v : Int} (h : AtC M t n m k) (hy : y = 9 ∨ y = 10) : AtC (up M 2 y v) t n m k := by
  obtain ⟨a, b, c, e, f, g⟩ := h
  exact ⟨a.eq (up_z (by omega)) (up_z (by omega)) (up_z (by omega)), b, by rw [up_ne2 (by omega)]; exact c, by rw [up_ne2 (by omega)]; exact e, by rw [up_ne2 (by omega)]; exact f, by rw [up_ne2 (by omega)]; exact g⟩
theorem Bd0_f9 {y v : Int} (h : Bd0 t n M w k) (hy : y = 9 ∨ y = 10) : Bd0 t n (up M 2 y v) w k := by
  obtain ⟨a, b, c, e⟩ := h
  exact ⟨by rw [up_ne2 (by omega)]; exact a, by rw [up_ne2 (by omega)]; exact b, by rw [up_ne2 (by omega)]; exact c, e⟩
theorem FrX_law {z' b : Int} (hz : z = 7 ∨ z = 16) (hz' : z' = z + 3 ∨ z' = z + 5) : FrX z M (up (up (up M 2 9 z') z' 1 0) 2 10 b) := by
  refine ⟨fun x h1 h2 => ?_, ?_⟩
  · have : x ≠ z' := by omega
    rw [up_z h1, up_z this, up_z h1]
  · rw [up_ne1 (by omega), up_ne1 (by omega), up_ne1 (by omega)]
/-- a law's line, behind its word -/
theorem lawLine {z' b : Int} {lw : Nat} (hz : z = 7 ∨ z = 16) (hz' : z' = z + 3 + 2 * (lw : Int)) (hl : lw ≤ 1) (hF : CF M z h mo) {M5 : AM} (hp : PoC t n m z' 0 (up (up (up M 2 9 z') z' 1 0) 2 10 b) M5 (PR t n lw F (5 * lw) 0 k)) : PoX t n m z M M5 ((PR t n lw F (5 * lw) 0 k).lz (fun k' cs => Rz.good k' (if lw = 0 then h.sT cs else h.sC cs) mo)) := by
  have fr : FrX z M (up (up (up M 2 9 z') z' 1 0) 2 10 b) := FrX_law hz (by omega)
  rcases rs_cases (PR t n lw F (5 * lw) 0 k) with ⟨w, k1, e⟩ | ⟨k1, cs, e⟩
  · rw [e] at hp ⊢
    obtain ⟨h1, h2, h3, h4, h5, _⟩ := hp.bad
    exact ⟨fr.trans (h1.x hz (by omega)), h2, h3, h4, h5⟩
  · rw [e] at hp ⊢
    obtain ⟨h1, h2, h3, h4, h5⟩ := hp.good
    have hs : ∀ x : Int, z ≤ x → x ≤ z + 8 → x ≠ z' → x ≠ z' + 1 → M5 x = M x := by
      intro x a1 a2 a3 a4
      rw [h1.1 x (by omega) a3 a4, up_z (by omega), up_z a3, up_z (by omega)]
    rw [Nat.zero_add] at h3
    have h5' : ∀ i : Nat, i < cs.length → M5 (z' + 1) (i : Int) = cc (cs.getD i 0) := by
      intro i hi
      have := h5 i hi
      rwa [Nat.zero_add] at this
    refine ⟨fr.trans (h1.x hz (by omega)), h2, ?_⟩
    rcases (show lw = 0 ∨ lw = 1 by omega) with rfl | rfl
    · obtain rfl : z' = z + 3 := by omega
      exact hF.tir hs h3 h5'
    · obtain rfl : z' = z + 5 := by omega
      exact hF.cnt hs h3 h5'
theorem PoX.of {r : Rz} (g : FrX z M N) (H : PoX t n m z N K r) : PoX t n m z M K r := by
  rcases rz_cases r with ⟨w, k, rfl⟩ | ⟨k, h, mo, rfl⟩
  · exact BdX.of g H.bad
  · exact GdX.of g H.good
set_option maxRecDepth 20000 in
theorem c_Rd_line (hd : 61 ≤ d) (hz : z = 7 ∨ z = 16) (hA : AtC M t n m k) (hF : CF M z h mo) (hP : h.P ≤ 5) (ok : okZ (LI t n F k h mo)) : MS G d mi_Rd_line [vr 2, vr z] M (fun r M' => r = none ∧ PoX t n m z M M' (LI t n F k h mo)) := by
  have hH := isO_z hz
  have hs := sh_Ha hH
  have h8 := hA.2.2.2.1
  have e2 := ckq (kk := kin t n (pls t n (k))) (x := 2) (v := 0) kin_v (by unfold vK; omega) (by decide +kernel)
  have e7 := ckq (kk := kin t n (pls t n (k))) (x := 7) (v := 5) kin_v (by unfold vK; omega) (by decide +kernel)
  have e8 := ckq (kk := kin t n (pls t n (k))) (x := 8) (v := 11) kin_v (by unfold vK; omega) (by decide +kernel)
  have e9 := ckq (kk := kin t n (pls t n (k))) (x := 9) (v := 12) kin_v (by unfold vK; omega) (by decide +kernel)
  refine MS.by ck_Rd_line [some (vr 2), some (vr z)] fun _ _ => ?_
  generalize hQ : (fun (r : Option AV) (M' : AM) => r = none ∧ PoX t n m z M M' (LI t n F k h mo)) = Q
  have hq : ∀ M', PoX t n m z M M' (LI t n F k h mo) → Q none M' := by
    intro M' h
    rw [← hQ]
    exact ⟨rfl, h⟩
  clear hQ
  unfold LI at hq ok
  by_cases q2 : kin t n (pls t n (k)) = 2
  · rw [if_pos q2] at hq ok
    rw [e2.mpr q2] at h8
    refine AW.run ck_Rd_line [] 12 0 ?_
    simp only [wR, wB, wE0, wE1, wE2, wE3, g0, gS, s10, s11, s1S, s20, s21, s2S, kl0, kl1, kl2, kl3, sp0, sp1, sp2, sp3, cn1, cn2, cn3, cn4, cn5, cn6, jJa, lk0, lk1, jmS, jmN, s4_0, s4_1, s4_2, s4_3, s4_4, sw0, sw1, cKs, cKn, true_and, and_true, List.map_cons, List.map_nil, Nat.reduceAdd, Nat.zero_add, Int.reduceAdd, Nat.reduceEqDiff, reduceIte, Classical.not_not, b_Rd_line, shH, hH, h8, Int.reduceEq, not_true_eq_false, not_false_eq_true, false_imp_iff, true_imp_iff, and_self]
    refine ⟨by omega, (c_Rd_personLine (by omega) hz hA q2 hF hP ok).mono ?_⟩
    rintro r M1 _ ⟨rfl, hp⟩
    simp only [wR, wB, wE0, wE1, wE2, wE3, g0, gS, s10, s11, s1S, s20, s21, s2S, kl0, kl1, kl2, kl3, sp0, sp1, sp2, sp3, cn1, cn2, cn3, cn4, cn5, cn6, jJa, lk0, lk1, jmS, jmN, s4_0, s4_1, s4_2, s4_3, s4_4, sw0, sw1, cKs, cKn, true_and, and_true, List.map_cons, List.map_nil, Nat.reduceAdd, Nat.zero_add, Int.reduceAdd, Nat.reduceEqDiff, reduceIte, Classical.not_not, b_Rd_line, shH, Int.reduceEq, not_true_eq_false, not_false_eq_true, false_imp_iff, true_imp_iff, and_self]
    exact hq _ hp
  rw [if_neg q2] at hq ok
  by_cases q7 : kin t n (pls t n (k)) = 7
  · rw [if_pos q7] at hq ok
    rw [e7.mpr q7] at h8
    refine AW.run ck_Rd_line [] 12 0 ?_
    simp only [wR, wB, wE0, wE1, wE2, wE3, g0, gS, s10, s11, s1S, s20, s21, s2S, kl0, kl1, kl2, kl3, sp0, sp1, sp2, sp3, cn1, cn2, cn3, cn4, cn5, cn6, jJa, lk0, lk1, jmS, jmN, s4_0, s4_1, s4_2, s4_3, s4_4, sw0, sw1, cKs, cKn, true_and, and_true, List.map_cons, List.map_nil, Nat.reduceAdd, Nat.zero_add, Int.reduceAdd, Nat.reduceEqDiff, reduceIte, Classical.not_not, b_Rd_line, shH, hH, h8, Int.reduceEq, not_true_eq_false, not_false_eq_true, false_imp_iff, true_imp_iff, and_self]
    refine ⟨by omega, (c_Rd_next_2 hA (by omega)).mono ?_⟩
    rintro r M1 _ ⟨rfl, hA1, f1⟩
    simp only [wR, wB, wE0, wE1, wE2, wE3, g0, gS, s10, s11, s1S, s20, s21, s2S, kl0, kl1, kl2, kl3, sp0, sp1, sp2, sp3, cn1, cn2, cn3, cn4, cn5, cn6, jJa, lk0, lk1, jmS, jmN, s4_0, s4_1, s4_2, s4_3, s4_4, sw0, sw1, cKs, cKn, true_and, and_true, List.map_cons, List.map_nil, Nat.reduceAdd, Nat.zero_add, Int.reduceAdd, Nat.reduceEqDiff, reduceIte, Classical.not_not, b_Rd_line, shH, hH, Int.reduceEq, not_true_eq_false, not_false_eq_true, false_imp_iff, true_imp_iff, and_self]
    (repeat' (first | omega | (with_reducible exact True.intro) | exact ⟨by omega, by omega⟩ | (with_reducible exact Or.inr trivial) | (with_reducible exact Or.inl trivial) | (with_reducible assumption) | (with_reducible exact Same.refl) | (with_reducible rfl) | (with_reducible refine And.intro ?_ ?_) | (with_reducible intro _)))
    refine (c_Rd_number_z (most := 9) (g := fun x => Rz.good (k + 2) h (mo.chill x)) (by omega) (by omega) hA1).mono ?_
    rintro r M2 _ ⟨f2, ⟨y, rfl, hy, hz', hA2, _⟩ | ⟨w, rfl, hz', hb⟩⟩
    · rw [hz'] at hq
      simp only [wR, wB, wE0, wE1, wE2, wE3, g0, gS, s10, s11, s1S, s20, s21, s2S, kl0, kl1, kl2, kl3, sp0, sp1, sp2, sp3, cn1, cn2, cn3, cn4, cn5, cn6, jJa, lk0, lk1, jmS, jmN, s4_0, s4_1, s4_2, s4_3, s4_4, sw0, sw1, cKs, cKn, true_and, and_true, List.map_cons, List.map_nil, Nat.reduceAdd, Nat.zero_add, Int.reduceAdd, Nat.reduceEqDiff, reduceIte, Classical.not_not, b_Rd_line, shH, hH, Int.reduceEq, not_true_eq_false, not_false_eq_true, false_imp_iff, true_imp_iff, and_self]
      exact hq _ (GdX.po ⟨((f1.trans f2).x hz).up (by omega) (by omega), hA2.c7 (by omega), (hF.f2 hz (f1.trans f2)).cold⟩)
    · rw [hz'] at hq
      simp only [wR, wB, wE0, wE1, wE2, wE3, g0, gS, s10, s11, s1S, s20, s21, s2S, kl0, kl1, kl2, kl3, sp0, sp1, sp2, sp3, cn1, cn2, cn3, cn4, cn5, cn6, jJa, lk0, lk1, jmS, jmN, s4_0, s4_1, s4_2, s4_3, s4_4, sw0, sw1, cKs, cKn, true_and, and_true, List.map_cons, List.map_nil, Nat.reduceAdd, Nat.zero_add, Int.reduceAdd, Nat.reduceEqDiff, reduceIte, Classical.not_not, b_Rd_line, shH, hH, Int.reduceEq, not_true_eq_false, not_false_eq_true, false_imp_iff, true_imp_iff, and_self]
      exact hq _ (BdX.up hz ⟨(f1.trans f2).x hz, hb⟩ (by omega) (by omega)).po
  rw [if_neg q7] at hq ok
  by_cases q8 : kin t n (pls t n (k)) = 8
  · rw [if_pos q8, ← LIw_0] at hq ok
    rw [e8.mpr q8] at h8
    unfold LIw at hq ok
    have hzz := lwz (z' := z + 3) hz (by omega)
    refine AW.run ck_Rd_line [] 12 0 ?_
    simp only [wR, wB, wE0, wE1, wE2, wE3, g0, gS, s10, s11, s1S, s20, s21, s2S, kl0, kl1, kl2, kl3, sp0, sp1, sp2, sp3, cn1, cn2, cn3, cn4, cn5, cn6, jJa, lk0, lk1, jmS, jmN, s4_0, s4_1, s4_2, s4_3, s4_4, sw0, sw1, cKs, cKn, true_and, and_true, List.map_cons, List.map_nil, Nat.reduceAdd, Nat.zero_add, Int.reduceAdd, Nat.reduceEqDiff, reduceIte, Classical.not_not, b_Rd_line, shH, hH, h8, Int.reduceEq, not_true_eq_false, not_false_eq_true, false_imp_iff, true_imp_iff, and_self]
    refine ⟨by omega, (c_Rd_next_2 hA (by omega)).mono ?_⟩
    rintro r M1 _ ⟨rfl, hA1, f1⟩
    simp only [wR, wB, wE0, wE1, wE2, wE3, g0, gS, s10, s11, s1S, s20, s21, s2S, kl0, kl1, kl2, kl3, sp0, sp1, sp2, sp3, cn1, cn2, cn3, cn4, cn5, cn6, jJa, lk0, lk1, jmS, jmN, s4_0, s4_1, s4_2, s4_3, s4_4, sw0, sw1, cKs, cKn, true_and, and_true, List.map_cons, List.map_nil, Nat.reduceAdd, Nat.zero_add, Int.reduceAdd, Nat.reduceEqDiff, reduceIte, Classical.not_not, b_Rd_line, shH, hH, Int.reduceEq, not_true_eq_false, not_false_eq_true, false_imp_iff, true_imp_iff, and_self]
    (repeat' (first | omega | (with_reducible exact True.intro) | exact ⟨by omega, by omega⟩ | (with_reducible exact Or.inr trivial) | (with_reducible exact Or.inl trivial) | (with_reducible assumption) | (with_reducible exact Same.refl) | (with_reducible rfl) | (with_reducible refine And.intro ?_ ?_) | (with_reducible intro _)))
    refine (c_Rd_sign_2 (x := 31) (c := 58) (by omega) hA1 (by unfold vK; omega) (by omega) (by decide +kernel) (by omega)).mono ?_
    rintro r M2 _ ⟨rfl, f2, ⟨q3, hA2⟩ | ⟨q3, hb⟩⟩
    · rw [if_pos q3] at hq ok
      have hA3 : AtC (up (up (up M2 2 9 (z + 3)) (z + 3) 1 0) 2 10 1) t n m (k + 2) := ((hA2.f9 (by omega)).c7 (by omega)).f9 (by omega)
      simp only [wR, wB, wE0, wE1, wE2, wE3, g0, gS, s10, s11, s1S, s20, s21, s2S, kl0, kl1, kl2, kl3, sp0, sp1, sp2, sp3, cn1, cn2, cn3, cn4, cn5, cn6, jJa, lk0, lk1, jmS, jmN, s4_0, s4_1, s4_2, s4_3, s4_4, sw0, sw1, cKs, cKn, true_and, and_true, List.map_cons, List.map_nil, Nat.reduceAdd, Nat.zero_add, Int.reduceAdd, Nat.reduceEqDiff, reduceIte, Classical.not_not, b_Rd_line, shH, hH, hs, Int.reduceEq, not_true_eq_false, not_false_eq_true, false_imp_iff, true_imp_iff, and_self]
      (repeat' (first | omega | (with_reducible exact True.intro) | exact ⟨by omega, by omega⟩ | (with_reducible exact Or.inr trivial) | (with_reducible exact Or.inl trivial) | (with_reducible assumption) | (with_reducible exact Same.refl) | (with_reducible rfl) | (with_reducible refine And.intro ?_ ?_) | (with_reducible intro _)))
      refine MS.to (c_Rd_lawInto hzz.1 (by omega) (by omega)) fun _ => ?_
      simp only [wR, wB, wE0, wE1, wE2, wE3, g0, gS, s10, s11, s1S, s20, s21, s2S, kl0, kl1, kl2, kl3, sp0, sp1, sp2, sp3, cn1, cn2, cn3, cn4, cn5, cn6, jJa, lk0, lk1, jmS, jmN, s4_0, s4_1, s4_2, s4_3, s4_4, sw0, sw1, cKs, cKn, true_and, and_true, List.map_cons, List.map_nil, Nat.reduceAdd, Nat.zero_add, Int.reduceAdd, Nat.reduceEqDiff, reduceIte, Classical.not_not, b_Rd_line, shH, hH, hs, Int.reduceEq, not_true_eq_false, not_false_eq_true, false_imp_iff, true_imp_iff, and_self]
      (repeat' (first | omega | (with_reducible exact True.intro) | exact ⟨by omega, by omega⟩ | (with_reducible exact Or.inr trivial) | (with_reducible exact Or.inl trivial) | (with_reducible assumption) | (with_reducible exact Same.refl) | (with_reducible rfl) | (with_reducible refine And.intro ?_ ?_) | (with_reducible intro _)))
      refine ((c_Rd_readAll (G := G) (t := t) (n := n) (m := m) (lw := 0) hzz F).1 (d - 1) 0 (k + 2) 0 _ (by omega) (by omega) hA3 ?_ (up_eq _ _ _ _) ?_ (by omega) ?_).mono ?_
      · rw [up_ne2 (by omega), up_ne1 (by omega), up_eq]
      · rw [up_ne1 (by omega), up_eq]; rfl
      · intro j e
        have e' : PR t n 0 F (5 * 0) 0 (k + 2) = Rs.bad 0 j := e
        rw [e'] at ok
        exact ok j rfl
      rintro r M5 _ ⟨rfl, hp⟩
      simp only [wR, wB, wE0, wE1, wE2, wE3, g0, gS, s10, s11, s1S, s20, s21, s2S, kl0, kl1, kl2, kl3, sp0, sp1, sp2, sp3, cn1, cn2, cn3, cn4, cn5, cn6, jJa, lk0, lk1, jmS, jmN, s4_0, s4_1, s4_2, s4_3, s4_4, sw0, sw1, cKs, cKn, true_and, and_true, List.map_cons, List.map_nil, Nat.reduceAdd, Nat.zero_add, Int.reduceAdd, Nat.reduceEqDiff, reduceIte, Classical.not_not, b_Rd_line, shH, Int.reduceEq, not_true_eq_false, not_false_eq_true, false_imp_iff, true_imp_iff, and_self]
      exact hq _ (PoX.of ((f1.trans f2).x hz) (lawLine (M := M2) (lw := 0) (F := F) hz (by omega) (by omega) (hF.f2 hz (f1.trans f2)) hp))
    · rw [if_neg q3] at hq
      have hb3 : Bd0 t n (up (up (up M2 2 9 (z + 3)) (z + 3) 1 0) 2 10 1) 2 (k + 1) := Bd0_f9 ((Bd0_f9 hb (by omega)).up (by omega)) (by omega)
      simp only [wR, wB, wE0, wE1, wE2, wE3, g0, gS, s10, s11, s1S, s20, s21, s2S, kl0, kl1, kl2, kl3, sp0, sp1, sp2, sp3, cn1, cn2, cn3, cn4, cn5, cn6, jJa, lk0, lk1, jmS, jmN, s4_0, s4_1, s4_2, s4_3, s4_4, sw0, sw1, cKs, cKn, true_and, and_true, List.map_cons, List.map_nil, Nat.reduceAdd, Nat.zero_add, Int.reduceAdd, Nat.reduceEqDiff, reduceIte, Classical.not_not, b_Rd_line, shH, hH, hs, Int.reduceEq, not_true_eq_false, not_false_eq_true, false_imp_iff, true_imp_iff, and_self]
      (repeat' (first | omega | (with_reducible exact True.intro) | exact ⟨by omega, by omega⟩ | (with_reducible exact Or.inr trivial) | (with_reducible exact Or.inl trivial) | (with_reducible assumption) | (with_reducible exact Same.refl) | (with_reducible rfl) | (with_reducible refine And.intro ?_ ?_) | (with_reducible intro _)))
      refine MS.to (c_Rd_lawInto hzz.1 (by omega) (by omega)) fun _ => ?_
      simp only [wR, wB, wE0, wE1, wE2, wE3, g0, gS, s10, s11, s1S, s20, s21, s2S, kl0, kl1, kl2, kl3, sp0, sp1, sp2, sp3, cn1, cn2, cn3, cn4, cn5, cn6, jJa, lk0, lk1, jmS, jmN, s4_0, s4_1, s4_2, s4_3, s4_4, sw0, sw1, cKs, cKn, true_and, and_true, List.map_cons, List.map_nil, Nat.reduceAdd, Nat.zero_add, Int.reduceAdd, Nat.reduceEqDiff, reduceIte, Classical.not_not, b_Rd_line, shH, hH, hs, Int.reduceEq, not_true_eq_false, not_false_eq_true, false_imp_iff, true_imp_iff, and_self]
      (repeat' (first | omega | (with_reducible exact True.intro) | exact ⟨by omega, by omega⟩ | (with_reducible exact Or.inr trivial) | (with_reducible exact Or.inl trivial) | (with_reducible assumption) | (with_reducible exact Same.refl) | (with_reducible rfl) | (with_reducible refine And.intro ?_ ?_) | (with_reducible intro _)))
      refine MS.to (c_Rd_sum_f (by omega) hb3.ne hb3.2.2.1) fun _ => ?_
      simp only [wR, wB, wE0, wE1, wE2, wE3, g0, gS, s10, s11, s1S, s20, s21, s2S, kl0, kl1, kl2, kl3, sp0, sp1, sp2, sp3, cn1, cn2, cn3, cn4, cn5, cn6, jJa, lk0, lk1, jmS, jmN, s4_0, s4_1, s4_2, s4_3, s4_4, sw0, sw1, cKs, cKn, true_and, and_true, List.map_cons, List.map_nil, Nat.reduceAdd, Nat.zero_add, Int.reduceAdd, Nat.reduceEqDiff, reduceIte, Classical.not_not, b_Rd_line, shH, Int.reduceEq, not_true_eq_false, not_false_eq_true, false_imp_iff, true_imp_iff, and_self]
      exact hq _ (BdX.po ⟨((f1.trans f2).x hz).trans (FrX_law hz (by omega)), hb3⟩)
  rw [if_neg q8] at hq ok
  by_cases q9 : kin t n (pls t n (k)) = 9
  · rw [if_pos q9, ← LIw_1] at hq ok
    rw [e9.mpr q9] at h8
    unfold LIw at hq ok
    have hzz := lwz (z' := z + 5) hz (by omega)
    refine AW.run ck_Rd_line [] 12 0 ?_
    simp only [wR, wB, wE0, wE1, wE2, wE3, g0, gS, s10, s11, s1S, s20, s21, s2S, kl0, kl1, kl2, kl3, sp0, sp1, sp2, sp3, cn1, cn2, cn3, cn4, cn5, cn6, jJa, lk0, lk1, jmS, jmN, s4_0, s4_1, s4_2, s4_3, s4_4, sw0, sw1, cKs, cKn, true_and, and_true, List.map_cons, List.map_nil, Nat.reduceAdd, Nat.zero_add, Int.reduceAdd, Nat.reduceEqDiff, reduceIte, Classical.not_not, b_Rd_line, shH, hH, h8, Int.reduceEq, not_true_eq_false, not_false_eq_true, false_imp_iff, true_imp_iff, and_self]
    refine ⟨by omega, (c_Rd_next_2 hA (by omega)).mono ?_⟩
    rintro r M1 _ ⟨rfl, hA1, f1⟩
    simp only [wR, wB, wE0, wE1, wE2, wE3, g0, gS, s10, s11, s1S, s20, s21, s2S, kl0, kl1, kl2, kl3, sp0, sp1, sp2, sp3, cn1, cn2, cn3, cn4, cn5, cn6, jJa, lk0, lk1, jmS, jmN, s4_0, s4_1, s4_2, s4_3, s4_4, sw0, sw1, cKs, cKn, true_and, and_true, List.map_cons, List.map_nil, Nat.reduceAdd, Nat.zero_add, Int.reduceAdd, Nat.reduceEqDiff, reduceIte, Classical.not_not, b_Rd_line, shH, hH, Int.reduceEq, not_true_eq_false, not_false_eq_true, false_imp_iff, true_imp_iff, and_self]
    (repeat' (first | omega | (with_reducible exact True.intro) | exact ⟨by omega, by omega⟩ | (with_reducible exact Or.inr trivial) | (with_reducible exact Or.inl trivial) | (with_reducible assumption) | (with_reducible exact Same.refl) | (with_reducible rfl) | (with_reducible refine And.intro ?_ ?_) | (with_reducible intro _)))
    refine (c_Rd_sign_2 (x := 31) (c := 58) (by omega) hA1 (by unfold vK; omega) (by omega) (by decide +kernel) (by omega)).mono ?_
    rintro r M2 _ ⟨rfl, f2, ⟨q3, hA2⟩ | ⟨q3, hb⟩⟩
    · rw [if_pos q3] at hq ok
      have hA3 : AtC (up (up (up M2 2 9 (z + 5)) (z + 5) 1 0) 2 10 0) t n m (k + 2) := ((hA2.f9 (by omega)).c7 (by omega)).f9 (by omega)
      simp only [wR, wB, wE0, wE1, wE2, wE3, g0, gS, s10, s11, s1S, s20, s21, s2S, kl0, kl1, kl2, kl3, sp0, sp1, sp2, sp3, cn1, cn2, cn3, cn4, cn5, cn6, jJa, lk0, lk1, jmS, jmN, s4_0, s4_1, s4_2, s4_3, s4_4, sw0, sw1, cKs, cKn, true_and, and_true, List.map_cons, List.map_nil, Nat.reduceAdd, Nat.zero_add, Int.reduceAdd, Nat.reduceEqDiff, reduceIte, Classical.not_not, b_Rd_line, shH, hH, hs, Int.reduceEq, not_true_eq_false, not_false_eq_true, false_imp_iff, true_imp_iff, and_self]
      (repeat' (first | omega | (with_reducible exact True.intro) | exact ⟨by omega, by omega⟩ | (with_reducible exact Or.inr trivial) | (with_reducible exact Or.inl trivial) | (with_reducible assumption) | (with_reducible exact Same.refl) | (with_reducible rfl) | (with_reducible refine And.intro ?_ ?_) | (with_reducible intro _)))
      refine MS.to (c_Rd_lawInto hzz.1 (by omega) (by omega)) fun _ => ?_
      simp only [wR, wB, wE0, wE1, wE2, wE3, g0, gS, s10, s11, s1S, s20, s21, s2S, kl0, kl1, kl2, kl3, sp0, sp1, sp2, sp3, cn1, cn2, cn3, cn4, cn5, cn6, jJa, lk0, lk1, jmS, jmN, s4_0, s4_1, s4_2, s4_3, s4_4, sw0, sw1, cKs, cKn, true_and, and_true, List.map_cons, List.map_nil, Nat.reduceAdd, Nat.zero_add, Int.reduceAdd, Nat.reduceEqDiff, reduceIte, Classical.not_not, b_Rd_line, shH, hH, hs, Int.reduceEq, not_true_eq_false, not_false_eq_true, false_imp_iff, true_imp_iff, and_self]
      (repeat' (first | omega | (with_reducible exact True.intro) | exact ⟨by omega, by omega⟩ | (with_reducible exact Or.inr trivial) | (with_reducible exact Or.inl trivial) | (with_reducible assumption) | (with_reducible exact Same.refl) | (with_reducible rfl) | (with_reducible refine And.intro ?_ ?_) | (with_reducible intro _)))
      refine ((c_Rd_readAll (G := G) (t := t) (n := n) (m := m) (lw := 1) hzz F).2.2.2.2.2.1 (d - 1) 0 (k + 2) 0 _ (by omega) (by omega) hA3 ?_ (up_eq _ _ _ _) ?_ (by omega) ?_).mono ?_
      · rw [up_ne2 (by omega), up_ne1 (by omega), up_eq]
      · rw [up_ne1 (by omega), up_eq]; rfl
      · intro j e
        have e' : PR t n 1 F (5 * 1) 0 (k + 2) = Rs.bad 0 j := e
        rw [e'] at ok
        exact ok j rfl
      rintro r M5 _ ⟨rfl, hp⟩
      simp only [wR, wB, wE0, wE1, wE2, wE3, g0, gS, s10, s11, s1S, s20, s21, s2S, kl0, kl1, kl2, kl3, sp0, sp1, sp2, sp3, cn1, cn2, cn3, cn4, cn5, cn6, jJa, lk0, lk1, jmS, jmN, s4_0, s4_1, s4_2, s4_3, s4_4, sw0, sw1, cKs, cKn, true_and, and_true, List.map_cons, List.map_nil, Nat.reduceAdd, Nat.zero_add, Int.reduceAdd, Nat.reduceEqDiff, reduceIte, Classical.not_not, b_Rd_line, shH, Int.reduceEq, not_true_eq_false, not_false_eq_true, false_imp_iff, true_imp_iff, and_self]
      exact hq _ (PoX.of ((f1.trans f2).x hz) (lawLine (M := M2) (lw := 1) (F := F) hz (by omega) (by omega) (hF.f2 hz (f1.trans f2)) hp))
    · rw [if_neg q3] at hq
      have hb3 : Bd0 t n (up (up (up M2 2 9 (z + 5)) (z + 5) 1 0) 2 10 0) 2 (k + 1) := Bd0_f9 ((Bd0_f9 hb (by omega)).up (by omega)) (by omega)
      simp only [wR, wB, wE0, wE1, wE2, wE3, g0, gS, s10, s11, s1S, s20, s21, s2S, kl0, kl1, kl2, kl3, sp0, sp1, sp2, sp3, cn1, cn2, cn3, cn4, cn5, cn6, jJa, lk0, lk1, jmS, jmN, s4_0, s4_1, s4_2, s4_3, s4_4, sw0, sw1, cKs, cKn, true_and, and_true, List.map_cons, List.map_nil, Nat.reduceAdd, Nat.zero_add, Int.reduceAdd, Nat.reduceEqDiff, reduceIte, Classical.not_not, b_Rd_line, shH, hH, hs, Int.reduceEq, not_true_eq_false, not_false_eq_true, false_imp_iff, true_imp_iff, and_self]
      (repeat' (first | omega | (with_reducible exact True.intro) | exact ⟨by omega, by omega⟩ | (with_reducible exact Or.inr trivial) | (with_reducible exact Or.inl trivial) | (with_reducible assumption) | (with_reducible exact Same.refl) | (with_reducible rfl) | (with_reducible refine And.intro ?_ ?_) | (with_reducible intro _)))
      refine MS.to (c_Rd_lawInto hzz.1 (by omega) (by omega)) fun _ => ?_
      simp only [wR, wB, wE0, wE1, wE2, wE3, g0, gS, s10, s11, s1S, s20, s21, s2S, kl0, kl1, kl2, kl3, sp0, sp1, sp2, sp3, cn1, cn2, cn3, cn4, cn5, cn6, jJa, lk0, lk1, jmS, jmN, s4_0, s4_1, s4_2, s4_3, s4_4, sw0, sw1, cKs, cKn, true_and, and_true, List.map_cons, List.map_nil, Nat.reduceAdd, Nat.zero_add, Int.reduceAdd, Nat.reduceEqDiff, reduceIte, Classical.not_not, b_Rd_line, shH, hH, hs, Int.reduceEq, not_true_eq_false, not_false_eq_true, false_imp_iff, true_imp_iff, and_self]
      (repeat' (first | omega | (with_reducible exact True.intro) | exact ⟨by omega, by omega⟩ | (with_reducible exact Or.inr trivial) | (with_reducible exact Or.inl trivial) | (with_reducible assumption) | (with_reducible exact Same.refl) | (with_reducible rfl) | (with_reducible refine And.intro ?_ ?_) | (with_reducible intro _)))
      refine MS.to (c_Rd_truth_f (by omega) hb3.ne hb3.2.2.1) fun _ => ?_
      simp only [wR, wB, wE0, wE1, wE2, wE3, g0, gS, s10, s11, s1S, s20, s21, s2S, kl0, kl1, kl2, kl3, sp0, sp1, sp2, sp3, cn1, cn2, cn3, cn4, cn5, cn6, jJa, lk0, lk1, jmS, jmN, s4_0, s4_1, s4_2, s4_3, s4_4, sw0, sw1, cKs, cKn, true_and, and_true, List.map_cons, List.map_nil, Nat.reduceAdd, Nat.zero_add, Int.reduceAdd, Nat.reduceEqDiff, reduceIte, Classical.not_not, b_Rd_line, shH, Int.reduceEq, not_true_eq_false, not_false_eq_true, false_imp_iff, true_imp_iff, and_self]
      exact hq _ (BdX.po ⟨((f1.trans f2).x hz).trans (FrX_law hz (by omega)), hb3⟩)
  rw [if_neg q9] at hq ok
  have hrf := c_Rd_refuse_2 (G := G) (d := d - 1) (w := 2) (by omega) hA
  have n2 : ¬ ((ck (kin t n (pls t n (k))) : Nat) : Int) = 0 := fun e => q2 (e2.mp e)
  have n7 : ¬ ((ck (kin t n (pls t n (k))) : Nat) : Int) = 5 := fun e => q7 (e7.mp e)
  have n8 : ¬ ((ck (kin t n (pls t n (k))) : Nat) : Int) = 11 := fun e => q8 (e8.mp e)
  have n9 : ¬ ((ck (kin t n (pls t n (k))) : Nat) : Int) = 12 := fun e => q9 (e9.mp e)
  clear e2 e7 e8 e9
  generalize ((ck (kin t n (pls t n (k))) : Nat) : Int) = x at h8 n2 n7 n8 n9
  refine AW.run ck_Rd_line [] 12 0 ?_
  simp only [wR, wB, wE0, wE1, wE2, wE3, g0, gS, s10, s11, s1S, s20, s21, s2S, kl0, kl1, kl2, kl3, sp0, sp1, sp2, sp3, cn1, cn2, cn3, cn4, cn5, cn6, jJa, lk0, lk1, jmS, jmN, s4_0, s4_1, s4_2, s4_3, s4_4, sw0, sw1, cKs, cKn, true_and, and_true, List.map_cons, List.map_nil, Nat.reduceAdd, Nat.zero_add, Int.reduceAdd, Nat.reduceEqDiff, reduceIte, Classical.not_not, b_Rd_line, shH, hH, h8]
  (repeat' (first | omega | (with_reducible exact True.intro) | exact ⟨by omega, by omega⟩ | (with_reducible exact Or.inr trivial) | (with_reducible exact Or.inl trivial) | (with_reducible assumption) | (with_reducible exact Same.refl) | (with_reducible rfl) | (with_reducible refine And.intro ?_ ?_) | (with_reducible intro _)))
  refine hrf.mono ?_
  rintro r M1 _ ⟨rfl, hb, f⟩
  simp only [wR, wB, wE0, wE1, wE2, wE3, g0, gS, s10, s11, s1S, s20, s21, s2S, kl0, kl1, kl2, kl3, sp0, sp1, sp2, sp3, cn1, cn2, cn3, cn4, cn5, cn6, jJa, lk0, lk1, jmS, jmN, s4_0, s4_1, s4_2, s4_3, s4_4, sw0, sw1, cKs, cKn, true_and, and_true, List.map_cons, List.map_nil, Nat.reduceAdd, Nat.zero_add, Int.reduceAdd, Nat.reduceEqDiff, reduceIte, Classical.not_not, b_Rd_line, shH, Int.reduceEq, not_true_eq_false, not_false_eq_true, false_imp_iff, true_imp_iff, and_self]
  exact hq _ (BdX.po ⟨f.x hz, hb⟩)
end TD
