section TF
variable {G : AG} {d : Nat} {M N K : AM} {t : Nat → Nat} {n m k w F : Nat} {h : Hl} {mo : Mo} {z : Int}
theorem AtC.eq4 (H : AtC M t n m k) (h2 : N 2 = M 2) (h4 : N 4 = M 4) (h5 : N 5 = M 5) (h6 : N 6 = M 6) : AtC N t n m k := by
  obtain ⟨a, b⟩ := H
  refine ⟨a.eq h4 h5 h6, ?_⟩
  rw [h2]
  exact b
theorem PoY.r {r : Rz} {M1 : AM} (f : FrR z M M1) (H : PoY t n m z M1 K r) : PoR t n z M K r := by
  rcases rz_cases r with ⟨w, k, rfl⟩ | ⟨k, h, mo, rfl⟩
  · obtain ⟨a, b⟩ := H.bad
    exact ⟨fun x h1 h2 h3 h4 h5 => (a x h1 h5).trans (f x h1 h2 h3 h4 h5), b⟩
  · obtain ⟨a, b, c⟩ := H.good
    exact ⟨fun x h1 h2 h3 h4 h5 => (a x h1 h5).trans (f x h1 h2 h3 h4 h5), b.2.2.2.2.1, b.2.2.2.2.2, c⟩
set_option maxRecDepth 20000 in
theorem c_Rd_read (hd : 63 ≤ d) (n9 : n ≤ 900) (hF : 10 * n + 10 ≤ F) (hz : z = 7 ∨ z = 16) (hM : ∀ k : Nat, k < n → M 1 k = sgn (t k)) (h255 : ∀ k, t k ≤ 255) : MS G d mi_Rd_read [vr 2, vr 1, vi n, vr z] M (fun r M' => r = none ∧ PoR t n z M M' (HA t n F)) := by
  have hH := isO_z hz
  have hN := kn_n (t := t) (n := n)
  have i4 : isArr 4 := ⟨_, (arT_of (k := 4) rfl rfl).1⟩
  refine MS.by ck_Rd_read [some (vr 2), some (vr 1), some (vi n), some (vr z), none] fun _ _ => ?_
  generalize hQ : (fun (r : Option AV) (M' : AM) => r = none ∧ PoR t n z M M' (HA t n F)) = Q
  have hq : ∀ M', PoR t n z M M' (HA t n F) → Q none M' := by
    intro M' h
    rw [← hQ]
    exact ⟨rfl, h⟩
  clear hQ
  refine AW.run ck_Rd_read [70] 12 0 ?_
  simp only [wR, wB, wE0, wE1, wE2, wE3, g0, gS, s10, s11, s1S, s20, s21, s2S, kl0, kl1, kl2, kl3, sp0, sp1, sp2, sp3, cn1, cn2, cn3, cn4, cn5, cn6, jJa, lk0, lk1, jmS, jmN, s4_0, s4_1, s4_2, s4_3, s4_4, sw0, sw1, cKs, cKn, true_and, and_true, List.map_cons, List.map_nil, Nat.reduceAdd, Nat.zero_add, Int.reduceAdd, Nat.reduceEqDiff, reduceIte, Classical.not_not, b_Rd_read, shH]
  refine ⟨by omega, (c_Rd_cut (by omega) n9 hM h255).mono ?_⟩
  rintro r M1 _ ⟨rfl, ⟨m, hT⟩, _, s1, _⟩
  have e4 : M1 4 0 = ((ck (kin t n (pls t n (0))) : Nat) : Int) := (hT.2.1 0 (by omega)).1
  have e4' : up (up (up M1 2 0 0) 2 1 (-1)) 2 7 0 4 0 = ((ck (kin t n (pls t n (0))) : Nat) : Int) := by
    rw [up_ne1 (by omega), up_ne1 (by omega), up_ne1 (by omega)]
    exact e4
  have hA2 : AtC (up (up (up (up M1 2 0 0) 2 1 (-1)) 2 7 0) 2 8 ((ck (kin t n (pls t n (0))) : Nat) : Int)) t n m 0 := by
    refine ⟨hT.eq ?_ ?_ ?_, by omega, ?_, up_eq _ _ _ _, ?_, ?_⟩
    · rw [up_z (by omega), up_z (by omega), up_z (by omega), up_z (by omega)]
    · rw [up_z (by omega), up_z (by omega), up_z (by omega), up_z (by omega)]
    · rw [up_z (by omega), up_z (by omega), up_z (by omega), up_z (by omega)]
    · rw [up_ne2 (by omega), up_eq]; rfl
    · rw [up_ne2 (by omega), up_ne2 (by omega), up_ne2 (by omega), up_eq]
    · rw [up_ne2 (by omega), up_ne2 (by omega), up_eq]
  have fr2 : FrR z M (up (up (up (up M1 2 0 0) 2 1 (-1)) 2 7 0) 2 8 ((ck (kin t n (pls t n (0))) : Nat) : Int)) := by
    intro x h1 h2 h3 h4 h5
    rw [up_z h1, up_z h1, up_z h1, up_z h1]
    exact s1 x (by simp only [List.mem_cons, List.not_mem_nil, or_false]; omega)
  simp only [wR, wB, wE0, wE1, wE2, wE3, g0, gS, s10, s11, s1S, s20, s21, s2S, kl0, kl1, kl2, kl3, sp0, sp1, sp2, sp3, cn1, cn2, cn3, cn4, cn5, cn6, jJa, lk0, lk1, jmS, jmN, s4_0, s4_1, s4_2, s4_3, s4_4, sw0, sw1, cKs, cKn, true_and, and_true, List.map_cons, List.map_nil, Nat.reduceAdd, Nat.zero_add, Int.reduceAdd, Nat.reduceEqDiff, reduceIte, Classical.not_not, b_Rd_read, shH, hH, i4, e4', Int.reduceEq, not_true_eq_false, not_false_eq_true, false_imp_iff, true_imp_iff, and_self]
  generalize up (up (up (up M1 2 0 0) 2 1 (-1)) 2 7 0) 2 8 ((ck (kin t n (pls t n (0))) : Nat) : Int) = M2 at *
  have hq : ∀ M', PoY t n m z M2 M' (HA t n F) → Q none M' := fun M' H => hq M' (H.r fr2)
  (repeat' (first | omega | (with_reducible exact True.intro) | exact ⟨by omega, by omega⟩ | (with_reducible exact Or.inr trivial) | (with_reducible exact Or.inl trivial) | (with_reducible assumption) | (with_reducible exact Same.refl) | (with_reducible rfl) | (with_reducible refine And.intro ?_ ?_) | (with_reducible intro _)))
  refine (c_Ha_clear hz).mono ?_
  rintro r M3 _ ⟨rfl, hC3, s3⟩
  have hA3 : AtC M3 t n m 0 := hA2.eq4 (s3 _ (by omega)) (s3 _ (by omega)) (s3 _ (by omega)) (s3 _ (by omega))
  have y3 : FrY z M2 M3 := fun x _ h2 => s3 x h2
  have hw := c_Rd_word_2 (G := G) (d := d - 1) (x := 0) (by omega) hA3 (by unfold vK; omega) (by omega)
  rw [show ((ck 0 : Nat) : Int) = 9 by decide +kernel] at hw
  unfold HA at hq
  -- behind a fault
  have bad : ∀ (N : AM) (w k : Nat), FrY z M2 N → Bd0 t n N w k → (∀ M', PoY t n m z M2 M' (Rz.bad w k) → Q none M') → AW G d mi_Rd_read Q 70 [some (vr 2), some (vr 1), some (vi n), some (vr z), some (vi 0)] [] (up N z 0 1) := by
    intro N w k f hb go
    have hb' : BdY t n z M2 (up N z 0 1) w k := ⟨f.up (by omega), hb.up (by omega)⟩
    exact c_Rd_read70f (i := 0) (by omega) hb'.2 (go _ hb'.po)
  simp only [wR, wB, wE0, wE1, wE2, wE3, g0, gS, s10, s11, s1S, s20, s21, s2S, kl0, kl1, kl2, kl3, sp0, sp1, sp2, sp3, cn1, cn2, cn3, cn4, cn5, cn6, jJa, lk0, lk1, jmS, jmN, s4_0, s4_1, s4_2, s4_3, s4_4, sw0, sw1, cKs, cKn, true_and, and_true, List.map_cons, List.map_nil, Nat.reduceAdd, Nat.zero_add, Int.reduceAdd, Nat.reduceEqDiff, reduceIte, Classical.not_not, b_Rd_read, shH, hH, Int.reduceEq, not_true_eq_false, not_false_eq_true, false_imp_iff, true_imp_iff, and_self]
  (repeat' (first | omega | (with_reducible exact True.intro) | exact ⟨by omega, by omega⟩ | (with_reducible exact Or.inr trivial) | (with_reducible exact Or.inl trivial) | (with_reducible assumption) | (with_reducible exact Same.refl) | (with_reducible rfl) | (with_reducible refine And.intro ?_ ?_) | (with_reducible intro _)))
  refine hw.mono ?_
  rintro r M4 _ ⟨rfl, f4, ⟨q0, hA4⟩ | ⟨q0, hb⟩⟩
  case inr =>
    rw [if_neg q0] at hq
    simp only [wR, wB, wE0, wE1, wE2, wE3, g0, gS, s10, s11, s1S, s20, s21, s2S, kl0, kl1, kl2, kl3, sp0, sp1, sp2, sp3, cn1, cn2, cn3, cn4, cn5, cn6, jJa, lk0, lk1, jmS, jmN, s4_0, s4_1, s4_2, s4_3, s4_4, sw0, sw1, cKs, cKn, true_and, and_true, List.map_cons, List.map_nil, Nat.reduceAdd, Nat.zero_add, Int.reduceAdd, Nat.reduceEqDiff, reduceIte, Classical.not_not, b_Rd_read, shH, hH, Int.reduceEq, not_true_eq_false, not_false_eq_true, false_imp_iff, true_imp_iff, and_self]
    refine ⟨by omega, MS.to (c_Rd_word_g (by omega) hb.ne hb.2.2.1 (by omega)) fun _ => ?_⟩
    simp only [wR, wB, wE0, wE1, wE2, wE3, g0, gS, s10, s11, s1S, s20, s21, s2S, kl0, kl1, kl2, kl3, sp0, sp1, sp2, sp3, cn1, cn2, cn3, cn4, cn5, cn6, jJa, lk0, lk1, jmS, jmN, s4_0, s4_1, s4_2, s4_3, s4_4, sw0, sw1, cKs, cKn, true_and, and_true, List.map_cons, List.map_nil, Nat.reduceAdd, Nat.zero_add, Int.reduceAdd, Nat.reduceEqDiff, reduceIte, Classical.not_not, b_Rd_read, shH, hH, Int.reduceEq, not_true_eq_false, not_false_eq_true, false_imp_iff, true_imp_iff, and_self]
    refine ⟨by omega, MS.to (c_Rd_number_g (by omega) hb.ne hb.2.2.1) fun _ => ?_⟩
    simp only [wR, wB, wE0, wE1, wE2, wE3, g0, gS, s10, s11, s1S, s20, s21, s2S, kl0, kl1, kl2, kl3, sp0, sp1, sp2, sp3, cn1, cn2, cn3, cn4, cn5, cn6, jJa, lk0, lk1, jmS, jmN, s4_0, s4_1, s4_2, s4_3, s4_4, sw0, sw1, cKs, cKn, true_and, and_true, List.map_cons, List.map_nil, Nat.reduceAdd, Nat.zero_add, Int.reduceAdd, Nat.reduceEqDiff, reduceIte, Classical.not_not, b_Rd_read, shH, hH, Int.reduceEq, not_true_eq_false, not_false_eq_true, false_imp_iff, true_imp_iff, and_self]
    have hb' := hb.up (x := z) (y := 1) (v := 0) (by omega)
    refine ⟨by omega, MS.to (c_Rd_sign_g (by omega) hb'.ne hb'.2.2.1 (by omega)) fun _ => ?_⟩
    simp only [wR, wB, wE0, wE1, wE2, wE3, g0, gS, s10, s11, s1S, s20, s21, s2S, kl0, kl1, kl2, kl3, sp0, sp1, sp2, sp3, cn1, cn2, cn3, cn4, cn5, cn6, jJa, lk0, lk1, jmS, jmN, s4_0, s4_1, s4_2, s4_3, s4_4, sw0, sw1, cKs, cKn, true_and, and_true, List.map_cons, List.map_nil, Nat.reduceAdd, Nat.zero_add, Int.reduceAdd, Nat.reduceEqDiff, reduceIte, Classical.not_not, b_Rd_read, shH, hH, Int.reduceEq, not_true_eq_false, not_false_eq_true, false_imp_iff, true_imp_iff, and_self]
    exact bad _ _ _ ((y3.trans f4.y).up (by omega)) hb' hq
  rw [if_pos q0] at hq
  have h1 := nxN (Or.inl hN) (Nat.zero_le n) q0 (by omega) (by omega)
  have hw := c_Rd_word_2 (G := G) (d := d - 1) (x := 1) (by omega) hA4 (by unfold vK; omega) (by omega)
  rw [show ((ck 1 : Nat) : Int) = 10 by decide +kernel] at hw
  simp only [wR, wB, wE0, wE1, wE2, wE3, g0, gS, s10, s11, s1S, s20, s21, s2S, kl0, kl1, kl2, kl3, sp0, sp1, sp2, sp3, cn1, cn2, cn3, cn4, cn5, cn6, jJa, lk0, lk1, jmS, jmN, s4_0, s4_1, s4_2, s4_3, s4_4, sw0, sw1, cKs, cKn, true_and, and_true, List.map_cons, List.map_nil, Nat.reduceAdd, Nat.zero_add, Int.reduceAdd, Nat.reduceEqDiff, reduceIte, Classical.not_not, b_Rd_read, shH, hH, Int.reduceEq, not_true_eq_false, not_false_eq_true, false_imp_iff, true_imp_iff, and_self]
  (repeat' (first | omega | (with_reducible exact True.intro) | exact ⟨by omega, by omega⟩ | (with_reducible exact Or.inr trivial) | (with_reducible exact Or.inl trivial) | (with_reducible assumption) | (with_reducible exact Same.refl) | (with_reducible rfl) | (with_reducible refine And.intro ?_ ?_) | (with_reducible intro _)))
  refine hw.mono ?_
  rintro r M5 _ ⟨rfl, f5, ⟨q1, hA5⟩ | ⟨q1, hb⟩⟩
  case inr =>
    rw [if_neg q1] at hq
    simp only [wR, wB, wE0, wE1, wE2, wE3, g0, gS, s10, s11, s1S, s20, s21, s2S, kl0, kl1, kl2, kl3, sp0, sp1, sp2, sp3, cn1, cn2, cn3, cn4, cn5, cn6, jJa, lk0, lk1, jmS, jmN, s4_0, s4_1, s4_2, s4_3, s4_4, sw0, sw1, cKs, cKn, true_and, and_true, List.map_cons, List.map_nil, Nat.reduceAdd, Nat.zero_add, Int.reduceAdd, Nat.reduceEqDiff, reduceIte, Classical.not_not, b_Rd_read, shH, hH, Int.reduceEq, not_true_eq_false, not_false_eq_true, false_imp_iff, true_imp_iff, and_self]
    refine ⟨by omega, MS.to (c_Rd_number_g (by omega) hb.ne hb.2.2.1) fun _ => ?_⟩
    simp only [wR, wB, wE0, wE1, wE2, wE3, g0, gS, s10, s11, s1S, s20, s21, s2S, kl0, kl1, kl2, kl3, sp0, sp1, sp2, sp3, cn1, cn2, cn3, cn4, cn5, cn6, jJa, lk0, lk1, jmS, jmN, s4_0, s4_1, s4_2, s4_3, s4_4, sw0, sw1, cKs, cKn, true_and, and_true, List.map_cons, List.map_nil, Nat.reduceAdd, Nat.zero_add, Int.reduceAdd, Nat.reduceEqDiff, reduceIte, Classical.not_not, b_Rd_read, shH, hH, Int.reduceEq, not_true_eq_false, not_false_eq_true, false_imp_iff, true_imp_iff, and_self]
    have hb' := hb.up (x := z) (y := 1) (v := 0) (by omega)
    refine ⟨by omega, MS.to (c_Rd_sign_g (by omega) hb'.ne hb'.2.2.1 (by omega)) fun _ => ?_⟩
    simp only [wR, wB, wE0, wE1, wE2, wE3, g0, gS, s10, s11, s1S, s20, s21, s2S, kl0, kl1, kl2, kl3, sp0, sp1, sp2, sp3, cn1, cn2, cn3, cn4, cn5, cn6, jJa, lk0, lk1, jmS, jmN, s4_0, s4_1, s4_2, s4_3, s4_4, sw0, sw1, cKs, cKn, true_and, and_true, List.map_cons, List.map_nil, Nat.reduceAdd, Nat.zero_add, Int.reduceAdd, Nat.reduceEqDiff, reduceIte, Classical.not_not, b_Rd_read, shH, hH, Int.reduceEq, not_true_eq_false, not_false_eq_true, false_imp_iff, true_imp_iff, and_self]
    exact bad _ _ _ (((y3.trans f4.y).trans f5.y).up (by omega)) hb' hq
  rw [if_pos q1] at hq
  have h2 := nxN (Or.inl hN) h1 q1 (by omega) (by omega)
  simp only [wR, wB, wE0, wE1, wE2, wE3, g0, gS, s10, s11, s1S, s20, s21, s2S, kl0, kl1, kl2, kl3, sp0, sp1, sp2, sp3, cn1, cn2, cn3, cn4, cn5, cn6, jJa, lk0, lk1, jmS, jmN, s4_0, s4_1, s4_2, s4_3, s4_4, sw0, sw1, cKs, cKn, true_and, and_true, List.map_cons, List.map_nil, Nat.reduceAdd, Nat.zero_add, Int.reduceAdd, Nat.reduceEqDiff, reduceIte, Classical.not_not, b_Rd_read, shH, hH, Int.reduceEq, not_true_eq_false, not_false_eq_true, false_imp_iff, true_imp_iff, and_self]
  refine ⟨by omega, (c_Rd_number_z (most := 5) (g := fun x => if kin t n (pls t n (3)) = 30 then LNS t n F F 4 ((hl0.sMust x).sLine) mo0 else Rz.bad 2 3) (by omega) (by omega) hA5).mono ?_⟩
  rintro r M6 _ ⟨f6, ⟨y, rfl, hy, hz', hA6, q2⟩ | ⟨w, rfl, hz', hb⟩⟩
  case inr =>
    rw [hz'] at hq
    simp only [wR, wB, wE0, wE1, wE2, wE3, g0, gS, s10, s11, s1S, s20, s21, s2S, kl0, kl1, kl2, kl3, sp0, sp1, sp2, sp3, cn1, cn2, cn3, cn4, cn5, cn6, jJa, lk0, lk1, jmS, jmN, s4_0, s4_1, s4_2, s4_3, s4_4, sw0, sw1, cKs, cKn, true_and, and_true, List.map_cons, List.map_nil, Nat.reduceAdd, Nat.zero_add, Int.reduceAdd, Nat.reduceEqDiff, reduceIte, Classical.not_not, b_Rd_read, shH, hH, Int.reduceEq, not_true_eq_false, not_false_eq_true, false_imp_iff, true_imp_iff, and_self]
    have hb' := hb.up (x := z) (y := 1) (v := 0) (by omega)
    refine ⟨by omega, MS.to (c_Rd_sign_g (by omega) hb'.ne hb'.2.2.1 (by omega)) fun _ => ?_⟩
    simp only [wR, wB, wE0, wE1, wE2, wE3, g0, gS, s10, s11, s1S, s20, s21, s2S, kl0, kl1, kl2, kl3, sp0, sp1, sp2, sp3, cn1, cn2, cn3, cn4, cn5, cn6, jJa, lk0, lk1, jmS, jmN, s4_0, s4_1, s4_2, s4_3, s4_4, sw0, sw1, cKs, cKn, true_and, and_true, List.map_cons, List.map_nil, Nat.reduceAdd, Nat.zero_add, Int.reduceAdd, Nat.reduceEqDiff, reduceIte, Classical.not_not, b_Rd_read, shH, hH, Int.reduceEq, not_true_eq_false, not_false_eq_true, false_imp_iff, true_imp_iff, and_self]
    exact bad _ _ _ ((((y3.trans f4.y).trans f5.y).trans f6.y).up (by omega)) hb' hq
  rw [hz'] at hq
  have h3 := nxN (Or.inl hN) h2 q2 (by omega) (by omega)
  have hC7 : CF (up M6 z 1 (y : Int)) z (hl0.sMust y) mo0 := (((hC3.f2 hz f4).f2 hz f5).f2 hz f6).must
  have y7 : FrY z M2 (up M6 z 1 (y : Int)) := (((y3.trans f4.y).trans f5.y).trans f6.y).up (by omega)
  have hA7 : AtC (up M6 z 1 (y : Int)) t n m 3 := hA6.c7 (by omega)
  simp only [wR, wB, wE0, wE1, wE2, wE3, g0, gS, s10, s11, s1S, s20, s21, s2S, kl0, kl1, kl2, kl3, sp0, sp1, sp2, sp3, cn1, cn2, cn3, cn4, cn5, cn6, jJa, lk0, lk1, jmS, jmN, s4_0, s4_1, s4_2, s4_3, s4_4, sw0, sw1, cKs, cKn, true_and, and_true, List.map_cons, List.map_nil, Nat.reduceAdd, Nat.zero_add, Int.reduceAdd, Nat.reduceEqDiff, reduceIte, Classical.not_not, b_Rd_read, shH, hH, Int.reduceEq, not_true_eq_false, not_false_eq_true, false_imp_iff, true_imp_iff, and_self]
  (repeat' (first | omega | (with_reducible exact True.intro) | exact ⟨by omega, by omega⟩ | (with_reducible exact Or.inr trivial) | (with_reducible exact Or.inl trivial) | (with_reducible assumption) | (with_reducible exact Same.refl) | (with_reducible rfl) | (with_reducible refine And.intro ?_ ?_) | (with_reducible intro _)))
  refine (c_Rd_sign_2 (x := 30) (c := 59) (by omega) hA7 (by unfold vK; omega) (by omega) (by decide +kernel) (by omega)).mono ?_
  rintro r M8 _ ⟨rfl, f8, ⟨q3, hA8⟩ | ⟨q3, hb⟩⟩
  · have h4 := nxN (Or.inl hN) h3 q3 (by omega) (by omega)
    have go' : ∀ K, PoY t n m z M2 K (LNS t n F F 4 ((hl0.sMust y).sLine) mo0) → Q none K := by
      intro K hK
      refine hq K ?_
      show PoY t n m z M2 K (if kin t n (pls t n (3)) = 30 then _ else _)
      rw [if_pos q3]
      exact hK
    simp only [wR, wB, wE0, wE1, wE2, wE3, g0, gS, s10, s11, s1S, s20, s21, s2S, kl0, kl1, kl2, kl3, sp0, sp1, sp2, sp3, cn1, cn2, cn3, cn4, cn5, cn6, jJa, lk0, lk1, jmS, jmN, s4_0, s4_1, s4_2, s4_3, s4_4, sw0, sw1, cKs, cKn, true_and, and_true, List.map_cons, List.map_nil, Nat.reduceAdd, Nat.zero_add, Int.reduceAdd, Nat.reduceEqDiff, reduceIte, Classical.not_not, b_Rd_read, shH, hH, Int.reduceEq, not_true_eq_false, not_false_eq_true, false_imp_iff, true_imp_iff, and_self]
    exact c_Rd_lines (by omega) n9 hF hz F 4 0 _ mo0 _ ⟨(y7.trans f8.y).up (by omega), hA8.c7 (by omega), (hC7.f2 hz f8).line⟩ (HK0 hy) (by show 0 + 1 ≤ 4; omega) h4 (by omega) (LNS_fu (Or.inl hN) hF F 4 _ _ h4 (by omega)) go'
  · have go' : ∀ K, PoY t n m z M2 K (Rz.bad 2 3) → Q none K := by
      intro K hK
      refine hq K ?_
      show PoY t n m z M2 K (if kin t n (pls t n (3)) = 30 then _ else _)
      rw [if_neg q3]
      exact hK
    simp only [wR, wB, wE0, wE1, wE2, wE3, g0, gS, s10, s11, s1S, s20, s21, s2S, kl0, kl1, kl2, kl3, sp0, sp1, sp2, sp3, cn1, cn2, cn3, cn4, cn5, cn6, jJa, lk0, lk1, jmS, jmN, s4_0, s4_1, s4_2, s4_3, s4_4, sw0, sw1, cKs, cKn, true_and, and_true, List.map_cons, List.map_nil, Nat.reduceAdd, Nat.zero_add, Int.reduceAdd, Nat.reduceEqDiff, reduceIte, Classical.not_not, b_Rd_read, shH, hH, Int.reduceEq, not_true_eq_false, not_false_eq_true, false_imp_iff, true_imp_iff, and_self]
    exact bad _ _ _ (y7.trans f8.y) hb go'
end TF
