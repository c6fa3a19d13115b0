section TB
variable {G : AG} {d : Nat} {M N K : AM} {t : Nat → Nat} {n m k w F : Nat} {h : Hl} {mo : Mo} {z : Int}
/-- what the class's reading of a line may change -/
def FrX (z : Int) (M N : AM) : Prop := (∀ x : Int, x ≠ 2 → ¬ (z ≤ x ∧ x ≤ z + 8) → N x = M x) ∧ N z 0 = M z 0
theorem FrX.refl : FrX z M M := ⟨fun _ _ _ => rfl, rfl⟩
theorem FrX.trans (a : FrX z M N) (b : FrX z N K) : FrX z M K := ⟨fun x h1 h2 => (b.1 x h1 h2).trans (a.1 x h1 h2), b.2.trans a.2⟩
theorem F2.x (hz : z = 7 ∨ z = 16) (a : F2 M N) : FrX z M N := ⟨fun x h1 _ => a.pl h1, by rw [a.pl (by omega)]⟩
theorem FrX.up {x y v : Int} (a : FrX z M N) (hx : z ≤ x ∧ x ≤ z + 8) (hy : ¬ (z = x ∧ y = 0)) : FrX z M (up N x y v) := by
  refine ⟨fun x' h1 h2 => ?_, ?_⟩
  · have : x' ≠ x := fun e => h2 (by omega)
    rw [up_z this]
    exact a.1 x' h1 h2
  · rw [up_rd, if_neg (by omega)]
    exact a.2
def GdX (t : Nat → Nat) (n m : Nat) (z : Int) (M N : AM) (k : Nat) (h : Hl) (mo : Mo) : Prop := FrX z M N ∧ AtC N t n m k ∧ CF N z h mo
def BdX (t : Nat → Nat) (n : Nat) (z : Int) (M N : AM) (w k : Nat) : Prop := FrX z M N ∧ Bd0 t n N w k
def PoX (t : Nat → Nat) (n m : Nat) (z : Int) (M N : AM) (r : Rz) : Prop :=
  match r with
  | Sum.inl x => BdX t n z M N x.1 x.2
  | Sum.inr x => GdX t n m z M N x.1 x.2.1 x.2.2
theorem PoX.bad (H : PoX t n m z M N (Rz.bad w k)) : BdX t n z M N w k := H
theorem PoX.good (H : PoX t n m z M N (Rz.good k h mo)) : GdX t n m z M N k h mo := H
theorem BdX.po (H : BdX t n z M N w k) : PoX t n m z M N (Rz.bad w k) := H
theorem GdX.po (H : GdX t n m z M N k h mo) : PoX t n m z M N (Rz.good k h mo) := H
theorem BdX.of (g : FrX z M N) (H : BdX t n z N K w k) : BdX t n z M K w k := ⟨g.trans H.1, H.2⟩
theorem GdX.of (g : FrX z M N) (H : GdX t n m z N K k h mo) : GdX t n m z M K k h mo := ⟨g.trans H.1, H.2⟩
theorem BdX.up {x y v : Int} (hz : z = 7 ∨ z = 16) (H : BdX t n z M N w k) (hx : z ≤ x ∧ x ≤ z + 8) (hy : ¬ (z = x ∧ y = 0)) : BdX t n z M (up N x y v) w k := ⟨H.1.up hx hy, H.2.up (by omega)⟩
theorem isO_z (hz : z = 7 ∨ z = 16) : isO z 2 := by
  rcases hz with rfl | rfl
  · exact isO_of (k := 7) rfl rfl
  · exact isO_of (k := 16) rfl rfl
theorem c_Rd_flag {p : Nat} (hd : 2 ≤ d) (hz : z = 7 ∨ z = 16) (hA : AtC M t n m k) (q : kin t n (pls t n (k)) = 4 ∨ kin t n (pls t n (k)) = 5 ∨ kin t n (pls t n (k)) = 6) (hF : CF M z h mo) (hP : h.P ≤ 5) (hp : p < h.P) : MS G d mi_Rd_flag [vr 2, vr z, vi p] M (fun r M' => r = none ∧ PoX t n m z M M' (FL1 t n p k h mo)) := by
  have hH := isO_z hz
  have hs := sh_Ha hH
  have i1 : isArr (z + 1) := ⟨_, hs.1.1⟩
  have i2 : isArr (z + 2) := ⟨_, hs.2.1.1⟩
  have h8 := hA.2.2.2.1
  have e4 := ckq (kk := kin t n (pls t n (k))) (x := 4) (v := 2) kin_v (by unfold vK; omega) (by decide +kernel)
  have e5 := ckq (kk := kin t n (pls t n (k))) (x := 5) (v := 3) kin_v (by unfold vK; omega) (by decide +kernel)
  have e6 := ckq (kk := kin t n (pls t n (k))) (x := 6) (v := 4) kin_v (by unfold vK; omega) (by decide +kernel)
  have hnx := c_Rd_next_2 (G := G) (d := d - 1) hA (by omega)
  refine MS.by ck_Rd_flag [some (vr 2), some (vr z), some (vi p), none] fun _ _ => ?_
  unfold FL1
  by_cases q4 : kin t n (pls t n (k)) = 4
  · rw [if_pos q4]
    rw [e4.mpr q4] at h8
    refine AW.run ck_Rd_flag [] 12 0 ?_
    simp only [wR, wB, wE0, wE1, wE2, wE3, g0, gS, s10, s11, s1S, s20, s21, s2S, kl0, kl1, kl2, kl3, sp0, sp1, sp2, sp3, cn1, cn2, cn3, cn4, cn5, cn6, jJa, lk0, lk1, jmS, jmN, s4_0, s4_1, s4_2, s4_3, s4_4, sw0, sw1, cKs, cKn, true_and, and_true, List.map_cons, List.map_nil, Nat.reduceAdd, Nat.zero_add, Int.reduceAdd, Nat.reduceEqDiff, reduceIte, Classical.not_not, b_Rd_flag, shH, hH, hs, i1, h8, Int.reduceEq, not_true_eq_false, not_false_eq_true, false_imp_iff, true_imp_iff, and_self]
    (repeat' (first | omega | (with_reducible exact True.intro) | exact ⟨by omega, by omega⟩ | (with_reducible exact Or.inr trivial) | (with_reducible exact Or.inl trivial) | (with_reducible assumption) | (with_reducible exact Same.refl) | (with_reducible rfl) | (with_reducible refine And.intro ?_ ?_) | (with_reducible intro _)))
    refine hnx.mono ?_
    rintro r M1 _ ⟨rfl, hA1, f1⟩
    simp only [wR, wB, wE0, wE1, wE2, wE3, g0, gS, s10, s11, s1S, s20, s21, s2S, kl0, kl1, kl2, kl3, sp0, sp1, sp2, sp3, cn1, cn2, cn3, cn4, cn5, cn6, jJa, lk0, lk1, jmS, jmN, s4_0, s4_1, s4_2, s4_3, s4_4, sw0, sw1, cKs, cKn, true_and, and_true, List.map_cons, List.map_nil, Nat.reduceAdd, Nat.zero_add, Int.reduceAdd, Nat.reduceEqDiff, reduceIte, Classical.not_not, b_Rd_flag, shH, hH, hs, i1, Int.reduceEq, not_true_eq_false, not_false_eq_true, false_imp_iff, true_imp_iff, and_self]
    (repeat' (first | omega | (with_reducible exact True.intro) | exact ⟨by omega, by omega⟩ | (with_reducible exact Or.inr trivial) | (with_reducible exact Or.inl trivial) | (with_reducible assumption) | (with_reducible exact Same.refl) | (with_reducible rfl) | (with_reducible refine And.intro ?_ ?_) | (with_reducible intro _)))
    refine (c_Rd_number_z (most := 4) (g := fun x => Rz.good (k + 2) h (mo.sSt p x)) (by omega) (by omega) hA1).mono ?_
    rintro r M2 _ ⟨f2, ⟨y, rfl, hy, hz', hA2, _⟩ | ⟨w, rfl, hz', hb⟩⟩
    · simp only [wR, wB, wE0, wE1, wE2, wE3, g0, gS, s10, s11, s1S, s20, s21, s2S, kl0, kl1, kl2, kl3, sp0, sp1, sp2, sp3, cn1, cn2, cn3, cn4, cn5, cn6, jJa, lk0, lk1, jmS, jmN, s4_0, s4_1, s4_2, s4_3, s4_4, sw0, sw1, cKs, cKn, true_and, and_true, List.map_cons, List.map_nil, Nat.reduceAdd, Nat.zero_add, Int.reduceAdd, Nat.reduceEqDiff, reduceIte, Classical.not_not, b_Rd_flag, shH, hH, hs, i1, Int.reduceEq, not_true_eq_false, not_false_eq_true, false_imp_iff, true_imp_iff, and_self]
      rw [hz']
      (repeat' (first | omega | (with_reducible exact True.intro) | exact ⟨by omega, by omega⟩ | (with_reducible exact Or.inr trivial) | (with_reducible exact Or.inl trivial) | (with_reducible assumption) | (with_reducible exact Same.refl) | (with_reducible rfl) | (with_reducible refine And.intro ?_ ?_) | (with_reducible intro _)))
      exact ⟨(((f1.trans f2).x hz).up (by omega) (by omega)), hA2.c7 (by omega), (hF.f2 hz (f1.trans f2)).strn⟩
    · simp only [wR, wB, wE0, wE1, wE2, wE3, g0, gS, s10, s11, s1S, s20, s21, s2S, kl0, kl1, kl2, kl3, sp0, sp1, sp2, sp3, cn1, cn2, cn3, cn4, cn5, cn6, jJa, lk0, lk1, jmS, jmN, s4_0, s4_1, s4_2, s4_3, s4_4, sw0, sw1, cKs, cKn, true_and, and_true, List.map_cons, List.map_nil, Nat.reduceAdd, Nat.zero_add, Int.reduceAdd, Nat.reduceEqDiff, reduceIte, Classical.not_not, b_Rd_flag, shH, hH, hs, i1, Int.reduceEq, not_true_eq_false, not_false_eq_true, false_imp_iff, true_imp_iff, and_self]
      rw [hz']
      (repeat' (first | omega | (with_reducible exact True.intro) | exact ⟨by omega, by omega⟩ | (with_reducible exact Or.inr trivial) | (with_reducible exact Or.inl trivial) | (with_reducible assumption) | (with_reducible exact Same.refl) | (with_reducible rfl) | (with_reducible refine And.intro ?_ ?_) | (with_reducible intro _)))
      exact BdX.up hz ⟨(f1.trans f2).x hz, hb⟩ (by omega) (by omega)
  rw [if_neg q4]
  by_cases q5 : kin t n (pls t n (k)) = 5
  · rw [if_pos q5]
    rw [e5.mpr q5] at h8
    refine AW.run ck_Rd_flag [] 12 0 ?_
    simp only [wR, wB, wE0, wE1, wE2, wE3, g0, gS, s10, s11, s1S, s20, s21, s2S, kl0, kl1, kl2, kl3, sp0, sp1, sp2, sp3, cn1, cn2, cn3, cn4, cn5, cn6, jJa, lk0, lk1, jmS, jmN, s4_0, s4_1, s4_2, s4_3, s4_4, sw0, sw1, cKs, cKn, true_and, and_true, List.map_cons, List.map_nil, Nat.reduceAdd, Nat.zero_add, Int.reduceAdd, Nat.reduceEqDiff, reduceIte, Classical.not_not, b_Rd_flag, shH, hH, hs, i2, h8, Int.reduceEq, not_true_eq_false, not_false_eq_true, false_imp_iff, true_imp_iff, and_self]
    (repeat' (first | omega | (with_reducible exact True.intro) | exact ⟨by omega, by omega⟩ | (with_reducible exact Or.inr trivial) | (with_reducible exact Or.inl trivial) | (with_reducible assumption) | (with_reducible exact Same.refl) | (with_reducible rfl) | (with_reducible refine And.intro ?_ ?_) | (with_reducible intro _)))
    refine hnx.mono ?_
    rintro r M1 _ ⟨rfl, hA1, f1⟩
    simp only [wR, wB, wE0, wE1, wE2, wE3, g0, gS, s10, s11, s1S, s20, s21, s2S, kl0, kl1, kl2, kl3, sp0, sp1, sp2, sp3, cn1, cn2, cn3, cn4, cn5, cn6, jJa, lk0, lk1, jmS, jmN, s4_0, s4_1, s4_2, s4_3, s4_4, sw0, sw1, cKs, cKn, true_and, and_true, List.map_cons, List.map_nil, Nat.reduceAdd, Nat.zero_add, Int.reduceAdd, Nat.reduceEqDiff, reduceIte, Classical.not_not, b_Rd_flag, shH, hH, hs, i2, Int.reduceEq, not_true_eq_false, not_false_eq_true, false_imp_iff, true_imp_iff, and_self]
    (repeat' (first | omega | (with_reducible exact True.intro) | exact ⟨by omega, by omega⟩ | (with_reducible exact Or.inr trivial) | (with_reducible exact Or.inl trivial) | (with_reducible assumption) | (with_reducible exact Same.refl) | (with_reducible rfl) | (with_reducible refine And.intro ?_ ?_) | (with_reducible intro _)))
    refine (c_Rd_number_z (most := 9) (g := fun x => Rz.good (k + 2) (h.sWt p x) mo) (by omega) (by omega) hA1).mono ?_
    rintro r M2 _ ⟨f2, ⟨y, rfl, hy, hz', hA2, _⟩ | ⟨w, rfl, hz', hb⟩⟩
    · simp only [wR, wB, wE0, wE1, wE2, wE3, g0, gS, s10, s11, s1S, s20, s21, s2S, kl0, kl1, kl2, kl3, sp0, sp1, sp2, sp3, cn1, cn2, cn3, cn4, cn5, cn6, jJa, lk0, lk1, jmS, jmN, s4_0, s4_1, s4_2, s4_3, s4_4, sw0, sw1, cKs, cKn, true_and, and_true, List.map_cons, List.map_nil, Nat.reduceAdd, Nat.zero_add, Int.reduceAdd, Nat.reduceEqDiff, reduceIte, Classical.not_not, b_Rd_flag, shH, hH, hs, i2, Int.reduceEq, not_true_eq_false, not_false_eq_true, false_imp_iff, true_imp_iff, and_self]
      rw [hz']
      (repeat' (first | omega | (with_reducible exact True.intro) | exact ⟨by omega, by omega⟩ | (with_reducible exact Or.inr trivial) | (with_reducible exact Or.inl trivial) | (with_reducible assumption) | (with_reducible exact Same.refl) | (with_reducible rfl) | (with_reducible refine And.intro ?_ ?_) | (with_reducible intro _)))
      exact ⟨(((f1.trans f2).x hz).up (by omega) (by omega)), hA2.c7 (by omega), (hF.f2 hz (f1.trans f2)).wt⟩
    · simp only [wR, wB, wE0, wE1, wE2, wE3, g0, gS, s10, s11, s1S, s20, s21, s2S, kl0, kl1, kl2, kl3, sp0, sp1, sp2, sp3, cn1, cn2, cn3, cn4, cn5, cn6, jJa, lk0, lk1, jmS, jmN, s4_0, s4_1, s4_2, s4_3, s4_4, sw0, sw1, cKs, cKn, true_and, and_true, List.map_cons, List.map_nil, Nat.reduceAdd, Nat.zero_add, Int.reduceAdd, Nat.reduceEqDiff, reduceIte, Classical.not_not, b_Rd_flag, shH, hH, hs, i2, Int.reduceEq, not_true_eq_false, not_false_eq_true, false_imp_iff, true_imp_iff, and_self]
      rw [hz']
      (repeat' (first | omega | (with_reducible exact True.intro) | exact ⟨by omega, by omega⟩ | (with_reducible exact Or.inr trivial) | (with_reducible exact Or.inl trivial) | (with_reducible assumption) | (with_reducible exact Same.refl) | (with_reducible rfl) | (with_reducible refine And.intro ?_ ?_) | (with_reducible intro _)))
      exact BdX.up hz ⟨(f1.trans f2).x hz, hb⟩ (by omega) (by omega)
  · rw [if_neg q5]
    rw [e6.mpr (by omega)] at h8
    refine AW.run ck_Rd_flag [] 12 0 ?_
    simp only [wR, wB, wE0, wE1, wE2, wE3, g0, gS, s10, s11, s1S, s20, s21, s2S, kl0, kl1, kl2, kl3, sp0, sp1, sp2, sp3, cn1, cn2, cn3, cn4, cn5, cn6, jJa, lk0, lk1, jmS, jmN, s4_0, s4_1, s4_2, s4_3, s4_4, sw0, sw1, cKs, cKn, true_and, and_true, List.map_cons, List.map_nil, Nat.reduceAdd, Nat.zero_add, Int.reduceAdd, Nat.reduceEqDiff, reduceIte, Classical.not_not, b_Rd_flag, shH, hH, hs, h8, Int.reduceEq, not_true_eq_false, not_false_eq_true, false_imp_iff, true_imp_iff, and_self]
    (repeat' (first | omega | (with_reducible exact True.intro) | exact ⟨by omega, by omega⟩ | (with_reducible exact Or.inr trivial) | (with_reducible exact Or.inl trivial) | (with_reducible assumption) | (with_reducible exact Same.refl) | (with_reducible rfl) | (with_reducible refine And.intro ?_ ?_) | (with_reducible intro _)))
    refine hnx.mono ?_
    rintro r M1 _ ⟨rfl, hA1, f1⟩
    simp only [wR, wB, wE0, wE1, wE2, wE3, g0, gS, s10, s11, s1S, s20, s21, s2S, kl0, kl1, kl2, kl3, sp0, sp1, sp2, sp3, cn1, cn2, cn3, cn4, cn5, cn6, jJa, lk0, lk1, jmS, jmN, s4_0, s4_1, s4_2, s4_3, s4_4, sw0, sw1, cKs, cKn, true_and, and_true, List.map_cons, List.map_nil, Nat.reduceAdd, Nat.zero_add, Int.reduceAdd, Nat.reduceEqDiff, reduceIte, Classical.not_not, b_Rd_flag, shH, hH, hs, Int.reduceEq, not_true_eq_false, not_false_eq_true, false_imp_iff, true_imp_iff, and_self]
    (repeat' (first | omega | (with_reducible exact True.intro) | exact ⟨by omega, by omega⟩ | (with_reducible exact Or.inr trivial) | (with_reducible exact Or.inl trivial) | (with_reducible assumption) | (with_reducible exact Same.refl) | (with_reducible rfl) | (with_reducible refine And.intro ?_ ?_) | (with_reducible intro _)))
    exact ⟨(f1.x hz).up (by omega) (by omega), hA1.c7 (by omega), (hF.f2 hz f1).rod hP hp⟩
theorem FL1_go {p k' : Nat} {h' : Hl} {m' : Mo} (e : FL1 t n p k h mo = Rz.good k' h' m') : k + 1 ≤ k' := by
  unfold FL1 at e
  split at e
  · obtain ⟨_, x, _, _, e⟩ := nu_good e
    obtain ⟨rfl, _, _⟩ := zgood_inj e
    omega
  · split at e
    · obtain ⟨_, x, _, _, e⟩ := nu_good e
      obtain ⟨rfl, _, _⟩ := zgood_inj e
      omega
    · obtain ⟨rfl, _, _⟩ := zgood_inj e
      omega
theorem c_Rd_flags {p : Nat} {Q : Option AV → AM → Prop} (hd : 3 ≤ d) (hz : z = 7 ∨ z = 16) : ∀ (f k i : Nat) (h : Hl) (mo : Mo) (N : AM), GdX t n m z M N k h mo → h.P ≤ 5 → p < h.P → i ≤ k → okZ (FL t n f p k h mo) → (∀ K, PoX t n m z M K (FL t n f p k h mo) → Q none K) → AW G d mi_Rd_personLine Q 64 [some (vr 2), some (vr z), some (vi p), some (vi i)] [] N
  | 0, k, i, h, mo, N, hN, hP, hp, hi, ok, go => absurd rfl (ok k)
  | f + 1, k, i, h, mo, N, hN, hP, hp, hi, ok, go => by
    have hH := isO_z hz
    have hA := hN.2.1
    have h8 := hA.2.2.2.1
    have hk9 := hA.m9
    have e4 := ckq (kk := kin t n (pls t n (k))) (x := 4) (v := 2) kin_v (by unfold vK; omega) (by decide +kernel)
    have e5 := ckq (kk := kin t n (pls t n (k))) (x := 5) (v := 3) kin_v (by unfold vK; omega) (by decide +kernel)
    have e6 := ckq (kk := kin t n (pls t n (k))) (x := 6) (v := 4) kin_v (by unfold vK; omega) (by decide +kernel)
    by_cases q : kin t n (pls t n (k)) = 4 ∨ kin t n (pls t n (k)) = 5 ∨ kin t n (pls t n (k)) = 6
    · have hr : 2 ≤ ((ck (kin t n (pls t n (k))) : Nat) : Int) ∧ ((ck (kin t n (pls t n (k))) : Nat) : Int) ≤ 4 := by
        rcases q with q | q | q
        · rw [e4.mpr q]; omega
        · rw [e5.mpr q]; omega
        · rw [e6.mpr q]; omega
      have hfl := c_Rd_flag (G := G) (d := d - 1) (by omega) hz hA q hN.2.2 hP hp
      rw [FL_1 q] at ok go
      generalize ((ck (kin t n (pls t n (k))) : Nat) : Int) = kk at h8 hr
      refine AW.run ck_Rd_personLine [64] 12 64 ?_
      simp only [wR, wB, wE0, wE1, wE2, wE3, g0, gS, s10, s11, s1S, s20, s21, s2S, kl0, kl1, kl2, kl3, sp0, sp1, sp2, sp3, cn1, cn2, cn3, cn4, cn5, cn6, jJa, lk0, lk1, jmS, jmN, s4_0, s4_1, s4_2, s4_3, s4_4, sw0, sw1, cKs, cKn, true_and, and_true, List.map_cons, List.map_nil, Nat.reduceAdd, Nat.zero_add, Int.reduceAdd, Nat.reduceEqDiff, reduceIte, Classical.not_not, b_Rd_personLine, shH, hH, h8]
      (repeat' (first | omega | (with_reducible exact True.intro) | exact ⟨by omega, by omega⟩ | (with_reducible exact Or.inr trivial) | (with_reducible exact Or.inl trivial) | (with_reducible assumption) | (with_reducible exact Same.refl) | (with_reducible rfl) | (with_reducible refine And.intro ?_ ?_) | (with_reducible intro _)))
      refine hfl.mono ?_
      rintro r M1 _ ⟨rfl, hp1⟩
      rcases rz_cases (FL1 t n p k h mo) with ⟨w, k1, e1⟩ | ⟨k1, h1, m1, e1⟩
      · rw [e1] at hp1 go
        have hb := BdX.of hN.1 hp1.bad
        have hg := go _ hb.po
        have h23 := hb.2.2.2.1
        simp only [wR, wB, wE0, wE1, wE2, wE3, g0, gS, s10, s11, s1S, s20, s21, s2S, kl0, kl1, kl2, kl3, sp0, sp1, sp2, sp3, cn1, cn2, cn3, cn4, cn5, cn6, jJa, lk0, lk1, jmS, jmN, s4_0, s4_1, s4_2, s4_3, s4_4, sw0, sw1, cKs, cKn, true_and, and_true, List.map_cons, List.map_nil, Nat.reduceAdd, Nat.zero_add, Int.reduceAdd, Nat.reduceEqDiff, reduceIte, Classical.not_not, b_Rd_personLine, shH, ce]
        (repeat' (first | omega | (with_reducible exact True.intro) | exact ⟨by omega, by omega⟩ | (with_reducible exact Or.inr trivial) | (with_reducible exact Or.inl trivial) | (with_reducible assumption) | (with_reducible exact Same.refl) | (with_reducible rfl) | (with_reducible refine And.intro ?_ ?_) | (with_reducible intro _)))
        refine AW.run ck_Rd_personLine [] 12 64 ?_
        simp only [wR, wB, wE0, wE1, wE2, wE3, g0, gS, s10, s11, s1S, s20, s21, s2S, kl0, kl1, kl2, kl3, sp0, sp1, sp2, sp3, cn1, cn2, cn3, cn4, cn5, cn6, jJa, lk0, lk1, jmS, jmN, s4_0, s4_1, s4_2, s4_3, s4_4, sw0, sw1, cKs, cKn, true_and, and_true, List.map_cons, List.map_nil, Nat.reduceAdd, Nat.zero_add, Int.reduceAdd, Nat.reduceEqDiff, reduceIte, Classical.not_not, b_Rd_personLine, shH, h23, Int.reduceEq, not_true_eq_false, not_false_eq_true, false_imp_iff, true_imp_iff, and_self]
        (repeat' (first | omega | (with_reducible exact True.intro) | exact ⟨by omega, by omega⟩ | (with_reducible exact Or.inr trivial) | (with_reducible exact Or.inl trivial) | (with_reducible assumption) | (with_reducible exact Same.refl) | (with_reducible rfl) | (with_reducible refine And.intro ?_ ?_) | (with_reducible intro _)))
      · have hP1 := FL1_P e1
        have hk1 := FL1_go e1
        rw [e1] at hp1 go ok
        have hg := GdX.of hN.1 hp1.good
        simp only [wR, wB, wE0, wE1, wE2, wE3, g0, gS, s10, s11, s1S, s20, s21, s2S, kl0, kl1, kl2, kl3, sp0, sp1, sp2, sp3, cn1, cn2, cn3, cn4, cn5, cn6, jJa, lk0, lk1, jmS, jmN, s4_0, s4_1, s4_2, s4_3, s4_4, sw0, sw1, cKs, cKn, true_and, and_true, List.map_cons, List.map_nil, Nat.reduceAdd, Nat.zero_add, Int.reduceAdd, Nat.reduceEqDiff, reduceIte, Classical.not_not, b_Rd_personLine, shH, ce]
        (repeat' (first | omega | (with_reducible exact True.intro) | exact ⟨by omega, by omega⟩ | (with_reducible exact Or.inr trivial) | (with_reducible exact Or.inl trivial) | (with_reducible assumption) | (with_reducible exact Same.refl) | (with_reducible rfl) | (with_reducible refine And.intro ?_ ?_) | (with_reducible intro _)))
        exact c_Rd_flags hd hz f k1 (i + 1) h1 m1 M1 hg (by omega) (by omega) (by omega) ok go
    · rw [FL_0 q] at go
      have hg := go _ hN.po
      have hr : ¬ (2 ≤ ((ck (kin t n (pls t n (k))) : Nat) : Int) ∧ ((ck (kin t n (pls t n (k))) : Nat) : Int) ≤ 4) := by
        intro hr
        rcases (show ((ck (kin t n (pls t n (k))) : Nat) : Int) = 2 ∨ ((ck (kin t n (pls t n (k))) : Nat) : Int) = 3 ∨ ((ck (kin t n (pls t n (k))) : Nat) : Int) = 4 by omega) with e | e | e
        · exact q (Or.inl (e4.mp e))
        · exact q (Or.inr (Or.inl (e5.mp e)))
        · exact q (Or.inr (Or.inr (e6.mp e)))
      generalize ((ck (kin t n (pls t n (k))) : Nat) : Int) = kk at h8 hr
      refine AW.run ck_Rd_personLine [] 12 64 ?_
      simp only [wR, wB, wE0, wE1, wE2, wE3, g0, gS, s10, s11, s1S, s20, s21, s2S, kl0, kl1, kl2, kl3, sp0, sp1, sp2, sp3, cn1, cn2, cn3, cn4, cn5, cn6, jJa, lk0, lk1, jmS, jmN, s4_0, s4_1, s4_2, s4_3, s4_4, sw0, sw1, cKs, cKn, true_and, and_true, List.map_cons, List.map_nil, Nat.reduceAdd, Nat.zero_add, Int.reduceAdd, Nat.reduceEqDiff, reduceIte, Classical.not_not, b_Rd_personLine, shH, h8]
      (repeat' (first | omega | (with_reducible exact True.intro) | exact ⟨by omega, by omega⟩ | (with_reducible exact Or.inr trivial) | (with_reducible exact Or.inl trivial) | (with_reducible assumption) | (with_reducible exact Same.refl) | (with_reducible rfl) | (with_reducible refine And.intro ?_ ?_) | (with_reducible intro _)))
end TB
