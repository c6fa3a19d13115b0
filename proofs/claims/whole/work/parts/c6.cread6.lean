section TE
variable {G : AG} {d : Nat} {M N K : AM} {t : Nat → Nat} {n m k w F : Nat} {h : Hl} {mo : Mo} {z : Int}
def FrY (z : Int) (M N : AM) : Prop := ∀ x : Int, x ≠ 2 → ¬ (z ≤ x ∧ x ≤ z + 8) → N x = M x
theorem FrY.trans (a : FrY z M N) (b : FrY z N K) : FrY z M K := fun x h1 h2 => (b x h1 h2).trans (a x h1 h2)
theorem F2.y (a : F2 M N) : FrY z M N := fun _ h1 _ => a.pl h1
theorem FrY.up {x y v : Int} (a : FrY z M N) (hx : z ≤ x ∧ x ≤ z + 8) : FrY z M (up N x y v) := by
  intro x' h1 h2
  have : x' ≠ x := fun e => h2 (by omega)
  rw [up_z this]
  exact a x' h1 h2
def GdY (t : Nat → Nat) (n m : Nat) (z : Int) (M N : AM) (k : Nat) (h : Hl) (mo : Mo) : Prop := FrY z M N ∧ AtC N t n m k ∧ CF N z h mo
def BdY (t : Nat → Nat) (n : Nat) (z : Int) (M N : AM) (w k : Nat) : Prop := FrY z M N ∧ Bd0 t n N w k
def PoY (t : Nat → Nat) (n m : Nat) (z : Int) (M N : AM) (r : Rz) : Prop :=
  match r with
  | Sum.inl x => BdY t n z M N x.1 x.2
  | Sum.inr x => GdY t n m z M N x.1 x.2.1 x.2.2
theorem PoY.bad (H : PoY t n m z M N (Rz.bad w k)) : BdY t n z M N w k := H
theorem PoY.good (H : PoY t n m z M N (Rz.good k h mo)) : GdY t n m z M N k h mo := H
theorem BdY.po (H : BdY t n z M N w k) : PoY t n m z M N (Rz.bad w k) := H
theorem GdY.po (H : GdY t n m z M N k h mo) : PoY t n m z M N (Rz.good k h mo) := H
theorem c_Ha_clear (hz : z = 7 ∨ z = 16) : MS G d mi_Ha_clear [vr z] M (fun r M' => r = none ∧ CF M' z hl0 mo0 ∧ ∀ x : Int, ¬ (z ≤ x ∧ x ≤ z + 8) → M' x = M x) := by
  have hH := isO_z hz
  have hs := sh_Ha hH
  refine MS.run ck_Ha_clear [some (vr z)] [] 12 fun _ _ => ?_
  simp only [wR, wB, wE0, wE1, wE2, wE3, g0, gS, s10, s11, s1S, s20, s21, s2S, kl0, kl1, kl2, kl3, sp0, sp1, sp2, sp3, cn1, cn2, cn3, cn4, cn5, cn6, jJa, lk0, lk1, jmS, jmN, s4_0, s4_1, s4_2, s4_3, s4_4, sw0, sw1, cKs, cKn, true_and, and_true, List.map_cons, List.map_nil, Nat.reduceAdd, Nat.zero_add, Int.reduceAdd, Nat.reduceEqDiff, reduceIte, Classical.not_not, b_Ha_clear, shH, hH, hs]
  (repeat' (first | omega | (with_reducible exact True.intro) | exact ⟨by omega, by omega⟩ | (with_reducible exact Or.inr trivial) | (with_reducible exact Or.inl trivial) | (with_reducible assumption) | (with_reducible exact Same.refl) | (with_reducible rfl) | (with_reducible refine And.intro ?_ ?_) | (with_reducible intro _)))
  · refine ⟨⟨?_, ?_, ?_, ?_, fun p hp => absurd hp (by show ¬ p < 0; omega), ⟨?_, fun k hk => absurd hk (by show ¬ k < 0; omega)⟩, ⟨?_, fun k hk => absurd hk (by show ¬ k < 0; omega)⟩⟩, ?_, ?_, fun p hp => absurd hp (by show ¬ p < 0; omega)⟩
    · rw [up_ne1 (by omega), up_ne1 (by omega), up_ne2 (by omega), up_ne2 (by omega), up_ne2 (by omega), up_ne2 (by omega), up_ne2 (by omega), up_eq]; rfl
    · rw [up_ne1 (by omega), up_ne1 (by omega), up_ne2 (by omega), up_ne2 (by omega), up_ne2 (by omega), up_ne2 (by omega), up_eq]; rfl
    · rw [up_ne1 (by omega), up_ne1 (by omega), up_ne2 (by omega), up_ne2 (by omega), up_ne2 (by omega), up_eq]; rfl
    · rw [up_ne1 (by omega), up_ne1 (by omega), up_eq]; rfl
    · rw [up_ne1 (by omega), up_eq]; rfl
    · rw [up_eq]; rfl
    · rw [up_ne1 (by omega), up_ne1 (by omega), up_ne2 (by omega), up_ne2 (by omega), up_eq]; rfl
    · rw [up_ne1 (by omega), up_ne1 (by omega), up_ne2 (by omega), up_eq]; rfl
  · rw [up_z (by omega), up_z (by omega), up_z (by omega), up_z (by omega), up_z (by omega), up_z (by omega), up_z (by omega), up_z (by omega)]
theorem c_Rd_read70f {Q : Option AV → AM → Prop} {a : Int} {i : Nat} (hi : i ≤ 901) (hb : Bd0 t n N w k) (go : Q none N) : AW G d mi_Rd_read Q 70 [some (vr 2), some (vr 1), some (vi a), some (vr z), some (vi i)] [] N := by
  have hne := hb.ne
  generalize hw : N 2 0 = w at hne
  refine AW.run ck_Rd_read [] 12 70 ?_
  simp only [wR, wB, wE0, wE1, wE2, wE3, g0, gS, s10, s11, s1S, s20, s21, s2S, kl0, kl1, kl2, kl3, sp0, sp1, sp2, sp3, cn1, cn2, cn3, cn4, cn5, cn6, jJa, lk0, lk1, jmS, jmN, s4_0, s4_1, s4_2, s4_3, s4_4, sw0, sw1, cKs, cKn, true_and, and_true, List.map_cons, List.map_nil, Nat.reduceAdd, Nat.zero_add, Int.reduceAdd, Nat.reduceEqDiff, reduceIte, Classical.not_not, b_Rd_read, shH, hw]
  (repeat' (first | omega | (with_reducible exact True.intro) | exact ⟨by omega, by omega⟩ | (with_reducible exact Or.inr trivial) | (with_reducible exact Or.inl trivial) | (with_reducible assumption) | (with_reducible exact Same.refl) | (with_reducible rfl) | (with_reducible refine And.intro ?_ ?_) | (with_reducible intro _)))
set_option maxRecDepth 20000 in
theorem c_Rd_lines {Q : Option AV → AM → Prop} {a : Int} (hd : 62 ≤ d) (n9 : n ≤ 900) (hF : 10 * n + 10 ≤ F) (hz : z = 7 ∨ z = 16) : ∀ (f k i : Nat) (h : Hl) (mo : Mo) (N : AM), GdY t n m z M N k h mo → HK h mo → h.lines ≤ k → k ≤ n → i ≤ k → okZ (LNS t n F f k h mo) → (∀ K, PoY t n m z M K (LNS t n F f k h mo) → Q none K) → AW G d mi_Rd_read Q 70 [some (vr 2), some (vr 1), some (vi a), some (vr z), some (vi i)] [] N
  | 0, k, i, h, mo, N, hN, H, hl, hk, hi, ok, go => absurd rfl (ok k)
  | f + 1, k, i, h, mo, N, hN, H, hl, hk, hi, ok, go => by
    obtain ⟨g1, hA, hC⟩ := hN
    have hH := isO_z hz
    have h8 := hA.2.2.2.1
    have hw0 := hA.2.2.2.2.1
    have e24 := ckq (kk := kin t n (pls t n (k))) (x := 24) (v := 22) kin_v (by unfold vK; omega) (by decide +kernel)
    rw [LNS_s] at ok go
    by_cases q : kin t n (pls t n (k)) = 24
    · rw [if_pos q] at go
      rw [e24.mpr q] at h8
      have := go _ (GdY.po ⟨g1, hA, hC⟩)
      refine AW.run ck_Rd_read [] 12 70 ?_
      simp only [wR, wB, wE0, wE1, wE2, wE3, g0, gS, s10, s11, s1S, s20, s21, s2S, kl0, kl1, kl2, kl3, sp0, sp1, sp2, sp3, cn1, cn2, cn3, cn4, cn5, cn6, jJa, lk0, lk1, jmS, jmN, s4_0, s4_1, s4_2, s4_3, s4_4, sw0, sw1, cKs, cKn, true_and, and_true, List.map_cons, List.map_nil, Nat.reduceAdd, Nat.zero_add, Int.reduceAdd, Nat.reduceEqDiff, reduceIte, Classical.not_not, b_Rd_read, shH, hw0, h8, Int.reduceEq, not_true_eq_false, not_false_eq_true, false_imp_iff, true_imp_iff, and_self]
      (repeat' (first | omega | (with_reducible exact True.intro) | exact ⟨by omega, by omega⟩ | (with_reducible exact Or.inr trivial) | (with_reducible exact Or.inl trivial) | (with_reducible assumption) | (with_reducible exact Same.refl) | (with_reducible rfl) | (with_reducible refine And.intro ?_ ?_) | (with_reducible intro _)))
    rw [if_neg q] at ok go
    have hN := kn_n (t := t) (n := n)
    have hrl := c_Rd_line (G := G) (d := d - 1) (F := F) (by omega) hz hA hC H.1.1 ok.bz
    have n22 : ¬ ((ck (kin t n (pls t n (k))) : Nat) : Int) = 22 := fun e => q (e24.mp e)
    generalize ((ck (kin t n (pls t n (k))) : Nat) : Int) = kk at h8 n22
    refine AW.run ck_Rd_read [70] 12 70 ?_
    simp only [wR, wB, wE0, wE1, wE2, wE3, g0, gS, s10, s11, s1S, s20, s21, s2S, kl0, kl1, kl2, kl3, sp0, sp1, sp2, sp3, cn1, cn2, cn3, cn4, cn5, cn6, jJa, lk0, lk1, jmS, jmN, s4_0, s4_1, s4_2, s4_3, s4_4, sw0, sw1, cKs, cKn, true_and, and_true, List.map_cons, List.map_nil, Nat.reduceAdd, Nat.zero_add, Int.reduceAdd, Nat.reduceEqDiff, reduceIte, Classical.not_not, b_Rd_read, shH, hw0, h8, Int.reduceEq, not_true_eq_false, not_false_eq_true, false_imp_iff, true_imp_iff, and_self]
    (repeat' (first | omega | (with_reducible exact True.intro) | exact ⟨by omega, by omega⟩ | (with_reducible exact Or.inr trivial) | (with_reducible exact Or.inl trivial) | (with_reducible assumption) | (with_reducible exact Same.refl) | (with_reducible rfl) | (with_reducible refine And.intro ?_ ?_) | (with_reducible intro _)))
    refine hrl.mono ?_
    rintro r M1 _ ⟨rfl, hp⟩
    rcases rz_cases (LI t n F k h mo) with ⟨w, k1, e⟩ | ⟨k1, h1, m1, e⟩
    · rw [e] at hp go
      obtain ⟨p1, p2⟩ := hp.bad
      have h0 : M1 z 0 = (h.lines : Int) := by rw [p1.2]; exact hC.1.1
      have hb : BdY t n z M (up M1 z 0 ((h.lines + 1 : Nat) : Int)) w k1 := ⟨(g1.trans p1.1).up (by omega), p2.up (by omega)⟩
      simp only [wR, wB, wE0, wE1, wE2, wE3, g0, gS, s10, s11, s1S, s20, s21, s2S, kl0, kl1, kl2, kl3, sp0, sp1, sp2, sp3, cn1, cn2, cn3, cn4, cn5, cn6, jJa, lk0, lk1, jmS, jmN, s4_0, s4_1, s4_2, s4_3, s4_4, sw0, sw1, cKs, cKn, true_and, and_true, List.map_cons, List.map_nil, Nat.reduceAdd, Nat.zero_add, Int.reduceAdd, Nat.reduceEqDiff, reduceIte, Classical.not_not, b_Rd_read, shH, Int.reduceEq, not_true_eq_false, not_false_eq_true, false_imp_iff, true_imp_iff, and_self]
      refine ⟨by omega, MS.to (c_Rd_sign_g (by omega) p2.ne p2.2.2.1 (by omega)) fun _ => ?_⟩
      simp only [wR, wB, wE0, wE1, wE2, wE3, g0, gS, s10, s11, s1S, s20, s21, s2S, kl0, kl1, kl2, kl3, sp0, sp1, sp2, sp3, cn1, cn2, cn3, cn4, cn5, cn6, jJa, lk0, lk1, jmS, jmN, s4_0, s4_1, s4_2, s4_3, s4_4, sw0, sw1, cKs, cKn, true_and, and_true, List.map_cons, List.map_nil, Nat.reduceAdd, Nat.zero_add, Int.reduceAdd, Nat.reduceEqDiff, reduceIte, Classical.not_not, b_Rd_read, shH, hH, h0, ce, Int.reduceEq, not_true_eq_false, not_false_eq_true, false_imp_iff, true_imp_iff, and_self]
      (repeat' (first | omega | (with_reducible exact True.intro) | exact ⟨by omega, by omega⟩ | (with_reducible exact Or.inr trivial) | (with_reducible exact Or.inl trivial) | (with_reducible assumption) | (with_reducible exact Same.refl) | (with_reducible rfl) | (with_reducible refine And.intro ?_ ?_) | (with_reducible intro _)))
      exact c_Rd_read70f (by omega) hb.2 (go _ hb.po)
    · obtain ⟨HK1, hl1⟩ := LI_K (Or.inl hN) n9 hk H e
      have hgo := LI_go (Or.inl hN) hk e
      rw [e] at hp go ok
      obtain ⟨p1, p2, p3⟩ := hp.good
      simp only [wR, wB, wE0, wE1, wE2, wE3, g0, gS, s10, s11, s1S, s20, s21, s2S, kl0, kl1, kl2, kl3, sp0, sp1, sp2, sp3, cn1, cn2, cn3, cn4, cn5, cn6, jJa, lk0, lk1, jmS, jmN, s4_0, s4_1, s4_2, s4_3, s4_4, sw0, sw1, cKs, cKn, true_and, and_true, List.map_cons, List.map_nil, Nat.reduceAdd, Nat.zero_add, Int.reduceAdd, Nat.reduceEqDiff, reduceIte, Classical.not_not, b_Rd_read, shH, Int.reduceEq, not_true_eq_false, not_false_eq_true, false_imp_iff, true_imp_iff, and_self]
      refine ⟨by omega, (c_Rd_sign_2 (x := 30) (c := 59) (by omega) p2 (by unfold vK; omega) (by omega) (by decide +kernel) (by omega)).mono ?_⟩
      rintro r M2 _ ⟨rfl, f2, ⟨q1, hA2⟩ | ⟨q1, hb⟩⟩
      · have h2 := nxN (Or.inl hN) hgo.2 q1 (by omega) (by omega)
        have go' : ∀ K, PoY t n m z M K (LNS t n F f (k1 + 1) h1.sLine m1) → Q none K := by
          intro K hK
          refine go K ?_
          show PoY t n m z M K (if kin t n (pls t n (k1)) = 30 then _ else _)
          rw [if_pos q1]
          exact hK
        have ok' : okZ (LNS t n F f (k1 + 1) h1.sLine m1) := by
          have ok2 : okZ (if kin t n (pls t n (k1)) = 30 then LNS t n F f (k1 + 1) h1.sLine m1 else Rz.bad 2 k1) := ok
          rwa [if_pos q1] at ok2
        have hC2 := p3.f2 hz f2
        have h0 : M2 z 0 = (h1.lines : Int) := hC2.1.1
        simp only [wR, wB, wE0, wE1, wE2, wE3, g0, gS, s10, s11, s1S, s20, s21, s2S, kl0, kl1, kl2, kl3, sp0, sp1, sp2, sp3, cn1, cn2, cn3, cn4, cn5, cn6, jJa, lk0, lk1, jmS, jmN, s4_0, s4_1, s4_2, s4_3, s4_4, sw0, sw1, cKs, cKn, true_and, and_true, List.map_cons, List.map_nil, Nat.reduceAdd, Nat.zero_add, Int.reduceAdd, Nat.reduceEqDiff, reduceIte, Classical.not_not, b_Rd_read, shH, hH, h0, ce, Int.reduceEq, not_true_eq_false, not_false_eq_true, false_imp_iff, true_imp_iff, and_self]
        (repeat' (first | omega | (with_reducible exact True.intro) | exact ⟨by omega, by omega⟩ | (with_reducible exact Or.inr trivial) | (with_reducible exact Or.inl trivial) | (with_reducible assumption) | (with_reducible exact Same.refl) | (with_reducible rfl) | (with_reducible refine And.intro ?_ ?_) | (with_reducible intro _)))
        exact c_Rd_lines hd n9 hF hz f (k1 + 1) (i + 1) h1.sLine m1 _ ⟨((g1.trans p1.1).trans f2.y).up (by omega), hA2.c7 (by omega), hC2.line⟩ (HK1.line (by omega)) (by show h1.lines + 1 ≤ k1 + 1; omega) h2 (by omega) ok' go'
      · have go' : ∀ K, PoY t n m z M K (Rz.bad 2 k1) → Q none K := by
          intro K hK
          refine go K ?_
          show PoY t n m z M K (if kin t n (pls t n (k1)) = 30 then _ else _)
          rw [if_neg q1]
          exact hK
        have h0 : M2 z 0 = (h1.lines : Int) := (p3.f2 hz f2).1.1
        have hb2 : BdY t n z M (up M2 z 0 ((h1.lines + 1 : Nat) : Int)) 2 k1 := ⟨((g1.trans p1.1).trans f2.y).up (by omega), hb.up (by omega)⟩
        simp only [wR, wB, wE0, wE1, wE2, wE3, g0, gS, s10, s11, s1S, s20, s21, s2S, kl0, kl1, kl2, kl3, sp0, sp1, sp2, sp3, cn1, cn2, cn3, cn4, cn5, cn6, jJa, lk0, lk1, jmS, jmN, s4_0, s4_1, s4_2, s4_3, s4_4, sw0, sw1, cKs, cKn, true_and, and_true, List.map_cons, List.map_nil, Nat.reduceAdd, Nat.zero_add, Int.reduceAdd, Nat.reduceEqDiff, reduceIte, Classical.not_not, b_Rd_read, shH, hH, h0, ce, Int.reduceEq, not_true_eq_false, not_false_eq_true, false_imp_iff, true_imp_iff, and_self]
        (repeat' (first | omega | (with_reducible exact True.intro) | exact ⟨by omega, by omega⟩ | (with_reducible exact Or.inr trivial) | (with_reducible exact Or.inl trivial) | (with_reducible assumption) | (with_reducible exact Same.refl) | (with_reducible rfl) | (with_reducible refine And.intro ?_ ?_) | (with_reducible intro _)))
        exact c_Rd_read70f (by omega) hb2.2 (go' _ hb2.po)
/-- a whole text read by the class -/
def FrR (z : Int) (M N : AM) : Prop := ∀ x : Int, x ≠ 2 → x ≠ 4 → x ≠ 5 → x ≠ 6 → ¬ (z ≤ x ∧ x ≤ z + 8) → N x = M x
def PoR (t : Nat → Nat) (n : Nat) (z : Int) (M N : AM) (r : Rz) : Prop :=
  match r with
  | Sum.inl x => FrR z M N ∧ Bd0 t n N x.1 x.2
  | Sum.inr x => FrR z M N ∧ N 2 0 = 0 ∧ N 2 1 = -1 ∧ CF N z x.2.1 x.2.2
end TE
