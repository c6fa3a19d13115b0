section SE
variable {G : AG} {d : Nat} {M N K : AM} {t : Nat → Nat} {n k w pp F : Nat} {h : Hl} {m : Mo}
theorem FL1_P {p k' : Nat} {h' : Hl} {m' : Mo} (e : FL1 t n p k h m = Rz.good k' h' m') : h'.P = h.P := by
  unfold FL1 at e
  split at e
  · obtain ⟨_, x, _, _, e⟩ := nu_good e
    obtain ⟨_, rfl, _⟩ := zgood_inj e
    rfl
  · split at e
    · obtain ⟨_, x, _, _, e⟩ := nu_good e
      obtain ⟨_, rfl, _⟩ := zgood_inj e
      rfl
    · obtain ⟨_, rfl, _⟩ := zgood_inj e
      rfl
theorem FL_P : ∀ f p k h m k' h' m', FL t n f p k h m = Rz.good k' h' m' → h'.P = h.P
  | 0, p, k, h, m, k', h', m', e => absurd e (fun e => zbad_good e)
  | f + 1, p, k, h, m, k', h', m', e => by
    by_cases q : kin t n (pls t n (k)) = 4 ∨ kin t n (pls t n (k)) = 5 ∨ kin t n (pls t n (k)) = 6
    · rw [FL_1 q] at e
      obtain ⟨k1, h1, m1, e1, e⟩ := bz_good e
      rw [FL_P f _ _ _ _ _ _ _ e, FL1_P e1]
    · rw [FL_0 q] at e
      obtain ⟨_, rfl, _⟩ := zgood_inj e
      rfl
theorem c_Md_flags {p : Nat} {Q : Option AV → AM → Prop} (hd : 10 ≤ d) : ∀ (f k : Nat) (h : Hl) (m : Mo) (N : AM), GdN t n M N k h m pp → h.P ≤ 5 → p < h.P → okZ (FL t n f p k h m) → (∀ K, PoN t n pp M K (FL t n f p k h m) → AW G d mi_Md_readPerson Q 95 [some (vr 117), some (vi p)] [] K) → AW G d mi_Md_readPerson Q 77 [some (vr 117), some (vi p)] [] N
  | 0, k, h, m, N, hN, hP, hp, ok, go => absurd rfl (ok k)
  | f + 1, k, h, m, N, hN, hP, hp, ok, go => by
    have hA := hN.2.1
    have h11 := hA.2.2
    obtain ⟨c, hc, hF⟩ := hN.2.2
    by_cases q : kin t n (pls t n (k)) = 4 ∨ kin t n (pls t n (k)) = 5 ∨ kin t n (pls t n (k)) = 6
    · rw [FL_1 q] at ok go
      refine AW.run ck_Md_readPerson [77, 95] 12 77 ?_
      simp only [wR, wB, wE0, wE1, wE2, wE3, g0, gS, s10, s11, s1S, s20, s21, s2S, kl0, kl1, kl2, kl3, sp0, sp1, sp2, sp3, cn1, cn2, cn3, cn4, cn5, cn6, jJa, lk0, lk1, jmS, jmN, s4_0, s4_1, s4_2, s4_3, s4_4, sw0, sw1, cKs, cKn, true_and, and_true, List.map_cons, List.map_nil, Nat.reduceAdd, Nat.zero_add, Int.reduceAdd, Nat.reduceEqDiff, reduceIte, Classical.not_not, b_Md_readPerson, shMd, h11, Int.reduceEq, not_true_eq_false, not_false_eq_true, false_imp_iff, true_imp_iff, and_self]
      refine ⟨by omega, (c_Md_readFlag_yes (by omega) hA q hc hF hP hp).mono ?_⟩
      rintro r M1 _ ⟨hp1, hr⟩
      rcases rz_cases (FL1 t n p k h m) with ⟨w, k1, e1⟩ | ⟨k1, h1, m1, e1⟩
      · rw [e1] at hp1 go
        have hb := hp1.bad
        rcases hr with ⟨hr, _⟩ | ⟨_, rfl⟩
        · exact absurd hr hb.ne
        · simp only [wR, wB, wE0, wE1, wE2, wE3, g0, gS, s10, s11, s1S, s20, s21, s2S, kl0, kl1, kl2, kl3, sp0, sp1, sp2, sp3, cn1, cn2, cn3, cn4, cn5, cn6, jJa, lk0, lk1, jmS, jmN, s4_0, s4_1, s4_2, s4_3, s4_4, sw0, sw1, cKs, cKn, true_and, and_true, List.map_cons, List.map_nil, Nat.reduceAdd, Nat.zero_add, Int.reduceAdd, Nat.reduceEqDiff, reduceIte, Classical.not_not, b_Md_readPerson, shMd, Int.reduceEq, not_true_eq_false, not_false_eq_true, false_imp_iff, true_imp_iff, and_self]
          exact go _ (BdN.of hN.1 hb).po
      · have hP1 := FL1_P e1
        rw [e1] at hp1 go ok
        have hg := GdN.of hN.1 hp1.good
        rcases hr with ⟨_, rfl⟩ | ⟨hr, _⟩
        · simp only [wR, wB, wE0, wE1, wE2, wE3, g0, gS, s10, s11, s1S, s20, s21, s2S, kl0, kl1, kl2, kl3, sp0, sp1, sp2, sp3, cn1, cn2, cn3, cn4, cn5, cn6, jJa, lk0, lk1, jmS, jmN, s4_0, s4_1, s4_2, s4_3, s4_4, sw0, sw1, cKs, cKn, true_and, and_true, List.map_cons, List.map_nil, Nat.reduceAdd, Nat.zero_add, Int.reduceAdd, Nat.reduceEqDiff, reduceIte, Classical.not_not, b_Md_readPerson, shMd, Int.reduceEq, not_true_eq_false, not_false_eq_true, false_imp_iff, true_imp_iff, and_self]
          exact c_Md_flags hd f k1 h1 m1 M1 hg (by omega) (by omega) ok go
        · exact absurd hg.2.1.2.2 hr
    · rw [FL_0 q] at go
      refine AW.run ck_Md_readPerson [77, 95] 12 77 ?_
      simp only [wR, wB, wE0, wE1, wE2, wE3, g0, gS, s10, s11, s1S, s20, s21, s2S, kl0, kl1, kl2, kl3, sp0, sp1, sp2, sp3, cn1, cn2, cn3, cn4, cn5, cn6, jJa, lk0, lk1, jmS, jmN, s4_0, s4_1, s4_2, s4_3, s4_4, sw0, sw1, cKs, cKn, true_and, and_true, List.map_cons, List.map_nil, Nat.reduceAdd, Nat.zero_add, Int.reduceAdd, Nat.reduceEqDiff, reduceIte, Classical.not_not, b_Md_readPerson, shMd, h11, Int.reduceEq, not_true_eq_false, not_false_eq_true, false_imp_iff, true_imp_iff, and_self]
      refine ⟨by omega, MS.to (c_Md_readFlag_no (by omega) hA q) fun _ => ?_⟩
      simp only [wR, wB, wE0, wE1, wE2, wE3, g0, gS, s10, s11, s1S, s20, s21, s2S, kl0, kl1, kl2, kl3, sp0, sp1, sp2, sp3, cn1, cn2, cn3, cn4, cn5, cn6, jJa, lk0, lk1, jmS, jmN, s4_0, s4_1, s4_2, s4_3, s4_4, sw0, sw1, cKs, cKn, true_and, and_true, List.map_cons, List.map_nil, Nat.reduceAdd, Nat.zero_add, Int.reduceAdd, Nat.reduceEqDiff, reduceIte, Classical.not_not, b_Md_readPerson, shMd, Int.reduceEq, not_true_eq_false, not_false_eq_true, false_imp_iff, true_imp_iff, and_self]
      exact go _ hN.po
/-- a line read by the model -/
def PoL (t : Nat → Nat) (n : Nat) (M N : AM) (r : Rz) : Prop :=
  match r with
  | Sum.inl x => BdN t n M N x.1 x.2
  | Sum.inr x => GdN t n M N x.1 x.2.1 x.2.2 x.2.1.P
theorem PoL.bad (h : PoL t n M N (Rz.bad w k)) : BdN t n M N w k := h
theorem PoL.good (H : PoL t n M N (Rz.good k h m)) : GdN t n M N k h m h.P := H
theorem BdN.pl (h : BdN t n M N w k) : PoL t n M N (Rz.bad w k) := h
theorem GdN.pl (H : GdN t n M N k h m h.P) : PoL t n M N (Rz.good k h m) := H
set_option maxRecDepth 20000 in
theorem c_Md_readPerson {c : Nat} (hd : 11 ≤ d) (hA : AtM M t n k) (q2 : kin t n (pls t n (k)) = 2) (hc : c ≤ k) (hF : MF (M 121) h m c h.P) (hP : h.P ≤ 5) (ok : okZ (LIp t n F k h m)) : MS G d mi_Md_readPerson [vr 117] M (fun r M' => r = none ∧ PoL t n M M' (LIp t n F k h m)) := by
  have n9 := hA.n9
  have h11 := hA.2.2
  have e1 := hF.1.2.1
  refine MS.by ck_Md_readPerson [some (vr 117), none] fun _ _ => ?_
  generalize hQ : (fun (r : Option AV) (M' : AM) => r = none ∧ PoL t n M M' (LIp t n F k h m)) = Q
  have hq : ∀ M', PoL t n M M' (LIp t n F k h m) → Q none M' := by
    intro M' h
    rw [← hQ]
    exact ⟨rfl, h⟩
  clear hQ
  unfold LIp at hq ok
  by_cases q5 : h.P = 5
  · rw [if_pos q5] at hq
    have e1 : M 121 1 = (5 : Int) := by rw [e1, q5]; rfl
    have hb := BdM.mk' (M := M) (t := t) (n := n) (k := k) FrM.refl (show 4 ≠ 0 by omega)
    have hfl := c_Md_fails (G := G) (d := d - 1) (w := 4) hA
    generalize up (up M 117 11 _) 117 12 _ = M9 at hb hfl
    have hne := hb.ne
    have hq' := hq _ hb.ln.pl
    generalize hw : M9 117 11 = w at hne
    refine AW.run ck_Md_readPerson [17] 12 0 ?_
    simp only [wR, wB, wE0, wE1, wE2, wE3, g0, gS, s10, s11, s1S, s20, s21, s2S, kl0, kl1, kl2, kl3, sp0, sp1, sp2, sp3, cn1, cn2, cn3, cn4, cn5, cn6, jJa, lk0, lk1, jmS, jmN, s4_0, s4_1, s4_2, s4_3, s4_4, sw0, sw1, cKs, cKn, true_and, and_true, List.map_cons, List.map_nil, Nat.reduceAdd, Nat.zero_add, Int.reduceAdd, Nat.reduceEqDiff, reduceIte, Classical.not_not, b_Md_readPerson, shMd, e1, Int.reduceEq, not_true_eq_false, not_false_eq_true, false_imp_iff, true_imp_iff, and_self]
    (repeat' (first | omega | (with_reducible exact True.intro) | exact ⟨by omega, by omega⟩ | (with_reducible exact Or.inr trivial) | (with_reducible exact Or.inl trivial) | (with_reducible assumption) | (with_reducible exact Same.refl) | (with_reducible rfl) | (with_reducible refine And.intro ?_ ?_) | (with_reducible intro _)))
    refine MS.to hfl fun _ => ?_
    simp only [wR, wB, wE0, wE1, wE2, wE3, g0, gS, s10, s11, s1S, s20, s21, s2S, kl0, kl1, kl2, kl3, sp0, sp1, sp2, sp3, cn1, cn2, cn3, cn4, cn5, cn6, jJa, lk0, lk1, jmS, jmN, s4_0, s4_1, s4_2, s4_3, s4_4, sw0, sw1, cKs, cKn, true_and, and_true, List.map_cons, List.map_nil, Nat.reduceAdd, Nat.zero_add, Int.reduceAdd, Nat.reduceEqDiff, reduceIte, Classical.not_not, b_Md_readPerson, shMd, Int.reduceEq, not_true_eq_false, not_false_eq_true, false_imp_iff, true_imp_iff, and_self]
    refine AW.run ck_Md_readPerson [25] 12 17 ?_
    simp only [wR, wB, wE0, wE1, wE2, wE3, g0, gS, s10, s11, s1S, s20, s21, s2S, kl0, kl1, kl2, kl3, sp0, sp1, sp2, sp3, cn1, cn2, cn3, cn4, cn5, cn6, jJa, lk0, lk1, jmS, jmN, s4_0, s4_1, s4_2, s4_3, s4_4, sw0, sw1, cKs, cKn, true_and, and_true, List.map_cons, List.map_nil, Nat.reduceAdd, Nat.zero_add, Int.reduceAdd, Nat.reduceEqDiff, reduceIte, Classical.not_not, b_Md_readPerson, shMd, hw]
    (repeat' (first | omega | (with_reducible exact True.intro) | exact ⟨by omega, by omega⟩ | (with_reducible exact Or.inr trivial) | (with_reducible exact Or.inl trivial) | (with_reducible assumption) | (with_reducible exact Same.refl) | (with_reducible rfl) | (with_reducible refine And.intro ?_ ?_) | (with_reducible intro _)))
  rw [if_neg q5] at hq ok
  have hP' : h.P < 5 := by omega
  generalize hp : h.P = p at *
  have a25 : ∀ Q', AW G d mi_Md_readPerson Q' 25 [some (vr 117), some (vi p)] [] M → AW G d mi_Md_readPerson Q' 0 [some (vr 117), none] [] M := by
    intro Q' H
    refine AW.run ck_Md_readPerson [17] 12 0 ?_
    simp only [wR, wB, wE0, wE1, wE2, wE3, g0, gS, s10, s11, s1S, s20, s21, s2S, kl0, kl1, kl2, kl3, sp0, sp1, sp2, sp3, cn1, cn2, cn3, cn4, cn5, cn6, jJa, lk0, lk1, jmS, jmN, s4_0, s4_1, s4_2, s4_3, s4_4, sw0, sw1, cKs, cKn, true_and, and_true, List.map_cons, List.map_nil, Nat.reduceAdd, Nat.zero_add, Int.reduceAdd, Nat.reduceEqDiff, reduceIte, Classical.not_not, b_Md_readPerson, shMd, e1, Int.reduceEq, not_true_eq_false, not_false_eq_true, false_imp_iff, true_imp_iff, and_self]
    (repeat' (first | omega | (with_reducible exact True.intro) | exact ⟨by omega, by omega⟩ | (with_reducible exact Or.inr trivial) | (with_reducible exact Or.inl trivial) | (with_reducible assumption) | (with_reducible exact Same.refl) | (with_reducible rfl) | (with_reducible refine And.intro ?_ ?_) | (with_reducible intro _)))
    refine AW.run ck_Md_readPerson [25] 12 17 ?_
    simp only [wR, wB, wE0, wE1, wE2, wE3, g0, gS, s10, s11, s1S, s20, s21, s2S, kl0, kl1, kl2, kl3, sp0, sp1, sp2, sp3, cn1, cn2, cn3, cn4, cn5, cn6, jJa, lk0, lk1, jmS, jmN, s4_0, s4_1, s4_2, s4_3, s4_4, sw0, sw1, cKs, cKn, true_and, and_true, List.map_cons, List.map_nil, Nat.reduceAdd, Nat.zero_add, Int.reduceAdd, Nat.reduceEqDiff, reduceIte, Classical.not_not, b_Md_readPerson, shMd, h11, Int.reduceEq, not_true_eq_false, not_false_eq_true, false_imp_iff, true_imp_iff, and_self]
    exact H
  refine a25 _ ?_
  -- the end
  have f95 : ∀ N : AM, N 117 11 ≠ 0 → Q none N → AW G d mi_Md_readPerson Q 95 [some (vr 117), some (vi p)] [] N := by
    intro N hN H
    generalize hw : N 117 11 = w at hN
    refine AW.run ck_Md_readPerson [] 12 95 ?_
    simp only [wR, wB, wE0, wE1, wE2, wE3, g0, gS, s10, s11, s1S, s20, s21, s2S, kl0, kl1, kl2, kl3, sp0, sp1, sp2, sp3, cn1, cn2, cn3, cn4, cn5, cn6, jJa, lk0, lk1, jmS, jmN, s4_0, s4_1, s4_2, s4_3, s4_4, sw0, sw1, cKs, cKn, true_and, and_true, List.map_cons, List.map_nil, Nat.reduceAdd, Nat.zero_add, Int.reduceAdd, Nat.reduceEqDiff, reduceIte, Classical.not_not, b_Md_readPerson, shMd, hw]
    (repeat' (first | omega | (with_reducible exact True.intro) | exact ⟨by omega, by omega⟩ | (with_reducible exact Or.inr trivial) | (with_reducible exact Or.inl trivial) | (with_reducible assumption) | (with_reducible exact Same.refl) | (with_reducible rfl) | (with_reducible refine And.intro ?_ ?_) | (with_reducible intro _)))
  have f77 : ∀ N : AM, N 117 11 ≠ 0 → Q none N → AW G d mi_Md_readPerson Q 77 [some (vr 117), some (vi p)] [] N := by
    intro N hN H
    have := f95 N hN H
    generalize hw : N 117 11 = w at hN
    refine AW.run ck_Md_readPerson [95] 12 77 ?_
    simp only [wR, wB, wE0, wE1, wE2, wE3, g0, gS, s10, s11, s1S, s20, s21, s2S, kl0, kl1, kl2, kl3, sp0, sp1, sp2, sp3, cn1, cn2, cn3, cn4, cn5, cn6, jJa, lk0, lk1, jmS, jmN, s4_0, s4_1, s4_2, s4_3, s4_4, sw0, sw1, cKs, cKn, true_and, and_true, List.map_cons, List.map_nil, Nat.reduceAdd, Nat.zero_add, Int.reduceAdd, Nat.reduceEqDiff, reduceIte, Classical.not_not, b_Md_readPerson, shMd, hw]
    (repeat' (first | omega | (with_reducible exact True.intro) | exact ⟨by omega, by omega⟩ | (with_reducible exact Or.inr trivial) | (with_reducible exact Or.inl trivial) | (with_reducible assumption) | (with_reducible exact Same.refl) | (with_reducible rfl) | (with_reducible refine And.intro ?_ ?_) | (with_reducible intro _)))
  refine AW.run ck_Md_readPerson [42] 12 25 ?_
  simp only [wR, wB, wE0, wE1, wE2, wE3, g0, gS, s10, s11, s1S, s20, s21, s2S, kl0, kl1, kl2, kl3, sp0, sp1, sp2, sp3, cn1, cn2, cn3, cn4, cn5, cn6, jJa, lk0, lk1, jmS, jmN, s4_0, s4_1, s4_2, s4_3, s4_4, sw0, sw1, cKs, cKn, true_and, and_true, List.map_cons, List.map_nil, Nat.reduceAdd, Nat.zero_add, Int.reduceAdd, Nat.reduceEqDiff, reduceIte, Classical.not_not, b_Md_readPerson, shMd]
  refine ⟨by omega, (c_Md_next_at (by omega) hA (by omega)).mono ?_⟩
  rintro r M1 _ ⟨rfl, hA1, hf1⟩
  simp only [wR, wB, wE0, wE1, wE2, wE3, g0, gS, s10, s11, s1S, s20, s21, s2S, kl0, kl1, kl2, kl3, sp0, sp1, sp2, sp3, cn1, cn2, cn3, cn4, cn5, cn6, jJa, lk0, lk1, jmS, jmN, s4_0, s4_1, s4_2, s4_3, s4_4, sw0, sw1, cKs, cKn, true_and, and_true, List.map_cons, List.map_nil, Nat.reduceAdd, Nat.zero_add, Int.reduceAdd, Nat.reduceEqDiff, reduceIte, Classical.not_not, b_Md_readPerson, shMd]
  have em1 := hf1.1 121 (by simp)
  by_cases q3 : kin t n (pls t n (k + 1)) = 3
  case neg =>
    rw [if_neg q3] at hq
    have hb := BdM.mk' (M := M1) (t := t) (n := n) (k := k + 1) FrM.refl (show 2 ≠ 0 by omega)
    have hfl := c_Md_fails (G := G) (d := d - 1) (w := 2) hA1
    generalize up (up M1 117 11 _) 117 12 _ = M9 at hb hfl
    refine ⟨by omega, MS.to (c_Md_eats_no (x := 3) (by omega) hA1 q3) fun _ => ?_⟩
    simp only [wR, wB, wE0, wE1, wE2, wE3, g0, gS, s10, s11, s1S, s20, s21, s2S, kl0, kl1, kl2, kl3, sp0, sp1, sp2, sp3, cn1, cn2, cn3, cn4, cn5, cn6, jJa, lk0, lk1, jmS, jmN, s4_0, s4_1, s4_2, s4_3, s4_4, sw0, sw1, cKs, cKn, true_and, and_true, List.map_cons, List.map_nil, Nat.reduceAdd, Nat.zero_add, Int.reduceAdd, Nat.reduceEqDiff, reduceIte, Classical.not_not, b_Md_readPerson, shMd, Int.reduceEq, not_true_eq_false, not_false_eq_true, false_imp_iff, true_imp_iff, and_self]
    refine ⟨by omega, MS.to hfl fun _ => ?_⟩
    simp only [wR, wB, wE0, wE1, wE2, wE3, g0, gS, s10, s11, s1S, s20, s21, s2S, kl0, kl1, kl2, kl3, sp0, sp1, sp2, sp3, cn1, cn2, cn3, cn4, cn5, cn6, jJa, lk0, lk1, jmS, jmN, s4_0, s4_1, s4_2, s4_3, s4_4, sw0, sw1, cKs, cKn, true_and, and_true, List.map_cons, List.map_nil, Nat.reduceAdd, Nat.zero_add, Int.reduceAdd, Nat.reduceEqDiff, reduceIte, Classical.not_not, b_Md_readPerson, shMd, Int.reduceEq, not_true_eq_false, not_false_eq_true, false_imp_iff, true_imp_iff, and_self]
    refine AW.run ck_Md_readPerson [77] 12 42 ?_
    simp only [wR, wB, wE0, wE1, wE2, wE3, g0, gS, s10, s11, s1S, s20, s21, s2S, kl0, kl1, kl2, kl3, sp0, sp1, sp2, sp3, cn1, cn2, cn3, cn4, cn5, cn6, jJa, lk0, lk1, jmS, jmN, s4_0, s4_1, s4_2, s4_3, s4_4, sw0, sw1, cKs, cKn, true_and, and_true, List.map_cons, List.map_nil, Nat.reduceAdd, Nat.zero_add, Int.reduceAdd, Nat.reduceEqDiff, reduceIte, Classical.not_not, b_Md_readPerson, shMd]
    (repeat' (first | omega | (with_reducible exact True.intro) | exact ⟨by omega, by omega⟩ | (with_reducible exact Or.inr trivial) | (with_reducible exact Or.inl trivial) | (with_reducible assumption) | (with_reducible exact Same.refl) | (with_reducible rfl) | (with_reducible refine And.intro ?_ ?_) | (with_reducible intro _)))
    refine (c_Md_takes_f (by omega) hb.ne).mono ?_
    rintro r M2 _ ⟨rfl, e2⟩
    subst e2
    simp only [wR, wB, wE0, wE1, wE2, wE3, g0, gS, s10, s11, s1S, s20, s21, s2S, kl0, kl1, kl2, kl3, sp0, sp1, sp2, sp3, cn1, cn2, cn3, cn4, cn5, cn6, jJa, lk0, lk1, jmS, jmN, s4_0, s4_1, s4_2, s4_3, s4_4, sw0, sw1, cKs, cKn, true_and, and_true, List.map_cons, List.map_nil, Nat.reduceAdd, Nat.zero_add, Int.reduceAdd, Nat.reduceEqDiff, reduceIte, Classical.not_not, b_Md_readPerson, shMd]
    (repeat' (first | omega | (with_reducible exact True.intro) | exact ⟨by omega, by omega⟩ | (with_reducible exact Or.inr trivial) | (with_reducible exact Or.inl trivial) | (with_reducible assumption) | (with_reducible exact Same.refl) | (with_reducible rfl) | (with_reducible refine And.intro ?_ ?_) | (with_reducible intro _)))
    have hb' := ((BdN.of hf1.ln hb.ln).code (y := 19 + (p : Int)) (v := M2 117 10) (by omega)).code (y := 24 + (p : Int)) (v := 4) (by omega)
    have hb'' := hb'.code (y := 9 + (p : Int)) (v := 1) (by omega)
    exact f77 _ hb''.ne (hq _ hb''.pl)
  rw [if_pos q3] at hq ok
  refine ⟨by omega, (c_Md_eats_yes (x := 3) (by omega) hA1 q3 (by omega)).mono ?_⟩
  rintro r M2 _ ⟨rfl, hA2, hf2⟩
  have em2 := hf2.1 121 (by simp)
  simp only [wR, wB, wE0, wE1, wE2, wE3, g0, gS, s10, s11, s1S, s20, s21, s2S, kl0, kl1, kl2, kl3, sp0, sp1, sp2, sp3, cn1, cn2, cn3, cn4, cn5, cn6, jJa, lk0, lk1, jmS, jmN, s4_0, s4_1, s4_2, s4_3, s4_4, sw0, sw1, cKs, cKn, true_and, and_true, List.map_cons, List.map_nil, Nat.reduceAdd, Nat.zero_add, Int.reduceAdd, Nat.reduceEqDiff, reduceIte, Classical.not_not, b_Md_readPerson, shMd, Int.reduceEq, not_true_eq_false, not_false_eq_true, false_imp_iff, true_imp_iff, and_self]
  refine AW.run ck_Md_readPerson [77] 12 42 ?_
  simp only [wR, wB, wE0, wE1, wE2, wE3, g0, gS, s10, s11, s1S, s20, s21, s2S, kl0, kl1, kl2, kl3, sp0, sp1, sp2, sp3, cn1, cn2, cn3, cn4, cn5, cn6, jJa, lk0, lk1, jmS, jmN, s4_0, s4_1, s4_2, s4_3, s4_4, sw0, sw1, cKs, cKn, true_and, and_true, List.map_cons, List.map_nil, Nat.reduceAdd, Nat.zero_add, Int.reduceAdd, Nat.reduceEqDiff, reduceIte, Classical.not_not, b_Md_readPerson, shMd]
  (repeat' (first | omega | (with_reducible exact True.intro) | exact ⟨by omega, by omega⟩ | (with_reducible exact Or.inr trivial) | (with_reducible exact Or.inl trivial) | (with_reducible assumption) | (with_reducible exact Same.refl) | (with_reducible rfl) | (with_reducible refine And.intro ?_ ?_) | (with_reducible intro _)))
  refine (c_Md_takes_z (most := 1) (g := fun x => FL t n F p (k + 3) h.sAdd (m.sAdd p x)) (by omega) (by omega) hA2).mono ?_
  rintro r M3 _ ⟨x, rfl, hf3, em3, hx⟩
  simp only [wR, wB, wE0, wE1, wE2, wE3, g0, gS, s10, s11, s1S, s20, s21, s2S, kl0, kl1, kl2, kl3, sp0, sp1, sp2, sp3, cn1, cn2, cn3, cn4, cn5, cn6, jJa, lk0, lk1, jmS, jmN, s4_0, s4_1, s4_2, s4_3, s4_4, sw0, sw1, cKs, cKn, true_and, and_true, List.map_cons, List.map_nil, Nat.reduceAdd, Nat.zero_add, Int.reduceAdd, Nat.reduceEqDiff, reduceIte, Classical.not_not, b_Md_readPerson, shMd]
  (repeat' (first | omega | (with_reducible exact True.intro) | exact ⟨by omega, by omega⟩ | (with_reducible exact Or.inr trivial) | (with_reducible exact Or.inl trivial) | (with_reducible assumption) | (with_reducible exact Same.refl) | (with_reducible rfl) | (with_reducible refine And.intro ?_ ?_) | (with_reducible intro _)))
  rcases hx with ⟨y, rfl, hy, hz, hA3, q23⟩ | ⟨w, hz, hb⟩
  · rw [hz] at hq ok
    have hG : GdN t n M (up (up (up M3 121 (19 + (p : Int)) (y : Int)) 121 (24 + (p : Int)) 4) 121 (9 + (p : Int)) 1) (k + 3) h.sAdd (m.sAdd p y) p := by
      refine ⟨((((hf1.ln.trans hf2.ln).trans hf3.ln).code (by omega)).code (by omega)).code (by omega), ((hA3.code rfl).code rfl).code rfl, c, by omega, ?_⟩
      rw [up_stA, up_stA, up_stA, em3, em2, em1]
      have := hF.add (x := y) (by omega)
      rw [hp] at this
      exact this
    refine c_Md_flags (by omega) F (k + 3) h.sAdd (m.sAdd p y) _ hG (by show h.P + 1 ≤ 5; omega) (by show p < h.P + 1; omega) ok fun K hK => ?_
    rcases rz_cases (FL t n F p (k + 3) h.sAdd (m.sAdd p y)) with ⟨w, k1, e⟩ | ⟨k1, h1, m1, e⟩
    · rw [e] at hK hq
      exact f95 _ hK.bad.ne (hq _ hK.bad.pl)
    · have hP1 : h1.P = h.P + 1 := FL_P _ _ _ _ _ _ _ _ e
      rw [e] at hK hq
      obtain ⟨g1, g2, c', g3, g4⟩ := hK.good
      have w0 := g2.2.2
      have ep := g4.1.2.1
      have hq' := hq (up K 121 1 ((p + 1 : Nat) : Int)) (GdN.pl (by
        refine ⟨g1.code (by omega), g2.code rfl, c', g3, ?_⟩
        rw [up_stA, hP1, hp]
        exact g4.setP (by omega)))
      refine AW.run ck_Md_readPerson [] 12 95 ?_
      simp only [wR, wB, wE0, wE1, wE2, wE3, g0, gS, s10, s11, s1S, s20, s21, s2S, kl0, kl1, kl2, kl3, sp0, sp1, sp2, sp3, cn1, cn2, cn3, cn4, cn5, cn6, jJa, lk0, lk1, jmS, jmN, s4_0, s4_1, s4_2, s4_3, s4_4, sw0, sw1, cKs, cKn, true_and, and_true, List.map_cons, List.map_nil, Nat.reduceAdd, Nat.zero_add, Int.reduceAdd, Nat.reduceEqDiff, reduceIte, Classical.not_not, b_Md_readPerson, shMd, w0, ep, Int.reduceEq, not_true_eq_false, not_false_eq_true, false_imp_iff, true_imp_iff, and_self, ce]
      (repeat' (first | omega | (with_reducible exact True.intro) | exact ⟨by omega, by omega⟩ | (with_reducible exact Or.inr trivial) | (with_reducible exact Or.inl trivial) | (with_reducible assumption) | (with_reducible exact Same.refl) | (with_reducible rfl) | (with_reducible refine And.intro ?_ ?_) | (with_reducible intro _)))
  · rw [hz] at hq
    have hb' := ((BdN.of (hf1.ln.trans hf2.ln) hb.ln).code (y := 19 + (p : Int)) (v := x) (by omega)).code (y := 24 + (p : Int)) (v := 4) (by omega)
    have hb'' := hb'.code (y := 9 + (p : Int)) (v := 1) (by omega)
    exact f77 _ hb''.ne (hq _ hb''.pl)
end SE
