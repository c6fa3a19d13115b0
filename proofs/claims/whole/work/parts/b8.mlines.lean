section SH
variable {G : AG} {d : Nat} {M N K : AM} {t : Nat → Nat} {n k w F : Nat} {h : Hl} {m : Mo}
def FrO (M N : AM) : Prop := Same [117, 121] M N ∧ ∀ y : Int, y ≠ 6 → y ≠ 7 → y ≠ 9 → y ≠ 10 → y ≠ 11 → y ≠ 12 → y ≠ 15 → N 117 y = M 117 y
theorem FrO.refl : FrO M M := ⟨Same.refl, fun _ _ _ _ _ _ _ _ => rfl⟩
theorem FrO.trans (h : FrO M N) (g : FrO N K) : FrO M K := ⟨fun x hx => (g.1 x hx).trans (h.1 x hx), fun y a b e f i j l => (g.2 y a b e f i j l).trans (h.2 y a b e f i j l)⟩
theorem FrN.o (h : FrN M N) : FrO M N := ⟨h.1, h.2.1⟩
theorem FrO.code {y v : Int} (h : FrO M N) : FrO M (up N 121 y v) := by
  refine ⟨fun x hx => ?_, fun y a b e f i j l => by rw [up_ne1 (by omega)]; exact h.2 y a b e f i j l⟩
  have : x ≠ 121 := fun e => hx (by simp [e])
  rw [← h.1 x hx]
  funext y
  exact up_ne1 this
def GdO (t : Nat → Nat) (n : Nat) (M N : AM) (k : Nat) (h : Hl) (m : Mo) : Prop := FrO M N ∧ AtM N t n k ∧ ∃ c : Nat, c ≤ k ∧ MF (N 121) h m c h.P
def BdO (t : Nat → Nat) (n : Nat) (M N : AM) (w k : Nat) : Prop := FrO M N ∧ N 117 11 = ((fkd (kin t n (pls t n (k))) w : Nat) : Int) ∧ N 117 12 = ((pls t n k : Nat) : Int) ∧ w ≠ 0
theorem BdO.ne (h : BdO t n M N w k) : N 117 11 ≠ 0 := by
  obtain ⟨_, h1, _, h2⟩ := h
  rw [h1]
  unfold fkd
  split <;> omega
def PoO (t : Nat → Nat) (n : Nat) (M N : AM) (r : Rz) : Prop :=
  match r with
  | Sum.inl x => BdO t n M N x.1 x.2
  | Sum.inr x => GdO t n M N x.1 x.2.1 x.2.2
theorem PoO.bad (h : PoO t n M N (Rz.bad w k)) : BdO t n M N w k := h
theorem PoO.good (H : PoO t n M N (Rz.good k h m)) : GdO t n M N k h m := H
theorem BdO.po (h : BdO t n M N w k) : PoO t n M N (Rz.bad w k) := h
theorem GdO.po (H : GdO t n M N k h m) : PoO t n M N (Rz.good k h m) := H
theorem BdN.o (hb : BdN t n M N w k) : BdO t n M N w k := ⟨hb.1.o, hb.2⟩
theorem BdO.of (g : FrO M N) (h : BdO t n N K w k) : BdO t n M K w k := ⟨g.trans h.1, h.2⟩
theorem BdO.code {y v : Int} (h : BdO t n M N w k) : BdO t n M (up N 121 y v) w k := ⟨h.1.code, by rw [up_ne1 (by omega)]; exact h.2.1, by rw [up_ne1 (by omega)]; exact h.2.2.1, h.2.2.2⟩
theorem c_Md_endsLine_f {M0 : AM} {L : Nat} (hd : 2 ≤ d) (hb : BdO t n M0 M w k) (h0 : M 121 0 = (L : Int)) (hL : L ≤ 1000) : MS G d mi_Md_endsLine [vr 117] M (fun r M' => r = none ∧ BdO t n M0 M' w k) := by
  have hb' := hb.code (y := 0) (v := ((L + 1 : Nat) : Int))
  refine MS.run ck_Md_endsLine [some (vr 117)] [14] 12 fun _ _ => ?_
  simp only [wR, wB, wE0, wE1, wE2, wE3, g0, gS, s10, s11, s1S, s20, s21, s2S, kl0, kl1, kl2, kl3, sp0, sp1, sp2, sp3, cn1, cn2, cn3, cn4, cn5, cn6, jJa, lk0, lk1, jmS, jmN, s4_0, s4_1, s4_2, s4_3, s4_4, sw0, sw1, cKs, cKn, true_and, and_true, List.map_cons, List.map_nil, Nat.reduceAdd, Nat.zero_add, Int.reduceAdd, Nat.reduceEqDiff, reduceIte, Classical.not_not, b_Md_endsLine, shMd]
  refine ⟨by omega, MS.to (c_Md_eats_f (by omega) hb.ne) fun _ => ?_⟩
  simp only [wR, wB, wE0, wE1, wE2, wE3, g0, gS, s10, s11, s1S, s20, s21, s2S, kl0, kl1, kl2, kl3, sp0, sp1, sp2, sp3, cn1, cn2, cn3, cn4, cn5, cn6, jJa, lk0, lk1, jmS, jmN, s4_0, s4_1, s4_2, s4_3, s4_4, sw0, sw1, cKs, cKn, true_and, and_true, List.map_cons, List.map_nil, Nat.reduceAdd, Nat.zero_add, Int.reduceAdd, Nat.reduceEqDiff, reduceIte, Classical.not_not, b_Md_endsLine, shMd, Int.reduceEq, not_true_eq_false, not_false_eq_true, false_imp_iff, true_imp_iff, and_self]
  refine ⟨by omega, MS.to (c_Md_fails_f hb.ne) fun _ => ?_⟩
  simp only [wR, wB, wE0, wE1, wE2, wE3, g0, gS, s10, s11, s1S, s20, s21, s2S, kl0, kl1, kl2, kl3, sp0, sp1, sp2, sp3, cn1, cn2, cn3, cn4, cn5, cn6, jJa, lk0, lk1, jmS, jmN, s4_0, s4_1, s4_2, s4_3, s4_4, sw0, sw1, cKs, cKn, true_and, and_true, List.map_cons, List.map_nil, Nat.reduceAdd, Nat.zero_add, Int.reduceAdd, Nat.reduceEqDiff, reduceIte, Classical.not_not, b_Md_endsLine, shMd, Int.reduceEq, not_true_eq_false, not_false_eq_true, false_imp_iff, true_imp_iff, and_self]
  refine AW.run ck_Md_endsLine [] 12 14 ?_
  simp only [wR, wB, wE0, wE1, wE2, wE3, g0, gS, s10, s11, s1S, s20, s21, s2S, kl0, kl1, kl2, kl3, sp0, sp1, sp2, sp3, cn1, cn2, cn3, cn4, cn5, cn6, jJa, lk0, lk1, jmS, jmN, s4_0, s4_1, s4_2, s4_3, s4_4, sw0, sw1, cKs, cKn, true_and, and_true, List.map_cons, List.map_nil, Nat.reduceAdd, Nat.zero_add, Int.reduceAdd, Nat.reduceEqDiff, reduceIte, Classical.not_not, b_Md_endsLine, shMd, h0, ce]
  (repeat' (first | omega | (with_reducible exact True.intro) | exact ⟨by omega, by omega⟩ | (with_reducible exact Or.inr trivial) | (with_reducible exact Or.inl trivial) | (with_reducible assumption) | (with_reducible exact Same.refl) | (with_reducible rfl) | (with_reducible refine And.intro ?_ ?_) | (with_reducible intro _)))
theorem c_Md_endsLine_no {L : Nat} (hd : 9 ≤ d) (hA : AtM M t n k) (q : kin t n (pls t n (k)) ≠ 30) (h0 : M 121 0 = (L : Int)) (hL : L ≤ 1000) : MS G d mi_Md_endsLine [vr 117] M (fun r M' => r = none ∧ BdO t n M M' 2 k) := by
  have hb := BdM.mk' (M := M) (t := t) (n := n) (k := k) FrM.refl (show 2 ≠ 0 by omega)
  have hfl := c_Md_fails (G := G) (d := d - 1) (w := 2) hA
  generalize up (up M 117 11 _) 117 12 _ = M9 at hb hfl
  have hb' := hb.ln.o.code (y := 0) (v := ((L + 1 : Nat) : Int))
  have h0' : M9 121 0 = (L : Int) := by rw [hb.1.2.2 0 (by omega)]; exact h0
  refine MS.run ck_Md_endsLine [some (vr 117)] [14] 12 fun _ _ => ?_
  simp only [wR, wB, wE0, wE1, wE2, wE3, g0, gS, s10, s11, s1S, s20, s21, s2S, kl0, kl1, kl2, kl3, sp0, sp1, sp2, sp3, cn1, cn2, cn3, cn4, cn5, cn6, jJa, lk0, lk1, jmS, jmN, s4_0, s4_1, s4_2, s4_3, s4_4, sw0, sw1, cKs, cKn, true_and, and_true, List.map_cons, List.map_nil, Nat.reduceAdd, Nat.zero_add, Int.reduceAdd, Nat.reduceEqDiff, reduceIte, Classical.not_not, b_Md_endsLine, shMd]
  refine ⟨by omega, MS.to (c_Md_eats_no (x := 30) (by omega) hA q) fun _ => ?_⟩
  simp only [wR, wB, wE0, wE1, wE2, wE3, g0, gS, s10, s11, s1S, s20, s21, s2S, kl0, kl1, kl2, kl3, sp0, sp1, sp2, sp3, cn1, cn2, cn3, cn4, cn5, cn6, jJa, lk0, lk1, jmS, jmN, s4_0, s4_1, s4_2, s4_3, s4_4, sw0, sw1, cKs, cKn, true_and, and_true, List.map_cons, List.map_nil, Nat.reduceAdd, Nat.zero_add, Int.reduceAdd, Nat.reduceEqDiff, reduceIte, Classical.not_not, b_Md_endsLine, shMd, Int.reduceEq, not_true_eq_false, not_false_eq_true, false_imp_iff, true_imp_iff, and_self]
  refine ⟨by omega, MS.to hfl fun _ => ?_⟩
  simp only [wR, wB, wE0, wE1, wE2, wE3, g0, gS, s10, s11, s1S, s20, s21, s2S, kl0, kl1, kl2, kl3, sp0, sp1, sp2, sp3, cn1, cn2, cn3, cn4, cn5, cn6, jJa, lk0, lk1, jmS, jmN, s4_0, s4_1, s4_2, s4_3, s4_4, sw0, sw1, cKs, cKn, true_and, and_true, List.map_cons, List.map_nil, Nat.reduceAdd, Nat.zero_add, Int.reduceAdd, Nat.reduceEqDiff, reduceIte, Classical.not_not, b_Md_endsLine, shMd, Int.reduceEq, not_true_eq_false, not_false_eq_true, false_imp_iff, true_imp_iff, and_self]
  refine AW.run ck_Md_endsLine [] 12 14 ?_
  simp only [wR, wB, wE0, wE1, wE2, wE3, g0, gS, s10, s11, s1S, s20, s21, s2S, kl0, kl1, kl2, kl3, sp0, sp1, sp2, sp3, cn1, cn2, cn3, cn4, cn5, cn6, jJa, lk0, lk1, jmS, jmN, s4_0, s4_1, s4_2, s4_3, s4_4, sw0, sw1, cKs, cKn, true_and, and_true, List.map_cons, List.map_nil, Nat.reduceAdd, Nat.zero_add, Int.reduceAdd, Nat.reduceEqDiff, reduceIte, Classical.not_not, b_Md_endsLine, shMd, h0', ce]
  (repeat' (first | omega | (with_reducible exact True.intro) | exact ⟨by omega, by omega⟩ | (with_reducible exact Or.inr trivial) | (with_reducible exact Or.inl trivial) | (with_reducible assumption) | (with_reducible exact Same.refl) | (with_reducible rfl) | (with_reducible refine And.intro ?_ ?_) | (with_reducible intro _)))
theorem c_Md_endsLine_yes {L : Nat} (hd : 9 ≤ d) (hA : AtM M t n k) (q : kin t n (pls t n (k)) = 30) (h0 : M 121 0 = (L : Int)) (hL : L ≤ 1000) : MS G d mi_Md_endsLine [vr 117] M (fun r M' => r = none ∧ FrO M M' ∧ AtM M' t n (k + 1) ∧ M' 121 = stA (M 121) 0 ((L + 1 : Nat) : Int)) := by
  refine MS.run ck_Md_endsLine [some (vr 117)] [14] 12 fun _ _ => ?_
  simp only [wR, wB, wE0, wE1, wE2, wE3, g0, gS, s10, s11, s1S, s20, s21, s2S, kl0, kl1, kl2, kl3, sp0, sp1, sp2, sp3, cn1, cn2, cn3, cn4, cn5, cn6, jJa, lk0, lk1, jmS, jmN, s4_0, s4_1, s4_2, s4_3, s4_4, sw0, sw1, cKs, cKn, true_and, and_true, List.map_cons, List.map_nil, Nat.reduceAdd, Nat.zero_add, Int.reduceAdd, Nat.reduceEqDiff, reduceIte, Classical.not_not, b_Md_endsLine, shMd]
  refine ⟨by omega, (c_Md_eats_yes (x := 30) (by omega) hA q (by omega)).mono ?_⟩
  rintro r M1 _ ⟨rfl, hA1, hf1⟩
  have em1 := hf1.1 121 (by simp)
  have h0' : M1 121 0 = (L : Int) := by rw [em1]; exact h0
  simp only [wR, wB, wE0, wE1, wE2, wE3, g0, gS, s10, s11, s1S, s20, s21, s2S, kl0, kl1, kl2, kl3, sp0, sp1, sp2, sp3, cn1, cn2, cn3, cn4, cn5, cn6, jJa, lk0, lk1, jmS, jmN, s4_0, s4_1, s4_2, s4_3, s4_4, sw0, sw1, cKs, cKn, true_and, and_true, List.map_cons, List.map_nil, Nat.reduceAdd, Nat.zero_add, Int.reduceAdd, Nat.reduceEqDiff, reduceIte, Classical.not_not, b_Md_endsLine, shMd, Int.reduceEq, not_true_eq_false, not_false_eq_true, false_imp_iff, true_imp_iff, and_self]
  refine AW.run ck_Md_endsLine [] 12 14 ?_
  simp only [wR, wB, wE0, wE1, wE2, wE3, g0, gS, s10, s11, s1S, s20, s21, s2S, kl0, kl1, kl2, kl3, sp0, sp1, sp2, sp3, cn1, cn2, cn3, cn4, cn5, cn6, jJa, lk0, lk1, jmS, jmN, s4_0, s4_1, s4_2, s4_3, s4_4, sw0, sw1, cKs, cKn, true_and, and_true, List.map_cons, List.map_nil, Nat.reduceAdd, Nat.zero_add, Int.reduceAdd, Nat.reduceEqDiff, reduceIte, Classical.not_not, b_Md_endsLine, shMd, h0', ce]
  (repeat' (first | omega | (with_reducible exact True.intro) | exact ⟨by omega, by omega⟩ | (with_reducible exact Or.inr trivial) | (with_reducible exact Or.inl trivial) | (with_reducible assumption) | (with_reducible exact Same.refl) | (with_reducible rfl) | (with_reducible refine And.intro ?_ ?_) | (with_reducible intro _)))
  · exact hf1.ln.o.code
  · exact hA1.code rfl
  · rw [up_stA, em1]
theorem kn_n : kin t n (pls t n (n)) = 24 := by
  unfold kin
  rw [if_pos (pls_ge n)]
theorem c_Md_lines {Q : Option AV → AM → Prop} {a : Int} {l : Option AV} (hd : 62 ≤ d) (n9 : n ≤ 900) (hF : 10 * n + 10 ≤ F) : ∀ (f k : Nat) (h : Hl) (m : Mo) (N : AM), GdO t n M N k h m → HK h m → h.lines ≤ k → k ≤ n → okZ (LNS t n F f k h m) → (∀ K, PoO t n M K (LNS t n F f k h m) → AW G d mi_Md_hall Q 117 [some (vr 117), some (vi a), l] [] K) → AW G d mi_Md_hall Q 90 [some (vr 117), some (vi a), l] [] N
  | 0, k, h, m, N, hN, H, hl, hk, ok, go => absurd rfl (ok k)
  | f + 1, k, h, m, N, hN, H, hl, hk, ok, go => by
    obtain ⟨g1, hA, c, hc, hM⟩ := hN
    have h11 := hA.2.2
    have h9 := hA.2.1.2.1
    rw [LNS_s] at ok go
    by_cases q : kin t n (pls t n (k)) = 24
    · rw [if_pos q] at go
      rw [q] at h9
      have := go _ (GdO.po ⟨g1, hA, c, hc, hM⟩)
      refine AW.run ck_Md_hall [117] 12 90 ?_
      simp only [wR, wB, wE0, wE1, wE2, wE3, g0, gS, s10, s11, s1S, s20, s21, s2S, kl0, kl1, kl2, kl3, sp0, sp1, sp2, sp3, cn1, cn2, cn3, cn4, cn5, cn6, jJa, lk0, lk1, jmS, jmN, s4_0, s4_1, s4_2, s4_3, s4_4, sw0, sw1, cKs, cKn, true_and, and_true, List.map_cons, List.map_nil, Nat.reduceAdd, Nat.zero_add, Int.reduceAdd, Nat.reduceEqDiff, reduceIte, Classical.not_not, b_Md_hall, shMd, h11, h9, Int.reduceEq, not_true_eq_false, not_false_eq_true, false_imp_iff, true_imp_iff, and_self]
      exact ⟨fun _ => this, fun e => absurd rfl e⟩
    rw [if_neg q] at ok go
    have hN := kn_n (t := t) (n := n)
    have f90 : ∀ (w k' : Nat) (K : AM), BdO t n M K w k' → AW G d mi_Md_hall Q 117 [some (vr 117), some (vi a), l] [] K → AW G d mi_Md_hall Q 90 [some (vr 117), some (vi a), l] [] K := by
      intro w k' K hK H
      have hne := hK.ne
      generalize hw : K 117 11 = w at hne
      refine AW.run ck_Md_hall [117] 12 90 ?_
      simp only [wR, wB, wE0, wE1, wE2, wE3, g0, gS, s10, s11, s1S, s20, s21, s2S, kl0, kl1, kl2, kl3, sp0, sp1, sp2, sp3, cn1, cn2, cn3, cn4, cn5, cn6, jJa, lk0, lk1, jmS, jmN, s4_0, s4_1, s4_2, s4_3, s4_4, sw0, sw1, cKs, cKn, true_and, and_true, List.map_cons, List.map_nil, Nat.reduceAdd, Nat.zero_add, Int.reduceAdd, Nat.reduceEqDiff, reduceIte, Classical.not_not, b_Md_hall, shMd, hw]
      (repeat' (first | omega | (with_reducible exact True.intro) | exact ⟨by omega, by omega⟩ | (with_reducible exact Or.inr trivial) | (with_reducible exact Or.inl trivial) | (with_reducible assumption) | (with_reducible exact Same.refl) | (with_reducible rfl) | (with_reducible refine And.intro ?_ ?_) | (with_reducible intro _)))
    have hrl := c_Md_readLine (G := G) (d := d - 1) (F := F) (by omega) hA hc hM H.1.1 ok.bz
    have a90 : AW G d mi_Md_hall Q 90 [some (vr 117), some (vi a), l] [] N := by
      have hkk : ¬ kin t n (pls t n (k)) = 24 := q
      generalize kin t n (pls t n (k)) = kk at h9 hkk
      refine AW.run ck_Md_hall [90, 117] 12 90 ?_
      simp only [wR, wB, wE0, wE1, wE2, wE3, g0, gS, s10, s11, s1S, s20, s21, s2S, kl0, kl1, kl2, kl3, sp0, sp1, sp2, sp3, cn1, cn2, cn3, cn4, cn5, cn6, jJa, lk0, lk1, jmS, jmN, s4_0, s4_1, s4_2, s4_3, s4_4, sw0, sw1, cKs, cKn, true_and, and_true, List.map_cons, List.map_nil, Nat.reduceAdd, Nat.zero_add, Int.reduceAdd, Nat.reduceEqDiff, reduceIte, Classical.not_not, b_Md_hall, shMd, h11, h9, Int.reduceEq, not_true_eq_false, not_false_eq_true, false_imp_iff, true_imp_iff, and_self]
      (repeat' (first | omega | (with_reducible exact True.intro) | exact ⟨by omega, by omega⟩ | (with_reducible exact Or.inr trivial) | (with_reducible exact Or.inl trivial) | (with_reducible assumption) | (with_reducible exact Same.refl) | (with_reducible rfl) | (with_reducible refine And.intro ?_ ?_) | (with_reducible intro _)))
      refine hrl.mono ?_
      rintro r M1 _ ⟨rfl, hp⟩
      rcases rz_cases (LI t n F k h m) with ⟨w, k1, e⟩ | ⟨k1, h1, m1, e⟩
      · rw [e] at hp go
        have hb := BdO.of g1 hp.bad.o
        have h0 : M1 121 0 = (h.lines : Int) := by rw [hp.bad.1.2.2]; exact hM.1.1
        simp only [wR, wB, wE0, wE1, wE2, wE3, g0, gS, s10, s11, s1S, s20, s21, s2S, kl0, kl1, kl2, kl3, sp0, sp1, sp2, sp3, cn1, cn2, cn3, cn4, cn5, cn6, jJa, lk0, lk1, jmS, jmN, s4_0, s4_1, s4_2, s4_3, s4_4, sw0, sw1, cKs, cKn, true_and, and_true, List.map_cons, List.map_nil, Nat.reduceAdd, Nat.zero_add, Int.reduceAdd, Nat.reduceEqDiff, reduceIte, Classical.not_not, b_Md_hall, shMd, Int.reduceEq, not_true_eq_false, not_false_eq_true, false_imp_iff, true_imp_iff, and_self]
        refine ⟨by omega, (c_Md_endsLine_f (by omega) hb h0 (by omega)).mono ?_⟩
        rintro r M2 _ ⟨rfl, hb2⟩
        simp only [wR, wB, wE0, wE1, wE2, wE3, g0, gS, s10, s11, s1S, s20, s21, s2S, kl0, kl1, kl2, kl3, sp0, sp1, sp2, sp3, cn1, cn2, cn3, cn4, cn5, cn6, jJa, lk0, lk1, jmS, jmN, s4_0, s4_1, s4_2, s4_3, s4_4, sw0, sw1, cKs, cKn, true_and, and_true, List.map_cons, List.map_nil, Nat.reduceAdd, Nat.zero_add, Int.reduceAdd, Nat.reduceEqDiff, reduceIte, Classical.not_not, b_Md_hall, shMd, Int.reduceEq, not_true_eq_false, not_false_eq_true, false_imp_iff, true_imp_iff, and_self]
        exact f90 _ _ _ hb2 (go _ hb2.po)
      · obtain ⟨HK1, hl1⟩ := LI_K (Or.inl hN) n9 hk H e
        have hgo := LI_go (Or.inl hN) hk e
        rw [e] at hp go ok
        obtain ⟨p1, p2, c', p3, p4⟩ := hp.good
        have h0 : M1 121 0 = (h1.lines : Int) := p4.1.1
        by_cases q1 : kin t n (pls t n (k1)) = 30
        · have h2 := nxN (Or.inl hN) hgo.2 q1 (by omega) (by omega)
          have go' : ∀ K, PoO t n M K (LNS t n F f (k1 + 1) h1.sLine m1) → AW G d mi_Md_hall Q 117 [some (vr 117), some (vi a), l] [] K := by
            intro K hK
            refine go K ?_
            show PoO t n M K (if kin t n (pls t n (k1)) = 30 then _ else _)
            rw [if_pos q1]
            exact hK
          have ok' : okZ (LNS t n F f (k1 + 1) h1.sLine m1) := by
            have ok2 : okZ (if kin t n (pls t n (k1)) = 30 then LNS t n F f (k1 + 1) h1.sLine m1 else Rz.bad 2 k1) := ok
            rwa [if_pos q1] at ok2
          simp only [wR, wB, wE0, wE1, wE2, wE3, g0, gS, s10, s11, s1S, s20, s21, s2S, kl0, kl1, kl2, kl3, sp0, sp1, sp2, sp3, cn1, cn2, cn3, cn4, cn5, cn6, jJa, lk0, lk1, jmS, jmN, s4_0, s4_1, s4_2, s4_3, s4_4, sw0, sw1, cKs, cKn, true_and, and_true, List.map_cons, List.map_nil, Nat.reduceAdd, Nat.zero_add, Int.reduceAdd, Nat.reduceEqDiff, reduceIte, Classical.not_not, b_Md_hall, shMd, Int.reduceEq, not_true_eq_false, not_false_eq_true, false_imp_iff, true_imp_iff, and_self]
          refine ⟨by omega, (c_Md_endsLine_yes (by omega) p2 q1 h0 (by omega)).mono ?_⟩
          rintro r M2 _ ⟨rfl, u1, u2, u3⟩
          simp only [wR, wB, wE0, wE1, wE2, wE3, g0, gS, s10, s11, s1S, s20, s21, s2S, kl0, kl1, kl2, kl3, sp0, sp1, sp2, sp3, cn1, cn2, cn3, cn4, cn5, cn6, jJa, lk0, lk1, jmS, jmN, s4_0, s4_1, s4_2, s4_3, s4_4, sw0, sw1, cKs, cKn, true_and, and_true, List.map_cons, List.map_nil, Nat.reduceAdd, Nat.zero_add, Int.reduceAdd, Nat.reduceEqDiff, reduceIte, Classical.not_not, b_Md_hall, shMd, Int.reduceEq, not_true_eq_false, not_false_eq_true, false_imp_iff, true_imp_iff, and_self]
          refine c_Md_lines hd n9 hF f (k1 + 1) h1.sLine m1 M2 ⟨(g1.trans p1.o).trans u1, u2, c', by omega, ?_⟩ (HK1.line (by omega)) (by show h1.lines + 1 ≤ k1 + 1; omega) h2 ok' go'
          rw [u3]
          exact p4.line HK1.1.1
        · have go' : ∀ K, PoO t n M K (Rz.bad 2 k1) → AW G d mi_Md_hall Q 117 [some (vr 117), some (vi a), l] [] K := by
            intro K hK
            refine go K ?_
            show PoO t n M K (if kin t n (pls t n (k1)) = 30 then _ else _)
            rw [if_neg q1]
            exact hK
          simp only [wR, wB, wE0, wE1, wE2, wE3, g0, gS, s10, s11, s1S, s20, s21, s2S, kl0, kl1, kl2, kl3, sp0, sp1, sp2, sp3, cn1, cn2, cn3, cn4, cn5, cn6, jJa, lk0, lk1, jmS, jmN, s4_0, s4_1, s4_2, s4_3, s4_4, sw0, sw1, cKs, cKn, true_and, and_true, List.map_cons, List.map_nil, Nat.reduceAdd, Nat.zero_add, Int.reduceAdd, Nat.reduceEqDiff, reduceIte, Classical.not_not, b_Md_hall, shMd, Int.reduceEq, not_true_eq_false, not_false_eq_true, false_imp_iff, true_imp_iff, and_self]
          refine ⟨by omega, (c_Md_endsLine_no (by omega) p2 q1 h0 (by omega)).mono ?_⟩
          rintro r M2 _ ⟨rfl, hb⟩
          have hb2 := BdO.of (g1.trans p1.o) hb
          simp only [wR, wB, wE0, wE1, wE2, wE3, g0, gS, s10, s11, s1S, s20, s21, s2S, kl0, kl1, kl2, kl3, sp0, sp1, sp2, sp3, cn1, cn2, cn3, cn4, cn5, cn6, jJa, lk0, lk1, jmS, jmN, s4_0, s4_1, s4_2, s4_3, s4_4, sw0, sw1, cKs, cKn, true_and, and_true, List.map_cons, List.map_nil, Nat.reduceAdd, Nat.zero_add, Int.reduceAdd, Nat.reduceEqDiff, reduceIte, Classical.not_not, b_Md_hall, shMd, Int.reduceEq, not_true_eq_false, not_false_eq_true, false_imp_iff, true_imp_iff, and_self]
          exact f90 _ _ _ hb2 (go' _ hb2.po)
    exact a90
end SH
