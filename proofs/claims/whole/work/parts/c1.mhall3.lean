section SK
/-! kinds of fault are small -/
def sw (r : Rs) : Prop := ∀ w k, r = Rs.bad w k → w ≤ 4
theorem sw.gd {k : Nat} {cs : List Int} : sw (Rs.good k cs) := fun w k e => by cases e
theorem sw.bad {w k : Nat} (h : w ≤ 4) : sw (Rs.bad w k) := fun w' k' e => by
  unfold Rs.bad at e
  cases e
  exact h
theorem sw.bd {r : Rs} {f : Nat → List Int → Rs} (h : sw r) (hf : ∀ k cs, sw (f k cs)) : sw (r.bd f) := by
  rcases rs_cases r with ⟨w, k, rfl⟩ | ⟨k, cs, rfl⟩
  · exact h
  · exact hf k cs
theorem pr_sw {kd : Nat → Nat} {vl : Nat → Int} {lw : Nat} : ∀ f m v k, sw (pr kd vl lw f m v k)
  | 0, m, v, k => sw.bad (by omega)
  | f + 1, m, v, k => by
    have ih := pr_sw (kd := kd) (vl := vl) (lw := lw) f
    match m with
    | 0 | 1 | 2 | 3 | 4 | 5 | 6 | 7 | 8 | _ + 9 =>
      simp only [pr]
      repeat' (first | exact ih _ _ _ | exact sw.gd | exact sw.bad (by omega) | (refine sw.bd ?_ fun _ _ => ?_) | split)
def swz (r : Rz) : Prop := ∀ w k, r = Rz.bad w k → w ≤ 4
theorem swz.gd {k : Nat} {h : Hl} {m : Mo} : swz (Rz.good k h m) := fun w k e => by cases e
theorem swz.bad {w k : Nat} (h : w ≤ 4) : swz (Rz.bad w k) := fun w' k' e => by
  unfold Rz.bad at e
  cases e
  exact h
theorem swz.bz {r : Rz} {f : Nat → Hl → Mo → Rz} (h : swz r) (hf : ∀ k h m, swz (f k h m)) : swz (r.bz f) := by
  rcases rz_cases r with ⟨w, k, rfl⟩ | ⟨k, h1, m, rfl⟩
  · exact h
  · exact hf k h1 m
theorem swz.lz {r : Rs} {f : Nat → List Int → Rz} (h : sw r) (hf : ∀ k cs, swz (f k cs)) : swz (r.lz f) := by
  rcases rs_cases r with ⟨w, k, rfl⟩ | ⟨k, cs, rfl⟩
  · exact swz.bad (h w k rfl)
  · exact hf k cs
theorem swz.nu {t : Nat → Nat} {n most k : Nat} {g : Nat → Rz} (h : ∀ x, swz (g x)) : swz (nuZ t n most k g) := by
  unfold nuZ
  split
  · split
    · exact h _
    · exact swz.bad (by omega)
  · exact swz.bad (by omega)
theorem FL_sw {t : Nat → Nat} {n : Nat} : ∀ f p k h m, swz (FL t n f p k h m)
  | 0, p, k, h, m => swz.bad (by omega)
  | f + 1, p, k, h, m => by
    rw [FL_s]
    repeat' split
    · exact swz.nu fun x => FL_sw f _ _ _ _
    · exact swz.nu fun x => FL_sw f _ _ _ _
    · exact FL_sw f _ _ _ _
    · exact swz.gd
theorem LI_sw {t : Nat → Nat} {n F k : Nat} {h : Hl} {m : Mo} : swz (LI t n F k h m) := by
  unfold LI LIp LIt LIc PR
  repeat' (first | exact swz.gd | exact swz.bad (by omega) | exact FL_sw _ _ _ _ _ | exact pr_sw _ _ _ _ | (refine swz.nu fun _ => ?_) | (refine swz.lz ?_ fun _ _ => ?_) | split)
theorem LNS_sw {t : Nat → Nat} {n F : Nat} : ∀ f k h m, swz (LNS t n F f k h m)
  | 0, k, h, m => swz.bad (by omega)
  | f + 1, k, h, m => by
    rw [LNS_s]
    split
    · exact swz.gd
    · refine swz.bz LI_sw fun k1 h1 m1 => ?_
      split
      · exact LNS_sw f _ _ _
      · exact swz.bad (by omega)
theorem HA_sw {t : Nat → Nat} {n F : Nat} : swz (HA t n F) := by
  unfold HA
  repeat' (first | exact swz.bad (by omega) | exact LNS_sw _ _ _ _ | (refine swz.nu fun _ => ?_) | split)
end SK
section SK
variable {G : AG} {d : Nat} {M N K : AM} {t : Nat → Nat} {n F : Nat} {Q : Option AV → AM → Prop} {a : Int} {l : Option AV}
theorem LNS_go {N' : Nat} (hN : kin t n (pls t n (N')) = 24 ∨ kin t n (pls t n (N')) = 25) : ∀ f k h m k' h' m', k ≤ N' → LNS t n F f k h m = Rz.good k' h' m' → k' ≤ N'
  | 0, k, h, m, k', h', m', hk, e => absurd e (fun e => zbad_good e)
  | f + 1, k, h, m, k', h', m', hk, e => by
    rw [LNS_s] at e
    split at e
    · obtain ⟨rfl, rfl, rfl⟩ := zgood_inj e
      exact hk
    · obtain ⟨k1, h1, m1, e1, e⟩ := bz_good e
      have hg := LI_go hN hk e1
      split at e
      · next q =>
        have h2 := nxN hN hg.2 q (by omega) (by omega)
        exact LNS_go hN f _ _ _ _ _ _ h2 e
      · exact absurd e (fun e => zbad_good e)
theorem HA_go {k : Nat} {h : Hl} {m : Mo} (e : HA t n F = Rz.good k h m) : k ≤ n := by
  unfold HA at e
  have hN := kn_n (t := t) (n := n)
  split at e
  · next q0 =>
    have h1 := nxN (Or.inl hN) (Nat.zero_le n) q0 (by omega) (by omega)
    split at e
    · next q1 =>
      have h2 := nxN (Or.inl hN) h1 q1 (by omega) (by omega)
      obtain ⟨q2, x, hx, _, e⟩ := nu_good e
      have h3 := nxN (Or.inl hN) h2 q2 (by omega) (by omega)
      split at e
      · next q3 =>
        have h4 := nxN (Or.inl hN) h3 q3 (by omega) (by omega)
        exact LNS_go (Or.inl hN) F _ _ _ _ _ _ h4 e
      · exact absurd e (fun e => zbad_good e)
    · exact absurd e (fun e => zbad_good e)
  · exact absurd e (fun e => zbad_good e)
theorem c_Md_hall_90f {w k : Nat} (hK : BdO t n M K w k) (H : AW G d mi_Md_hall Q 117 [some (vr 117), some (vi a), l] [] K) : AW G d mi_Md_hall Q 90 [some (vr 117), some (vi a), l] [] K := by
  have hne := hK.ne
  generalize hw : K 117 11 = w at hne
  refine AW.run ck_Md_hall [117] 12 90 ?_
  simp only [wR, wB, wE0, wE1, wE2, wE3, g0, gS, s10, s11, s1S, s20, s21, s2S, kl0, kl1, kl2, kl3, sp0, sp1, sp2, sp3, cn1, cn2, cn3, cn4, cn5, cn6, jJa, lk0, lk1, jmS, jmN, s4_0, s4_1, s4_2, s4_3, s4_4, sw0, sw1, cKs, cKn, true_and, and_true, List.map_cons, List.map_nil, Nat.reduceAdd, Nat.zero_add, Int.reduceAdd, Nat.reduceEqDiff, reduceIte, Classical.not_not, b_Md_hall, shMd, hw]
  (repeat' (first | omega | (with_reducible exact True.intro) | exact ⟨by omega, by omega⟩ | (with_reducible exact Or.inr trivial) | (with_reducible exact Or.inl trivial) | (with_reducible assumption) | (with_reducible exact Same.refl) | (with_reducible rfl) | (with_reducible refine And.intro ?_ ?_) | (with_reducible intro _)))
theorem c_Md_hall_74f {w k L : Nat} (hd : 8 ≤ d) (hK : BdO t n M K w k) (h0 : K 121 0 = (L : Int)) (hL : L ≤ 1000) (go : ∀ K, BdO t n M K w k → AW G d mi_Md_hall Q 117 [some (vr 117), some (vi a), l] [] K) : AW G d mi_Md_hall Q 74 [some (vr 117), some (vi a), l] [] K := by
  have hb := hK.code (y := 2) (v := K 117 10)
  have h0' : up K 121 2 (K 117 10) 121 0 = (L : Int) := by rw [up_ne2 (by omega)]; exact h0
  refine AW.run ck_Md_hall [90] 12 74 ?_
  simp only [wR, wB, wE0, wE1, wE2, wE3, g0, gS, s10, s11, s1S, s20, s21, s2S, kl0, kl1, kl2, kl3, sp0, sp1, sp2, sp3, cn1, cn2, cn3, cn4, cn5, cn6, jJa, lk0, lk1, jmS, jmN, s4_0, s4_1, s4_2, s4_3, s4_4, sw0, sw1, cKs, cKn, true_and, and_true, List.map_cons, List.map_nil, Nat.reduceAdd, Nat.zero_add, Int.reduceAdd, Nat.reduceEqDiff, reduceIte, Classical.not_not, b_Md_hall, shMd]
  refine ⟨by omega, MS.to (c_Md_takes_f (by omega) hK.ne) fun _ => ?_⟩
  simp only [wR, wB, wE0, wE1, wE2, wE3, g0, gS, s10, s11, s1S, s20, s21, s2S, kl0, kl1, kl2, kl3, sp0, sp1, sp2, sp3, cn1, cn2, cn3, cn4, cn5, cn6, jJa, lk0, lk1, jmS, jmN, s4_0, s4_1, s4_2, s4_3, s4_4, sw0, sw1, cKs, cKn, true_and, and_true, List.map_cons, List.map_nil, Nat.reduceAdd, Nat.zero_add, Int.reduceAdd, Nat.reduceEqDiff, reduceIte, Classical.not_not, b_Md_hall, shMd, Int.reduceEq, not_true_eq_false, not_false_eq_true, false_imp_iff, true_imp_iff, and_self]
  (repeat' (first | omega | (with_reducible exact True.intro) | exact ⟨by omega, by omega⟩ | (with_reducible exact Or.inr trivial) | (with_reducible exact Or.inl trivial) | (with_reducible assumption) | (with_reducible exact Same.refl) | (with_reducible rfl) | (with_reducible refine And.intro ?_ ?_) | (with_reducible intro _)))
  refine (c_Md_endsLine_f (by omega) hb h0' hL).mono ?_
  rintro r M2 _ ⟨rfl, hb2⟩
  simp only [wR, wB, wE0, wE1, wE2, wE3, g0, gS, s10, s11, s1S, s20, s21, s2S, kl0, kl1, kl2, kl3, sp0, sp1, sp2, sp3, cn1, cn2, cn3, cn4, cn5, cn6, jJa, lk0, lk1, jmS, jmN, s4_0, s4_1, s4_2, s4_3, s4_4, sw0, sw1, cKs, cKn, true_and, and_true, List.map_cons, List.map_nil, Nat.reduceAdd, Nat.zero_add, Int.reduceAdd, Nat.reduceEqDiff, reduceIte, Classical.not_not, b_Md_hall, shMd, Int.reduceEq, not_true_eq_false, not_false_eq_true, false_imp_iff, true_imp_iff, and_self]
  exact c_Md_hall_90f hb2 (go _ hb2)
theorem c_Md_hall_74g (hd : 63 ≤ d) (n9 : n ≤ 900) (hF : 10 * n + 10 ≤ F) (hG : GdO t n M K 2 hl0 mo0) (h2 : 2 ≤ n) (go : ∀ K, PoO t n M K (nuZ t n 5 2 (fun x => if kin t n (pls t n (3)) = 30 then LNS t n F F 4 ((hl0.sMust x).sLine) mo0 else Rz.bad 2 3)) → AW G d mi_Md_hall Q 117 [some (vr 117), some (vi a), l] [] K) : AW G d mi_Md_hall Q 74 [some (vr 117), some (vi a), l] [] K := by
  obtain ⟨g1, hA, c, hc, hM⟩ := hG
  have hN := kn_n (t := t) (n := n)
  refine AW.run ck_Md_hall [90] 12 74 ?_
  simp only [wR, wB, wE0, wE1, wE2, wE3, g0, gS, s10, s11, s1S, s20, s21, s2S, kl0, kl1, kl2, kl3, sp0, sp1, sp2, sp3, cn1, cn2, cn3, cn4, cn5, cn6, jJa, lk0, lk1, jmS, jmN, s4_0, s4_1, s4_2, s4_3, s4_4, sw0, sw1, cKs, cKn, true_and, and_true, List.map_cons, List.map_nil, Nat.reduceAdd, Nat.zero_add, Int.reduceAdd, Nat.reduceEqDiff, reduceIte, Classical.not_not, b_Md_hall, shMd]
  refine ⟨by omega, (c_Md_takes_z (most := 5) (g := fun x => if kin t n (pls t n (3)) = 30 then LNS t n F F 4 ((hl0.sMust x).sLine) mo0 else Rz.bad 2 3) (by omega) (by omega) hA).mono ?_⟩
  rintro r M2 _ ⟨x, rfl, hf2, e2, hx⟩
  simp only [wR, wB, wE0, wE1, wE2, wE3, g0, gS, s10, s11, s1S, s20, s21, s2S, kl0, kl1, kl2, kl3, sp0, sp1, sp2, sp3, cn1, cn2, cn3, cn4, cn5, cn6, jJa, lk0, lk1, jmS, jmN, s4_0, s4_1, s4_2, s4_3, s4_4, sw0, sw1, cKs, cKn, true_and, and_true, List.map_cons, List.map_nil, Nat.reduceAdd, Nat.zero_add, Int.reduceAdd, Nat.reduceEqDiff, reduceIte, Classical.not_not, b_Md_hall, shMd, Int.reduceEq, not_true_eq_false, not_false_eq_true, false_imp_iff, true_imp_iff, and_self]
  (repeat' (first | omega | (with_reducible exact True.intro) | exact ⟨by omega, by omega⟩ | (with_reducible exact Or.inr trivial) | (with_reducible exact Or.inl trivial) | (with_reducible assumption) | (with_reducible exact Same.refl) | (with_reducible rfl) | (with_reducible refine And.intro ?_ ?_) | (with_reducible intro _)))
  rcases hx with ⟨y, rfl, hy, hz, hA2, q2⟩ | ⟨w, hz, hb⟩
  · rw [hz] at go
    have hF2 : MF (up M2 121 2 (y : Int) 121) (hl0.sMust y) mo0 c 0 := by
      rw [up_stA, e2]
      exact hM.must (by show 0 ≤ 5; omega)
    have hA3 : AtM (up M2 121 2 (y : Int)) t n 3 := hA2.code rfl
    have h0 : up M2 121 2 (y : Int) 121 0 = ((0 : Nat) : Int) := hF2.1.1
    have gg := (g1.trans hf2.ln.o).code (y := 2) (v := (y : Int))
    have h3 := nxN (Or.inl hN) h2 q2 (by omega) (by omega)
    by_cases q3 : kin t n (pls t n (3)) = 30
    · have h4 := nxN (Or.inl hN) h3 q3 (by omega) (by omega)
      have go' : ∀ K, PoO t n M K (LNS t n F F 4 ((hl0.sMust y).sLine) mo0) → AW G d mi_Md_hall Q 117 [some (vr 117), some (vi a), l] [] K := by
        intro K hK
        refine go K ?_
        show PoO t n M K (if kin t n (pls t n (3)) = 30 then _ else _)
        rw [if_pos q3]
        exact hK
      refine (c_Md_endsLine_yes (by omega) hA3 q3 h0 (by omega)).mono ?_
      rintro r M3 _ ⟨rfl, u1, u2, u3⟩
      simp only [wR, wB, wE0, wE1, wE2, wE3, g0, gS, s10, s11, s1S, s20, s21, s2S, kl0, kl1, kl2, kl3, sp0, sp1, sp2, sp3, cn1, cn2, cn3, cn4, cn5, cn6, jJa, lk0, lk1, jmS, jmN, s4_0, s4_1, s4_2, s4_3, s4_4, sw0, sw1, cKs, cKn, true_and, and_true, List.map_cons, List.map_nil, Nat.reduceAdd, Nat.zero_add, Int.reduceAdd, Nat.reduceEqDiff, reduceIte, Classical.not_not, b_Md_hall, shMd, Int.reduceEq, not_true_eq_false, not_false_eq_true, false_imp_iff, true_imp_iff, and_self]
      refine c_Md_lines (by omega) n9 hF F 4 _ mo0 M3 ⟨gg.trans u1, u2, c, by omega, ?_⟩ (HK0 hy) (by show 0 + 1 ≤ 4; omega) h4 (LNS_fu (Or.inl hN) hF F 4 _ _ h4 (by omega)) go'
      rw [u3]
      exact hF2.line (by show 0 ≤ 5; omega)
    · have go' : ∀ K, PoO t n M K (Rz.bad 2 3) → AW G d mi_Md_hall Q 117 [some (vr 117), some (vi a), l] [] K := by
        intro K hK
        refine go K ?_
        show PoO t n M K (if kin t n (pls t n (3)) = 30 then _ else _)
        rw [if_neg q3]
        exact hK
      refine (c_Md_endsLine_no (by omega) hA3 q3 h0 (by omega)).mono ?_
      rintro r M3 _ ⟨rfl, hb⟩
      have hb2 := BdO.of gg hb
      simp only [wR, wB, wE0, wE1, wE2, wE3, g0, gS, s10, s11, s1S, s20, s21, s2S, kl0, kl1, kl2, kl3, sp0, sp1, sp2, sp3, cn1, cn2, cn3, cn4, cn5, cn6, jJa, lk0, lk1, jmS, jmN, s4_0, s4_1, s4_2, s4_3, s4_4, sw0, sw1, cKs, cKn, true_and, and_true, List.map_cons, List.map_nil, Nat.reduceAdd, Nat.zero_add, Int.reduceAdd, Nat.reduceEqDiff, reduceIte, Classical.not_not, b_Md_hall, shMd, Int.reduceEq, not_true_eq_false, not_false_eq_true, false_imp_iff, true_imp_iff, and_self]
      exact c_Md_hall_90f hb2 (go' _ hb2.po)
  · rw [hz] at go
    have hb' := (BdO.of g1 hb.ln.o).code (y := 2) (v := x)
    have h0' : up M2 121 2 x 121 0 = ((0 : Nat) : Int) := by
      rw [up_ne2 (by omega), e2]
      exact hM.1.1
    refine (c_Md_endsLine_f (by omega) hb' h0' (by omega)).mono ?_
    rintro r M3 _ ⟨rfl, hb2⟩
    simp only [wR, wB, wE0, wE1, wE2, wE3, g0, gS, s10, s11, s1S, s20, s21, s2S, kl0, kl1, kl2, kl3, sp0, sp1, sp2, sp3, cn1, cn2, cn3, cn4, cn5, cn6, jJa, lk0, lk1, jmS, jmN, s4_0, s4_1, s4_2, s4_3, s4_4, sw0, sw1, cKs, cKn, true_and, and_true, List.map_cons, List.map_nil, Nat.reduceAdd, Nat.zero_add, Int.reduceAdd, Nat.reduceEqDiff, reduceIte, Classical.not_not, b_Md_hall, shMd, Int.reduceEq, not_true_eq_false, not_false_eq_true, false_imp_iff, true_imp_iff, and_self]
    exact c_Md_hall_90f hb2 (go _ hb2.po)
theorem c_Md_hall_69 {k : Nat} (hd : 63 ≤ d) (hG : GdO t n M K k hl0 mo0) (go : ∀ K, PoO t n M K (Rz.bad 2 k) → AW G d mi_Md_hall Q 117 [some (vr 117), some (vi a), l] [] K) : AW G d mi_Md_hall Q 69 [some (vr 117), some (vi a), l] [] K := by
  obtain ⟨g1, hA, c, hc, hM⟩ := hG
  have hb := BdM.mk' (M := K) (t := t) (n := n) (k := k) FrM.refl (show 2 ≠ 0 by omega)
  have hfl := c_Md_fails (G := G) (d := d - 1) (w := 2) hA
  generalize up (up K 117 11 _) 117 12 _ = M9 at hb hfl
  have h0 : M9 121 0 = ((0 : Nat) : Int) := by rw [hb.1.2.2 0 (by omega)]; exact hM.1.1
  have a74 := c_Md_hall_74f (G := G) (d := d) (Q := Q) (a := a) (l := l) (by omega) (BdO.of g1 hb.ln.o) h0 (by omega) (fun K hK => go K hK.po)
  refine AW.run ck_Md_hall [74] 12 69 ?_
  simp only [wR, wB, wE0, wE1, wE2, wE3, g0, gS, s10, s11, s1S, s20, s21, s2S, kl0, kl1, kl2, kl3, sp0, sp1, sp2, sp3, cn1, cn2, cn3, cn4, cn5, cn6, jJa, lk0, lk1, jmS, jmN, s4_0, s4_1, s4_2, s4_3, s4_4, sw0, sw1, cKs, cKn, true_and, and_true, List.map_cons, List.map_nil, Nat.reduceAdd, Nat.zero_add, Int.reduceAdd, Nat.reduceEqDiff, reduceIte, Classical.not_not, b_Md_hall, shMd]
  refine ⟨by omega, MS.to hfl fun _ => ?_⟩
  simp only [wR, wB, wE0, wE1, wE2, wE3, g0, gS, s10, s11, s1S, s20, s21, s2S, kl0, kl1, kl2, kl3, sp0, sp1, sp2, sp3, cn1, cn2, cn3, cn4, cn5, cn6, jJa, lk0, lk1, jmS, jmN, s4_0, s4_1, s4_2, s4_3, s4_4, sw0, sw1, cKs, cKn, true_and, and_true, List.map_cons, List.map_nil, Nat.reduceAdd, Nat.zero_add, Int.reduceAdd, Nat.reduceEqDiff, reduceIte, Classical.not_not, b_Md_hall, shMd, Int.reduceEq, not_true_eq_false, not_false_eq_true, false_imp_iff, true_imp_iff, and_self]
  exact a74
theorem c_Md_hall_22 {K0 K1 : AM} (hd : 64 ≤ d) (n9 : n ≤ 900) (hF : 10 * n + 10 ≤ F) (e0 : K0 = up (up (up (up M 117 8 (n : Int)) 117 5 0) 117 7 0) 117 11 0) (e1 : K1 = up (pln K0 121 1053) 121 2 1) (ht : ∀ k : Nat, k < n → M 120 k = t k) (t2 : ∀ k, t k ≤ 255) (go : ∀ K, PoO t n K1 K (HA t n F) → AW G d mi_Md_hall Q 117 [some (vr 117), some (vi n), l] [] K) : AW G d mi_Md_hall Q 22 [some (vr 117), some (vi n), l] [] M := by
  have hN := kn_n (t := t) (n := n)
  have f1 : ∀ x y : Int, x ≠ 121 → K1 x y = K0 x y := by
    intro x y hx
    rw [e1, up_ne1 hx]
    unfold pln
    rw [if_neg (fun q => hx q.1)]
  have hMF : MF (K1 121) hl0 mo0 0 0 := by rw [e1]; exact MF0
  have k8 : K1 117 8 = n := by rw [f1 _ _ (by omega), e0, up_ne2 (by omega), up_ne2 (by omega), up_ne2 (by omega), up_eq]
  have k7 : K1 117 7 = ((0 : Nat) : Int) := by rw [f1 _ _ (by omega), e0, up_ne2 (by omega), up_eq]; rfl
  have k11 : K1 117 11 = 0 := by rw [f1 _ _ (by omega), e0, up_eq]
  have hT : TxM K1 t n := ⟨k8, n9, fun k hk => by rw [f1 _ _ (by omega), e0, up_ne1 (by omega), up_ne1 (by omega), up_ne1 (by omega), up_ne1 (by omega)]; exact ht k hk, t2⟩
  have hpl := c_Md_plain (G := G) (d := d - 1) (M := K0) (z := 121) shMd.2.2.2.2.1.1 (by rw [shMd.2.2.2.2.1.2]; omega) (by rw [shMd.2.2.2.2.1.2]; omega)
  rw [← e1] at hpl
  refine AW.run ck_Md_hall [69, 74] 12 22 ?_
  simp only [wR, wB, wE0, wE1, wE2, wE3, g0, gS, s10, s11, s1S, s20, s21, s2S, kl0, kl1, kl2, kl3, sp0, sp1, sp2, sp3, cn1, cn2, cn3, cn4, cn5, cn6, jJa, lk0, lk1, jmS, jmN, s4_0, s4_1, s4_2, s4_3, s4_4, sw0, sw1, cKs, cKn, true_and, and_true, List.map_cons, List.map_nil, Nat.reduceAdd, Nat.zero_add, Int.reduceAdd, Nat.reduceEqDiff, reduceIte, Classical.not_not, b_Md_hall, shMd]
  rw [← e0]
  (repeat' (first | omega | (with_reducible exact True.intro) | exact ⟨by omega, by omega⟩ | (with_reducible exact Or.inr trivial) | (with_reducible exact Or.inl trivial) | (with_reducible assumption) | (with_reducible exact Same.refl) | (with_reducible rfl) | (with_reducible refine And.intro ?_ ?_) | (with_reducible intro _)))
  refine MS.to hpl fun _ => ?_
  simp only [wR, wB, wE0, wE1, wE2, wE3, g0, gS, s10, s11, s1S, s20, s21, s2S, kl0, kl1, kl2, kl3, sp0, sp1, sp2, sp3, cn1, cn2, cn3, cn4, cn5, cn6, jJa, lk0, lk1, jmS, jmN, s4_0, s4_1, s4_2, s4_3, s4_4, sw0, sw1, cKs, cKn, true_and, and_true, List.map_cons, List.map_nil, Nat.reduceAdd, Nat.zero_add, Int.reduceAdd, Nat.reduceEqDiff, reduceIte, Classical.not_not, b_Md_hall, shMd, Int.reduceEq, not_true_eq_false, not_false_eq_true, false_imp_iff, true_imp_iff, and_self]
  (repeat' (first | omega | (with_reducible exact True.intro) | exact ⟨by omega, by omega⟩ | (with_reducible exact Or.inr trivial) | (with_reducible exact Or.inl trivial) | (with_reducible assumption) | (with_reducible exact Same.refl) | (with_reducible rfl) | (with_reducible refine And.intro ?_ ?_) | (with_reducible intro _)))
  refine (c_Md_next (e := 0) (by omega) hT k7 (by omega)).mono ?_
  rintro r M2 _ ⟨rfl, hnx, hfn⟩
  have hA : AtM M2 t n 0 := ⟨hT.fn hfn, hnx, by rw [hfn.2 11 (by omega) (by omega) (by omega) (by omega)]; exact k11⟩
  have e2 := hfn.1 121 (by simp)
  have hG : GdO t n K1 M2 0 hl0 mo0 := ⟨hfn.ln.o, hA, 0, by omega, by rw [e2]; exact hMF⟩
  unfold HA at go
  simp only [wR, wB, wE0, wE1, wE2, wE3, g0, gS, s10, s11, s1S, s20, s21, s2S, kl0, kl1, kl2, kl3, sp0, sp1, sp2, sp3, cn1, cn2, cn3, cn4, cn5, cn6, jJa, lk0, lk1, jmS, jmN, s4_0, s4_1, s4_2, s4_3, s4_4, sw0, sw1, cKs, cKn, true_and, and_true, List.map_cons, List.map_nil, Nat.reduceAdd, Nat.zero_add, Int.reduceAdd, Nat.reduceEqDiff, reduceIte, Classical.not_not, b_Md_hall, shMd, Int.reduceEq, not_true_eq_false, not_false_eq_true, false_imp_iff, true_imp_iff, and_self]
  by_cases q0 : kin t n (pls t n (0)) = 0
  · rw [if_pos q0] at go
    have h1 := nxN (Or.inl hN) (Nat.zero_le n) q0 (by omega) (by omega)
    refine ⟨by omega, (c_Md_eats_yes (x := 0) (by omega) hA q0 (by omega)).mono ?_⟩
    rintro r M3 _ ⟨rfl, hA3, hf3⟩
    have e3 := hf3.1 121 (by simp)
    have hG3 : GdO t n K1 M3 1 hl0 mo0 := ⟨hfn.ln.o.trans hf3.ln.o, hA3, 0, by omega, by rw [e3, e2]; exact hMF⟩
    simp only [wR, wB, wE0, wE1, wE2, wE3, g0, gS, s10, s11, s1S, s20, s21, s2S, kl0, kl1, kl2, kl3, sp0, sp1, sp2, sp3, cn1, cn2, cn3, cn4, cn5, cn6, jJa, lk0, lk1, jmS, jmN, s4_0, s4_1, s4_2, s4_3, s4_4, sw0, sw1, cKs, cKn, true_and, and_true, List.map_cons, List.map_nil, Nat.reduceAdd, Nat.zero_add, Int.reduceAdd, Nat.reduceEqDiff, reduceIte, Classical.not_not, b_Md_hall, shMd, Int.reduceEq, not_true_eq_false, not_false_eq_true, false_imp_iff, true_imp_iff, and_self]
    by_cases q1 : kin t n (pls t n (1)) = 1
    · rw [if_pos q1] at go
      have h2 := nxN (Or.inl hN) h1 q1 (by omega) (by omega)
      refine ⟨by omega, (c_Md_eats_yes (x := 1) (by omega) hA3 q1 (by omega)).mono ?_⟩
      rintro r M4 _ ⟨rfl, hA4, hf4⟩
      have e4 := hf4.1 121 (by simp)
      have hG4 : GdO t n K1 M4 2 hl0 mo0 := ⟨(hfn.ln.o.trans hf3.ln.o).trans hf4.ln.o, hA4, 0, by omega, by rw [e4, e3, e2]; exact hMF⟩
      simp only [wR, wB, wE0, wE1, wE2, wE3, g0, gS, s10, s11, s1S, s20, s21, s2S, kl0, kl1, kl2, kl3, sp0, sp1, sp2, sp3, cn1, cn2, cn3, cn4, cn5, cn6, jJa, lk0, lk1, jmS, jmN, s4_0, s4_1, s4_2, s4_3, s4_4, sw0, sw1, cKs, cKn, true_and, and_true, List.map_cons, List.map_nil, Nat.reduceAdd, Nat.zero_add, Int.reduceAdd, Nat.reduceEqDiff, reduceIte, Classical.not_not, b_Md_hall, shMd, Int.reduceEq, not_true_eq_false, not_false_eq_true, false_imp_iff, true_imp_iff, and_self]
      exact c_Md_hall_74g (by omega) n9 hF hG4 h2 go
    · rw [if_neg q1] at go
      refine ⟨by omega, MS.to (c_Md_eats_no (x := 1) (by omega) hA3 q1) fun _ => ?_⟩
      simp only [wR, wB, wE0, wE1, wE2, wE3, g0, gS, s10, s11, s1S, s20, s21, s2S, kl0, kl1, kl2, kl3, sp0, sp1, sp2, sp3, cn1, cn2, cn3, cn4, cn5, cn6, jJa, lk0, lk1, jmS, jmN, s4_0, s4_1, s4_2, s4_3, s4_4, sw0, sw1, cKs, cKn, true_and, and_true, List.map_cons, List.map_nil, Nat.reduceAdd, Nat.zero_add, Int.reduceAdd, Nat.reduceEqDiff, reduceIte, Classical.not_not, b_Md_hall, shMd, Int.reduceEq, not_true_eq_false, not_false_eq_true, false_imp_iff, true_imp_iff, and_self]
      exact c_Md_hall_69 (by omega) hG3 go
  · rw [if_neg q0] at go
    refine ⟨by omega, MS.to (c_Md_eats_no (x := 0) (by omega) hA q0) fun _ => ?_⟩
    simp only [wR, wB, wE0, wE1, wE2, wE3, g0, gS, s10, s11, s1S, s20, s21, s2S, kl0, kl1, kl2, kl3, sp0, sp1, sp2, sp3, cn1, cn2, cn3, cn4, cn5, cn6, jJa, lk0, lk1, jmS, jmN, s4_0, s4_1, s4_2, s4_3, s4_4, sw0, sw1, cKs, cKn, true_and, and_true, List.map_cons, List.map_nil, Nat.reduceAdd, Nat.zero_add, Int.reduceAdd, Nat.reduceEqDiff, reduceIte, Classical.not_not, b_Md_hall, shMd, Int.reduceEq, not_true_eq_false, not_false_eq_true, false_imp_iff, true_imp_iff, and_self]
    exact c_Md_hall_69 (by omega) hG go
theorem c_Md_hall {x : Int} {B : Nat} {σ : Sg} (hd : 64 ≤ d) (hF : 9010 ≤ F) (ok : SgOK B σ) (hR : MR M σ) : MS G d mi_Md_hall [vr 117, vi x] M (fun r M' => r = some (vi (aHall σ F x)) ∧ MR M' (sHall σ F x) ∧ Lo M M') := by
  unfold aHall sHall
  by_cases hx : 0 ≤ x ∧ x ≤ σ.tn
  · rw [if_pos hx, if_pos hx]
    generalize hn : x.toNat = n
    obtain rfl : x = (n : Int) := by omega
    have h9 := ok.1
    have n9 : n ≤ 900 := by omega
    have h5 : M 117 5 = σ.tn := hR.1.1
    have h5' : up M 117 0 0 117 5 = (σ.tn : Int) := by rw [up_ne2 (by omega)]; exact h5
    refine MS.run ck_Md_hall [some (vr 117), some (vi n), none] [22] 12 fun _ _ => ?_
    simp only [wR, wB, wE0, wE1, wE2, wE3, g0, gS, s10, s11, s1S, s20, s21, s2S, kl0, kl1, kl2, kl3, sp0, sp1, sp2, sp3, cn1, cn2, cn3, cn4, cn5, cn6, jJa, lk0, lk1, jmS, jmN, s4_0, s4_1, s4_2, s4_3, s4_4, sw0, sw1, cKs, cKn, true_and, and_true, List.map_cons, List.map_nil, Nat.reduceAdd, Nat.zero_add, Int.reduceAdd, Nat.reduceEqDiff, reduceIte, Classical.not_not, b_Md_hall, shMd, h5']
    refine ⟨by omega, MS.to c_Md_within fun _ => ?_⟩
    rw [if_pos hx]
    simp only [wR, wB, wE0, wE1, wE2, wE3, g0, gS, s10, s11, s1S, s20, s21, s2S, kl0, kl1, kl2, kl3, sp0, sp1, sp2, sp3, cn1, cn2, cn3, cn4, cn5, cn6, jJa, lk0, lk1, jmS, jmN, s4_0, s4_1, s4_2, s4_3, s4_4, sw0, sw1, cKs, cKn, true_and, and_true, List.map_cons, List.map_nil, Nat.reduceAdd, Nat.zero_add, Int.reduceAdd, Nat.reduceEqDiff, reduceIte, Classical.not_not, b_Md_hall, shMd, Int.reduceEq, not_true_eq_false, not_false_eq_true, false_imp_iff, true_imp_iff, and_self]
    refine c_Md_hall_22 (t := σ.tp) (F := F) hd n9 (by omega) rfl rfl (fun k hk => by rw [up_ne1 (by omega)]; exact hR.1.2 k (by omega)) ok.2.1 ?_
    generalize hK0 : up (up (up (up (up M 117 0 0) 117 8 (n : Int)) 117 5 0) 117 7 0) 117 11 0 = K0
    generalize hK1 : up (pln K0 121 1053) 121 2 1 = K1
    have f1 : ∀ x y : Int, x ≠ 121 → K1 x y = K0 x y := by
      intro x y hx
      rw [← hK1, up_ne1 hx]
      unfold pln
      rw [if_neg (fun q => hx q.1)]
    have f2 : ∀ x : Int, x ≠ 121 → x ≠ 117 → K1 x = M x := by
      intro x h1 h2
      funext y
      rw [f1 x y h1, ← hK0, up_ne1 h2, up_ne1 h2, up_ne1 h2, up_ne1 h2, up_ne1 h2]
    have k5 : K1 117 5 = 0 := by rw [f1 _ _ (by omega), ← hK0, up_ne2 (by omega), up_ne2 (by omega), up_eq]
    intro K hK
    cases e : HA σ.tp n F with
    | inl b =>
      obtain ⟨w, k⟩ := b
      rw [e] at hK
      have hb : BdO σ.tp n K1 K w k := hK
      obtain ⟨fr, b1, b2, b3⟩ := hb
      refine c_Md_hall_117b b1 (by unfold fkd; split <;> omega) ?_ b2 ?_
      · have := HA_sw w k e
        unfold fkd
        split <;> omega
      dsimp only
      generalize ((fkd (kin σ.tp n (pls σ.tp n k)) w : Nat) : Int) = fk
      generalize ((pls σ.tp n k : Nat) : Int) = fp
      have s : ∀ x : Int, x ≠ 117 → x ≠ 121 → up (up K 117 13 fk) 117 14 fp x = M x := by
        intro x h1 h2
        rw [up_z h1, up_z h1, fr.1 x (by simp only [List.mem_cons, List.not_mem_nil, or_false]; omega), f2 x h2 h1]
      refine ⟨rfl, ⟨⟨?_, fun k hk => absurd hk (by show ¬ k < 0; omega)⟩, ⟨?_, ?_⟩, ?_⟩, fun x hx => s x (by omega) (by omega)⟩
      · rw [up_ne2 (by omega), up_ne2 (by omega), fr.2 5 (by omega) (by omega) (by omega) (by omega) (by omega) (by omega) (by omega), k5]; rfl
      · rw [up_ne2 (by omega), up_eq]; rfl
      · rw [up_eq]; rfl
      · rw [s 118 (by omega) (by omega), s 119 (by omega) (by omega), s 135 (by omega) (by omega), s 136 (by omega) (by omega), s 137 (by omega) (by omega)]
        exact hR.2.2
    | inr g =>
      obtain ⟨k, h, m⟩ := g
      rw [e] at hK
      have hg : GdO σ.tp n K1 K k h m := hK
      have hkn := HA_go e
      have HKK := HA_K n9 e
      obtain ⟨fr, hA, c, hc, hM⟩ := hg
      refine c_Md_hall_117g hA.2.2 ⟨_, hM.1.1⟩ ?_
      obtain ⟨⟨v0, v1, v2⟩, v3, v4, ⟨v5, v6, v7⟩, v8, v9, v10⟩ := hM
      have s : ∀ x : Int, x ≠ 117 → x ≠ 118 → x ≠ 121 → cpF (up (up K 117 13 0) 117 14 (-1)) 1053 x = M x := by
        intro x h1 h3 h2
        funext y
        unfold cpF
        rw [if_neg (fun q => h3 q.1), up_ne1 h1, up_ne1 h1, fr.1 x (by simp only [List.mem_cons, List.not_mem_nil, or_false]; omega), f2 x h2 h1]
      have s7 : ∀ y : Int, cpF (up (up K 117 13 0) 117 14 (-1)) 1053 117 y = up (up K 117 13 0) 117 14 (-1) 117 y := by
        intro y
        unfold cpF
        rw [if_neg (by omega)]
      have c118 : ∀ y : Int, 0 ≤ y → y < 1053 → cpF (up (up K 117 13 0) 117 14 (-1)) 1053 118 y = K 121 y := by
        intro y h1 h2
        unfold cpF
        rw [if_pos ⟨rfl, h1, h2⟩, up_ne1 (by omega), up_ne1 (by omega)]
      have o118 : ∀ y : Int, 1053 ≤ y → cpF (up (up K 117 13 0) 117 14 (-1)) 1053 118 y = M 118 y := by
        intro y h1
        unfold cpF
        rw [if_neg (by omega), up_ne1 (by omega), up_ne1 (by omega), fr.1 118 (by simp), f2 118 (by omega) (by omega)]
      have z5 := s7 5
      have z13 := s7 13
      have z14 := s7 14
      rw [up_ne2 (by omega), up_ne2 (by omega), fr.2 5 (by omega) (by omega) (by omega) (by omega) (by omega) (by omega) (by omega), k5] at z5
      rw [up_ne2 (by omega), up_eq] at z13
      rw [up_eq] at z14
      have hP := HKK.1.1
      have mh : MH (K 121) h := ⟨v0, v1, v2, fun p hp => ⟨(v3 p hp).1, (v3 p hp).2.1⟩, v8.ml (by omega), v9.ml (by omega)⟩
      have mr : MRow (fun y => K 121 (19 + y)) h.P m := MRow19 (fun p hp => (v3 p hp).2.2.1) (fun p hp => (v3 p hp).2.2.2) v5 (by rw [v6, HKK.2.2]; rfl)
      obtain ⟨_, _, _, _, _, r6, r7⟩ := hR
      generalize cpF (up (up K 117 13 0) 117 14 (-1)) 1053 = N' at *
      refine ⟨by rw [v0], ⟨⟨z5, fun k hk => absurd hk (by show ¬ k < 0; omega)⟩, ⟨z13, z14⟩, mh.eq hP (fun y hy => c118 y (by omega) (by omega)), mr.eq hP (fun y h1 h2 => c118 _ (by omega) (by omega)), ⟨by rw [c118 31 (by omega) (by omega), v7]; rfl, fun i hi => absurd hi (by show ¬ i < 0; omega)⟩, ?_, ?_⟩, fun x hx => s x (by omega) (by omega) (by omega)⟩
      · rw [s 135 (by omega) (by omega) (by omega), s 136 (by omega) (by omega) (by omega), s 137 (by omega) (by omega) (by omega)]
        exact r6
      · intro i hi
        obtain ⟨x1, x2⟩ := r7 i hi
        rw [s 119 (by omega) (by omega) (by omega)]
        refine ⟨x1, fun x hx => ?_⟩
        obtain ⟨x3, x4⟩ := x2 x hx
        have ox := (ok.2.2.2.2.2.2.2 i x hi hx).1.1
        exact ⟨x3.eq ox (fun y hy => o118 _ (by omega)), x4.eq ox (fun y h1 h2 => o118 _ (by omega))⟩
  · rw [if_neg hx, if_neg hx]
    exact c_Md_hall_no (by omega) ok hR hx
end SK
