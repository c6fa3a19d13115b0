section WB
variable {G : AG} {d : Nat}
theorem lw_1340 {M : AM} {i : Int} : AW G d mi_Lw_law QL 1340 [some (vr (-50)), some (vr 0), some (vr 117), some (vi i)] [] M := by
  refine AW.runL [] 14 1340 ?_
  simp only [wR, wB, wE0, wE1, wE2, wE3, g0, gS, s10, s11, s1S, s20, s21, s2S, kl0, kl1, kl2, kl3, sp0, sp1, sp2, sp3, cn1, cn2, cn3, cn4, cn5, cn6, jJa, lk0, lk1, jmS, jmN, s4_0, s4_1, s4_2, s4_3, s4_4, sw0, sw1, cKs, cKn, true_and, and_true, List.map_cons, List.map_nil, Nat.reduceAdd, Nat.zero_add, Int.reduceAdd, Nat.reduceEqDiff, reduceIte, Classical.not_not, b_Lw_law, shH, shMd, Int.reduceEq, not_true_eq_false, not_false_eq_true, false_imp_iff, true_imp_iff, and_self]
  (repeat' (first | omega | (with_reducible exact True.intro) | exact ⟨by omega, by omega⟩ | (with_reducible exact Or.inr trivial) | (with_reducible exact Or.inl trivial) | (with_reducible assumption) | (with_reducible exact Same.refl) | (with_reducible rfl) | (with_reducible refine And.intro ?_ ?_) | (with_reducible intro _)))
  rfl
set_option maxRecDepth 20000 in
theorem lw_loop (hd : 90 ≤ d) (hL : G.2.2.2.2.1.2.1 ≤ 3072) : ∀ (q j : Nat) (M : AM) (σ : Sg), G.2.2.2.2.1.2.1 ≤ 6 * (j + q) → j ≤ 600 → SgOK (40 * j) σ → CR M σ → MR M σ → AW G d mi_Lw_law QL 18 [some (vr (-50)), some (vr 0), some (vr 117), some (vi ((6 * j : Nat) : Int))] [] M
  | 0, j, M, σ, hq, hj, ok, hR, hM => by
    have h1340 := lw_1340 (G := G) (d := d) (M := M) (i := ((6 * j : Nat) : Int))
    refine AW.runL [1340] 14 18 ?_
    simp only [wR, wB, wE0, wE1, wE2, wE3, g0, gS, s10, s11, s1S, s20, s21, s2S, kl0, kl1, kl2, kl3, sp0, sp1, sp2, sp3, cn1, cn2, cn3, cn4, cn5, cn6, jJa, lk0, lk1, jmS, jmN, s4_0, s4_1, s4_2, s4_3, s4_4, sw0, sw1, cKs, cKn, true_and, and_true, List.map_cons, List.map_nil, Nat.reduceAdd, Nat.zero_add, Int.reduceAdd, Nat.reduceEqDiff, reduceIte, Classical.not_not, b_Lw_law, shH, shMd, sc0]
    (repeat' (first | omega | (with_reducible exact True.intro) | exact ⟨by omega, by omega⟩ | (with_reducible exact Or.inr trivial) | (with_reducible exact Or.inl trivial) | (with_reducible assumption) | (with_reducible exact Same.refl) | (with_reducible rfl) | (with_reducible refine And.intro ?_ ?_) | (with_reducible intro _)))
  | q + 1, j, M, σ, hq, hj, ok, hR, hM => by
    have h1340 := lw_1340 (G := G) (d := d) (M := M) (i := ((6 * j : Nat) : Int))
    by_cases hi : 6 * j + 6 ≤ G.2.2.2.2.1.2.1
    case neg =>
      refine AW.runL [1340] 14 18 ?_
      simp only [wR, wB, wE0, wE1, wE2, wE3, g0, gS, s10, s11, s1S, s20, s21, s2S, kl0, kl1, kl2, kl3, sp0, sp1, sp2, sp3, cn1, cn2, cn3, cn4, cn5, cn6, jJa, lk0, lk1, jmS, jmN, s4_0, s4_1, s4_2, s4_3, s4_4, sw0, sw1, cKs, cKn, true_and, and_true, List.map_cons, List.map_nil, Nat.reduceAdd, Nat.zero_add, Int.reduceAdd, Nat.reduceEqDiff, reduceIte, Classical.not_not, b_Lw_law, shH, shMd, sc0]
      (repeat' (first | omega | (with_reducible exact True.intro) | exact ⟨by omega, by omega⟩ | (with_reducible exact Or.inr trivial) | (with_reducible exact Or.inl trivial) | (with_reducible assumption) | (with_reducible exact Same.refl) | (with_reducible rfl) | (with_reducible refine And.intro ?_ ?_) | (with_reducible intro _)))
    have go : ∀ (M' : AM) (σ' : Sg), SgOK (40 * j + 40) σ' → CR M' σ' → MR M' σ' → AW G d mi_Lw_law QL 1334 [some (vr (-50)), some (vr 0), some (vr 117), some (vi ((6 * j : Nat) : Int))] [] M' := by
      intro M' σ' ok' hR' hM'
      have h18 := lw_loop hd hL q (j + 1) M' σ' (by omega) (by omega) (by rw [show 40 * (j + 1) = 40 * j + 40 by omega]; exact ok') hR' hM'
      rw [show ((6 * (j + 1) : Nat) : Int) = ((6 * j : Nat) : Int) + 6 by omega] at h18
      refine AW.runL [18] 14 1334 ?_
      simp only [wR, wB, wE0, wE1, wE2, wE3, g0, gS, s10, s11, s1S, s20, s21, s2S, kl0, kl1, kl2, kl3, sp0, sp1, sp2, sp3, cn1, cn2, cn3, cn4, cn5, cn6, jJa, lk0, lk1, jmS, jmN, s4_0, s4_1, s4_2, s4_3, s4_4, sw0, sw1, cKs, cKn, true_and, and_true, List.map_cons, List.map_nil, Nat.reduceAdd, Nat.zero_add, Int.reduceAdd, Nat.reduceEqDiff, reduceIte, Classical.not_not, b_Lw_law, shH, shMd, Int.reduceEq, not_true_eq_false, not_false_eq_true, false_imp_iff, true_imp_iff, and_self]
      (repeat' (first | omega | (with_reducible exact True.intro) | exact ⟨by omega, by omega⟩ | (with_reducible exact Or.inr trivial) | (with_reducible exact Or.inl trivial) | (with_reducible assumption) | (with_reducible exact Same.refl) | (with_reducible rfl) | (with_reducible refine And.intro ?_ ?_) | (with_reducible intro _)))
    generalize hB : 40 * j = B at ok go
    generalize hii : 6 * j = i at hi go h1340
    have c204 := lw_c0 (G := G) (d := d) i B M σ hd hL hi (by omega) ok hR hM go
    have c267 := lw_c1 (G := G) (d := d) i B M σ hd hL hi (by omega) ok hR hM go
    have c290 := lw_c2 (G := G) (d := d) i B M σ hd hL hi (by omega) ok hR hM go
    have c313 := lw_c3 (G := G) (d := d) i B M σ hd hL hi (by omega) ok hR hM go
    have c346 := lw_c4 (G := G) (d := d) i B M σ hd hL hi (by omega) ok hR hM go
    have c379 := lw_c5 (G := G) (d := d) i B M σ hd hL hi (by omega) ok hR hM go
    have c412 := lw_c6 (G := G) (d := d) i B M σ hd hL hi (by omega) ok hR hM go
    have c435 := lw_c7 (G := G) (d := d) i B M σ hd hL hi (by omega) ok hR hM go
    have c458 := lw_c8 (G := G) (d := d) i B M σ hd hL hi (by omega) ok hR hM go
    have c481 := lw_c9 (G := G) (d := d) i B M σ hd hL hi (by omega) ok hR hM go
    have c504 := lw_c10 (G := G) (d := d) i B M σ hd hL hi (by omega) ok hR hM go
    have c527 := lw_c11 (G := G) (d := d) i B M σ hd hL hi (by omega) ok hR hM go
    have c560 := lw_c12 (G := G) (d := d) i B M σ hd hL hi (by omega) ok hR hM go
    have c583 := lw_c13 (G := G) (d := d) i B M σ hd hL hi (by omega) ok hR hM go
    have c616 := lw_c14 (G := G) (d := d) i B M σ hd hL hi (by omega) ok hR hM go
    have c639 := lw_c15 (G := G) (d := d) i B M σ hd hL hi (by omega) ok hR hM go
    have c672 := lw_c16 (G := G) (d := d) i B M σ hd hL hi (by omega) ok hR hM go
    have c706 := lw_c17 (G := G) (d := d) i B M σ hd hL hi (by omega) ok hR hM go
    have c739 := lw_c18 (G := G) (d := d) i B M σ hd hL hi (by omega) ok hR hM go
    have c772 := lw_c19 (G := G) (d := d) i B M σ hd hL hi (by omega) ok hR hM go
    have c785 := lw_c20 (G := G) (d := d) i B M σ hd hL hi (by omega) ok hR hM go
    have c808 := lw_c21 (G := G) (d := d) i B M σ hd hL hi (by omega) ok hR hM go
    have c841 := lw_c22 (G := G) (d := d) i B M σ hd hL hi (by omega) ok hR hM go
    have c854 := lw_c23 (G := G) (d := d) i B M σ hd hL hi (by omega) ok hR hM go
    have c867 := lw_c24 (G := G) (d := d) i B M σ hd hL hi (by omega) ok hR hM go
    have c880 := lw_c25 (G := G) (d := d) i B M σ hd hL hi (by omega) ok hR hM go
    have c893 := lw_c26 (G := G) (d := d) i B M σ hd hL hi (by omega) ok hR hM go
    have c917 := lw_c27 (G := G) (d := d) i B M σ hd hL hi (by omega) ok hR hM go
    have c950 := lw_c28 (G := G) (d := d) i B M σ hd hL hi (by omega) ok hR hM go
    have c973 := lw_c29 (G := G) (d := d) i B M σ hd hL hi (by omega) ok hR hM go
    have c1006 := lw_c30 (G := G) (d := d) i B M σ hd hL hi (by omega) ok hR hM go
    have c1039 := lw_c31 (G := G) (d := d) i B M σ hd hL hi (by omega) ok hR hM go
    have c1082 := lw_c32 (G := G) (d := d) i B M σ hd hL hi (by omega) ok hR hM go
    have c1115 := lw_c33 (G := G) (d := d) i B M σ hd hL hi (by omega) ok hR hM go
    have c1158 := lw_c34 (G := G) (d := d) i B M σ hd hL hi (by omega) ok hR hM go
    have c1232 := lw_c35 (G := G) (d := d) i B M σ hd hL hi (by omega) ok hR hM go
    have c1265 := lw_c36 (G := G) (d := d) i B M σ hd hL hi (by omega) ok hR hM go
    have c1288 := lw_c37 (G := G) (d := d) i B M σ hd hL hi (by omega) ok hR hM go
    have c1311 := lw_c38 (G := G) (d := d) i B M σ hd hL hi (by omega) ok hR hM go
    have h0 := ok.mono (B' := B + 40) (by omega)
    have c1334 := go M σ h0 hR hM
    generalize bAnd (G.2.2.2.2.1.2.2 (i : Int).toNat).toInt 63 = w
    refine AW.runL [204, 267, 290, 313, 346, 379, 412, 435, 458, 481, 504, 527, 560, 583, 616, 639, 672, 706, 739, 772, 785, 808, 841, 854, 867, 880, 893, 917, 950, 973, 1006, 1039, 1082, 1115, 1158, 1232, 1265, 1288, 1311, 1334, 1340] 14 18 ?_
    simp only [wR, wB, wE0, wE1, wE2, wE3, g0, gS, s10, s11, s1S, s20, s21, s2S, kl0, kl1, kl2, kl3, sp0, sp1, sp2, sp3, cn1, cn2, cn3, cn4, cn5, cn6, jJa, lk0, lk1, jmS, jmN, s4_0, s4_1, s4_2, s4_3, s4_4, sw0, sw1, cKs, cKn, true_and, and_true, List.map_cons, List.map_nil, Nat.reduceAdd, Nat.zero_add, Int.reduceAdd, Nat.reduceEqDiff, reduceIte, Classical.not_not, b_Lw_law, shH, shMd, sc0, List.length_cons, List.length_nil, Int.reduceLT, Int.reduceLE, nc3, nc5, nc10, nc39, or_self, or_false, false_or]
    sorry
end WB
