section SG
variable {G : AG} {d : Nat} {M N K : AM} {t : Nat → Nat} {n k w F : Nat} {h : Hl} {m : Mo}
theorem AtM.f15 {v : Int} (h : AtM M t n k) : AtM (up M 117 15 v) t n k := by
  obtain ⟨⟨a, b, c, e⟩, ⟨f, g, i, j⟩, l⟩ := h
  exact ⟨⟨by rw [up_ne2 (by omega)]; exact a, b, fun k hk => by rw [up_ne1 (by omega)]; exact c k hk, e⟩, ⟨by rw [up_ne2 (by omega)]; exact f, by rw [up_ne2 (by omega)]; exact g, fun q => by rw [up_ne2 (by omega)]; exact i q, fun q => by rw [up_ne2 (by omega)]; exact j q⟩, by rw [up_ne2 (by omega)]; exact l⟩
theorem FrN.f15 {v : Int} (h : FrN M N) : FrN M (up N 117 15 v) := by
  refine ⟨fun x hx => ?_, fun y a b e f i j l => by rw [up_ne2 (by omega)]; exact h.2.1 y a b e f i j l, by rw [up_ne1 (by omega)]; exact h.2.2⟩
  have : x ≠ 117 := fun e => hx (by simp [e])
  rw [← h.1 x hx]
  funext y
  exact up_ne1 this
theorem BdN.f15 {v : Int} (h : BdN t n M N w k) : BdN t n M (up N 117 15 v) w k := ⟨h.1.f15, by rw [up_ne2 (by omega)]; exact h.2.1, by rw [up_ne2 (by omega)]; exact h.2.2.1, h.2.2.2⟩
/-- a law's line -/
noncomputable def LIw (t : Nat → Nat) (n F k : Nat) (h : Hl) (m : Mo) (l : Nat) : Rz := if kin t n (pls t n (k + 1)) = 31 then (PR t n l F (5 * l) 0 (k + 2)).lz (fun k' cs => Rz.good k' (if l = 0 then h.sT cs else h.sC cs) m) else Rz.bad 2 (k + 1)
theorem LIw_0 : LIw t n F k h m 0 = LIt t n F k h m := by
  unfold LIw LIt
  simp only [Nat.mul_zero, if_true]
theorem LIw_1 : LIw t n F k h m 1 = LIc t n F k h m := by
  unfold LIw LIc
  simp only [Nat.mul_one, Nat.reduceEqDiff, if_false]
set_option maxRecDepth 20000 in
theorem c_Md_readLaw {c l : Nat} (hl : l ≤ 1) (hd : 60 ≤ d) (hA : AtM M t n k) (q8 : kin t n (pls t n (k)) = 8 + l) (hc : c ≤ k) (hF : MF (M 121) h m c h.P) (hP : h.P ≤ 5) (ok : okZ (LIw t n F k h m l)) : MS G d mi_Md_readLaw [vr 117, vi l] M (fun r M' => r = none ∧ PoL t n M M' (LIw t n F k h m l)) := by
  have n9 := hA.n9
  refine MS.by ck_Md_readLaw [some (vr 117), some (vi l), none] fun _ _ => ?_
  generalize hQ : (fun (r : Option AV) (M' : AM) => r = none ∧ PoL t n M M' (LIw t n F k h m l)) = Q
  have hq : ∀ M', PoL t n M M' (LIw t n F k h m l) → Q none M' := by
    intro M' h
    rw [← hQ]
    exact ⟨rfl, h⟩
  clear hQ
  unfold LIw at hq ok
  have f49 : ∀ (N : AM) (l2 : Option AV), N 117 11 ≠ 0 → Q none N → AW G d mi_Md_readLaw Q 49 [some (vr 117), some (vi l), l2] [] N := by
    intro N l2 hN H
    generalize hw : N 117 11 = w at hN
    refine AW.run ck_Md_readLaw [57] 12 49 ?_
    simp only [wR, wB, wE0, wE1, wE2, wE3, g0, gS, s10, s11, s1S, s20, s21, s2S, kl0, kl1, kl2, kl3, sp0, sp1, sp2, sp3, cn1, cn2, cn3, cn4, cn5, cn6, jJa, lk0, lk1, jmS, jmN, s4_0, s4_1, s4_2, s4_3, s4_4, sw0, sw1, cKs, cKn, true_and, and_true, List.map_cons, List.map_nil, Nat.reduceAdd, Nat.zero_add, Int.reduceAdd, Nat.reduceEqDiff, reduceIte, Classical.not_not, b_Md_readLaw, shMd, hw]
    (repeat' (first | omega | (with_reducible exact True.intro) | exact ⟨by omega, by omega⟩ | (with_reducible exact Or.inr trivial) | (with_reducible exact Or.inl trivial) | (with_reducible assumption) | (with_reducible exact Same.refl) | (with_reducible rfl) | (with_reducible refine And.intro ?_ ?_) | (with_reducible intro _)))
  have f18 : ∀ N : AM, N 117 11 ≠ 0 → Q none (up N 117 15 l) → AW G d mi_Md_readLaw Q 18 [some (vr 117), some (vi l), none] [] N := by
    intro N hN H
    have hN' : up N 117 15 (l : Int) 117 11 ≠ 0 := by rw [up_ne2 (by omega)]; exact hN
    rcases (show l = 0 ∨ l = 1 by omega) with rfl | rfl
    · refine AW.run ck_Md_readLaw [49] 12 18 ?_
      simp only [wR, wB, wE0, wE1, wE2, wE3, g0, gS, s10, s11, s1S, s20, s21, s2S, kl0, kl1, kl2, kl3, sp0, sp1, sp2, sp3, cn1, cn2, cn3, cn4, cn5, cn6, jJa, lk0, lk1, jmS, jmN, s4_0, s4_1, s4_2, s4_3, s4_4, sw0, sw1, cKs, cKn, true_and, and_true, List.map_cons, List.map_nil, Nat.reduceAdd, Nat.zero_add, Int.reduceAdd, Nat.reduceEqDiff, reduceIte, Classical.not_not, b_Md_readLaw, shMd, Int.reduceEq, not_true_eq_false, not_false_eq_true, false_imp_iff, true_imp_iff, and_self]
      (repeat' (first | omega | (with_reducible exact True.intro) | exact ⟨by omega, by omega⟩ | (with_reducible exact Or.inr trivial) | (with_reducible exact Or.inl trivial) | (with_reducible assumption) | (with_reducible exact Same.refl) | (with_reducible rfl) | (with_reducible refine And.intro ?_ ?_) | (with_reducible intro _)))
      refine MS.to (c_Md_readSum_f (by omega) hN') fun _ => ?_
      simp only [wR, wB, wE0, wE1, wE2, wE3, g0, gS, s10, s11, s1S, s20, s21, s2S, kl0, kl1, kl2, kl3, sp0, sp1, sp2, sp3, cn1, cn2, cn3, cn4, cn5, cn6, jJa, lk0, lk1, jmS, jmN, s4_0, s4_1, s4_2, s4_3, s4_4, sw0, sw1, cKs, cKn, true_and, and_true, List.map_cons, List.map_nil, Nat.reduceAdd, Nat.zero_add, Int.reduceAdd, Nat.reduceEqDiff, reduceIte, Classical.not_not, b_Md_readLaw, shMd, Int.reduceEq, not_true_eq_false, not_false_eq_true, false_imp_iff, true_imp_iff, and_self]
      exact f49 _ _ hN' H
    · refine AW.run ck_Md_readLaw [49] 12 18 ?_
      simp only [wR, wB, wE0, wE1, wE2, wE3, g0, gS, s10, s11, s1S, s20, s21, s2S, kl0, kl1, kl2, kl3, sp0, sp1, sp2, sp3, cn1, cn2, cn3, cn4, cn5, cn6, jJa, lk0, lk1, jmS, jmN, s4_0, s4_1, s4_2, s4_3, s4_4, sw0, sw1, cKs, cKn, true_and, and_true, List.map_cons, List.map_nil, Nat.reduceAdd, Nat.zero_add, Int.reduceAdd, Nat.reduceEqDiff, reduceIte, Classical.not_not, b_Md_readLaw, shMd, Int.reduceEq, not_true_eq_false, not_false_eq_true, false_imp_iff, true_imp_iff, and_self]
      (repeat' (first | omega | (with_reducible exact True.intro) | exact ⟨by omega, by omega⟩ | (with_reducible exact Or.inr trivial) | (with_reducible exact Or.inl trivial) | (with_reducible assumption) | (with_reducible exact Same.refl) | (with_reducible rfl) | (with_reducible refine And.intro ?_ ?_) | (with_reducible intro _)))
      refine MS.to (c_Md_readTruth_f (by omega) hN') fun _ => ?_
      simp only [wR, wB, wE0, wE1, wE2, wE3, g0, gS, s10, s11, s1S, s20, s21, s2S, kl0, kl1, kl2, kl3, sp0, sp1, sp2, sp3, cn1, cn2, cn3, cn4, cn5, cn6, jJa, lk0, lk1, jmS, jmN, s4_0, s4_1, s4_2, s4_3, s4_4, sw0, sw1, cKs, cKn, true_and, and_true, List.map_cons, List.map_nil, Nat.reduceAdd, Nat.zero_add, Int.reduceAdd, Nat.reduceEqDiff, reduceIte, Classical.not_not, b_Md_readLaw, shMd, Int.reduceEq, not_true_eq_false, not_false_eq_true, false_imp_iff, true_imp_iff, and_self]
      exact f49 _ _ hN' H
  refine AW.run ck_Md_readLaw [18] 12 0 ?_
  simp only [wR, wB, wE0, wE1, wE2, wE3, g0, gS, s10, s11, s1S, s20, s21, s2S, kl0, kl1, kl2, kl3, sp0, sp1, sp2, sp3, cn1, cn2, cn3, cn4, cn5, cn6, jJa, lk0, lk1, jmS, jmN, s4_0, s4_1, s4_2, s4_3, s4_4, sw0, sw1, cKs, cKn, true_and, and_true, List.map_cons, List.map_nil, Nat.reduceAdd, Nat.zero_add, Int.reduceAdd, Nat.reduceEqDiff, reduceIte, Classical.not_not, b_Md_readLaw, shMd]
  refine ⟨by omega, (c_Md_next_at (by omega) hA (by omega)).mono ?_⟩
  rintro r M1 _ ⟨rfl, hA1, hf1⟩
  have em1 := hf1.1 121 (by simp)
  simp only [wR, wB, wE0, wE1, wE2, wE3, g0, gS, s10, s11, s1S, s20, s21, s2S, kl0, kl1, kl2, kl3, sp0, sp1, sp2, sp3, cn1, cn2, cn3, cn4, cn5, cn6, jJa, lk0, lk1, jmS, jmN, s4_0, s4_1, s4_2, s4_3, s4_4, sw0, sw1, cKs, cKn, true_and, and_true, List.map_cons, List.map_nil, Nat.reduceAdd, Nat.zero_add, Int.reduceAdd, Nat.reduceEqDiff, reduceIte, Classical.not_not, b_Md_readLaw, shMd]
  by_cases q1 : kin t n (pls t n (k + 1)) = 31
  case neg =>
    rw [if_neg q1] at hq
    have hb := BdM.mk' (M := M1) (t := t) (n := n) (k := k + 1) FrM.refl (show 2 ≠ 0 by omega)
    have hfl := c_Md_fails (G := G) (d := d - 1) (w := 2) hA1
    generalize up (up M1 117 11 _) 117 12 _ = M9 at hb hfl
    refine ⟨by omega, MS.to (c_Md_eats_no (x := 31) (by omega) hA1 q1) fun _ => ?_⟩
    simp only [wR, wB, wE0, wE1, wE2, wE3, g0, gS, s10, s11, s1S, s20, s21, s2S, kl0, kl1, kl2, kl3, sp0, sp1, sp2, sp3, cn1, cn2, cn3, cn4, cn5, cn6, jJa, lk0, lk1, jmS, jmN, s4_0, s4_1, s4_2, s4_3, s4_4, sw0, sw1, cKs, cKn, true_and, and_true, List.map_cons, List.map_nil, Nat.reduceAdd, Nat.zero_add, Int.reduceAdd, Nat.reduceEqDiff, reduceIte, Classical.not_not, b_Md_readLaw, shMd, Int.reduceEq, not_true_eq_false, not_false_eq_true, false_imp_iff, true_imp_iff, and_self]
    refine ⟨by omega, MS.to hfl fun _ => ?_⟩
    simp only [wR, wB, wE0, wE1, wE2, wE3, g0, gS, s10, s11, s1S, s20, s21, s2S, kl0, kl1, kl2, kl3, sp0, sp1, sp2, sp3, cn1, cn2, cn3, cn4, cn5, cn6, jJa, lk0, lk1, jmS, jmN, s4_0, s4_1, s4_2, s4_3, s4_4, sw0, sw1, cKs, cKn, true_and, and_true, List.map_cons, List.map_nil, Nat.reduceAdd, Nat.zero_add, Int.reduceAdd, Nat.reduceEqDiff, reduceIte, Classical.not_not, b_Md_readLaw, shMd, Int.reduceEq, not_true_eq_false, not_false_eq_true, false_imp_iff, true_imp_iff, and_self]
    exact f18 _ hb.ne (hq _ (BdN.of hf1.ln hb.ln).f15.pl)
  rw [if_pos q1] at hq ok
  refine ⟨by omega, (c_Md_eats_yes (x := 31) (by omega) hA1 q1 (by omega)).mono ?_⟩
  rintro r M2 _ ⟨rfl, hA2, hf2⟩
  have em2 := hf2.1 121 (by simp)
  simp only [wR, wB, wE0, wE1, wE2, wE3, g0, gS, s10, s11, s1S, s20, s21, s2S, kl0, kl1, kl2, kl3, sp0, sp1, sp2, sp3, cn1, cn2, cn3, cn4, cn5, cn6, jJa, lk0, lk1, jmS, jmN, s4_0, s4_1, s4_2, s4_3, s4_4, sw0, sw1, cKs, cKn, true_and, and_true, List.map_cons, List.map_nil, Nat.reduceAdd, Nat.zero_add, Int.reduceAdd, Nat.reduceEqDiff, reduceIte, Classical.not_not, b_Md_readLaw, shMd, Int.reduceEq, not_true_eq_false, not_false_eq_true, false_imp_iff, true_imp_iff, and_self]
  have h152 : M2 121 152 = (c : Int) := by rw [em2, em1]; exact hF.2.2.2.2.2.2
  have hA3 := hA2.f15 (v := (l : Int))
  have e15 : up M2 117 15 (l : Int) 117 15 = (l : Int) := up_eq _ _ _ _
  have e152 : up M2 117 15 (l : Int) 121 152 = (c : Int) := by rw [up_ne1 (by omega)]; exact h152
  have em3 : up M2 117 15 (l : Int) 121 = M 121 := by rw [up_z (by omega), em2, em1]
  have fr3 : FrN M (up M2 117 15 (l : Int)) := (hf1.ln.trans hf2.ln).f15
  have okR' : okR (PR t n l F (5 * l) 0 (k + 2)) := by
    intro j e
    rw [e] at ok
    exact ok j rfl
  -- behind the law's reading
  have a49 : ∀ M4 : AM, PoM t n c (up M2 117 15 (l : Int)) M4 (PR t n l F (5 * l) 0 (k + 2)) → AW G d mi_Md_readLaw Q 49 [some (vr 117), some (vi l), some (vi c)] [] M4 := by
    intro M4 hp
    rcases rs_cases (PR t n l F (5 * l) 0 (k + 2)) with ⟨w, k1, hr⟩ | ⟨k1, cs, hr⟩
    · rw [hr] at hp hq
      exact f49 _ _ hp.bad.ne (hq _ (BdN.of fr3 hp.bad.ln).pl)
    · have hln := PR_ln _ _ _ _ (by omega) _ _ hr
      have hne : cs.length ≠ 0 := by
        rcases (show l = 0 ∨ l = 1 by omega) with rfl | rfl
        · exact (PR_wf hr (Or.inl ⟨rfl, rfl⟩)).2
        · exact (PR_wf hr (Or.inr ⟨rfl, rfl⟩)).2
      rw [hr] at hp hq
      obtain ⟨g1, g2, g3, g4, g5⟩ := hp.good
      have w0 := g2.2.2
      have hk1 : c + cs.length ≤ 900 := by
        have h2 := PR_go (by omega) hr
        have h3 := h2.2.1 (by omega)
        have h4 := kn_lt (h2.2.2 (k1 - 1) (by omega) (by omega)).1
        omega
      have x1 : up (up M4 121 (3 + (l : Int)) 1) 121 (5 + (l : Int)) (c : Int) 121 152 = ((c + cs.length : Nat) : Int) := by rw [up_ne2 (by omega), up_ne2 (by omega)]; exact g3
      have hq' := hq (up (up (up M4 121 (3 + (l : Int)) 1) 121 (5 + (l : Int)) (c : Int)) 121 (7 + (l : Int)) ((cs.length : Nat) : Int)) (GdN.pl (by
        refine ⟨(((fr3.trans g1.ln).code (by omega)).code (by omega)).code (by omega), ((g2.code rfl).code rfl).code rfl, c + cs.length, by omega, ?_⟩
        rw [up_stA, up_stA, up_stA]
        have := MF.law (A := M 121) (B := M4 121) (cs := cs) hl hne hP hF (fun y hy => by rw [g1.2.2 y hy, em3]) g3 (fun i hi => by rw [g4 i hi, em3]) g5
        rwa [show (if l = 0 then h.sT cs else h.sC cs).P = h.P by split <;> rfl]))
      refine AW.run ck_Md_readLaw [57] 12 49 ?_
      simp only [wR, wB, wE0, wE1, wE2, wE3, g0, gS, s10, s11, s1S, s20, s21, s2S, kl0, kl1, kl2, kl3, sp0, sp1, sp2, sp3, cn1, cn2, cn3, cn4, cn5, cn6, jJa, lk0, lk1, jmS, jmN, s4_0, s4_1, s4_2, s4_3, s4_4, sw0, sw1, cKs, cKn, true_and, and_true, List.map_cons, List.map_nil, Nat.reduceAdd, Nat.zero_add, Int.reduceAdd, Nat.reduceEqDiff, reduceIte, Classical.not_not, b_Md_readLaw, shMd, w0, Int.reduceEq, not_true_eq_false, not_false_eq_true, false_imp_iff, true_imp_iff, and_self]
      refine AW.run ck_Md_readLaw [] 12 57 ?_
      simp only [wR, wB, wE0, wE1, wE2, wE3, g0, gS, s10, s11, s1S, s20, s21, s2S, kl0, kl1, kl2, kl3, sp0, sp1, sp2, sp3, cn1, cn2, cn3, cn4, cn5, cn6, jJa, lk0, lk1, jmS, jmN, s4_0, s4_1, s4_2, s4_3, s4_4, sw0, sw1, cKs, cKn, true_and, and_true, List.map_cons, List.map_nil, Nat.reduceAdd, Nat.zero_add, Int.reduceAdd, Nat.reduceEqDiff, reduceIte, Classical.not_not, b_Md_readLaw, shMd, x1]
      rw [show ((c + cs.length : Nat) : Int) - (c : Int) = ((cs.length : Nat) : Int) by omega]
      (repeat' (first | omega | (with_reducible exact True.intro) | exact ⟨by omega, by omega⟩ | (with_reducible exact Or.inr trivial) | (with_reducible exact Or.inl trivial) | (with_reducible assumption) | (with_reducible exact Same.refl) | (with_reducible rfl) | (with_reducible refine And.intro ?_ ?_) | (with_reducible intro _)))
  have all := c_Md_readAll (G := G) (t := t) (n := n) (lw := l) F
  rcases (show l = 0 ∨ l = 1 by omega) with rfl | rfl
  · refine AW.run ck_Md_readLaw [49] 12 18 ?_
    simp only [wR, wB, wE0, wE1, wE2, wE3, g0, gS, s10, s11, s1S, s20, s21, s2S, kl0, kl1, kl2, kl3, sp0, sp1, sp2, sp3, cn1, cn2, cn3, cn4, cn5, cn6, jJa, lk0, lk1, jmS, jmN, s4_0, s4_1, s4_2, s4_3, s4_4, sw0, sw1, cKs, cKn, true_and, and_true, List.map_cons, List.map_nil, Nat.reduceAdd, Nat.zero_add, Int.reduceAdd, Nat.reduceEqDiff, reduceIte, Classical.not_not, b_Md_readLaw, shMd, h152, Int.reduceEq, not_true_eq_false, not_false_eq_true, false_imp_iff, true_imp_iff, and_self]
    (repeat' (first | omega | (with_reducible exact True.intro) | exact ⟨by omega, by omega⟩ | (with_reducible exact Or.inr trivial) | (with_reducible exact Or.inl trivial) | (with_reducible assumption) | (with_reducible exact Same.refl) | (with_reducible rfl) | (with_reducible refine And.intro ?_ ?_) | (with_reducible intro _)))
    refine (all.1 (d - 1) 0 (k + 2) c _ (by omega) (by omega) hA3 e15 e152 (by omega) okR').mono ?_
    rintro r M4 _ ⟨rfl, hp⟩
    simp only [wR, wB, wE0, wE1, wE2, wE3, g0, gS, s10, s11, s1S, s20, s21, s2S, kl0, kl1, kl2, kl3, sp0, sp1, sp2, sp3, cn1, cn2, cn3, cn4, cn5, cn6, jJa, lk0, lk1, jmS, jmN, s4_0, s4_1, s4_2, s4_3, s4_4, sw0, sw1, cKs, cKn, true_and, and_true, List.map_cons, List.map_nil, Nat.reduceAdd, Nat.zero_add, Int.reduceAdd, Nat.reduceEqDiff, reduceIte, Classical.not_not, b_Md_readLaw, shMd, Int.reduceEq, not_true_eq_false, not_false_eq_true, false_imp_iff, true_imp_iff, and_self]
    exact a49 _ hp
  · refine AW.run ck_Md_readLaw [49] 12 18 ?_
    simp only [wR, wB, wE0, wE1, wE2, wE3, g0, gS, s10, s11, s1S, s20, s21, s2S, kl0, kl1, kl2, kl3, sp0, sp1, sp2, sp3, cn1, cn2, cn3, cn4, cn5, cn6, jJa, lk0, lk1, jmS, jmN, s4_0, s4_1, s4_2, s4_3, s4_4, sw0, sw1, cKs, cKn, true_and, and_true, List.map_cons, List.map_nil, Nat.reduceAdd, Nat.zero_add, Int.reduceAdd, Nat.reduceEqDiff, reduceIte, Classical.not_not, b_Md_readLaw, shMd, h152, Int.reduceEq, not_true_eq_false, not_false_eq_true, false_imp_iff, true_imp_iff, and_self]
    (repeat' (first | omega | (with_reducible exact True.intro) | exact ⟨by omega, by omega⟩ | (with_reducible exact Or.inr trivial) | (with_reducible exact Or.inl trivial) | (with_reducible assumption) | (with_reducible exact Same.refl) | (with_reducible rfl) | (with_reducible refine And.intro ?_ ?_) | (with_reducible intro _)))
    refine (all.2.2.2.2.2.1 (d - 1) 0 (k + 2) c _ (by omega) (by omega) hA3 e15 e152 (by omega) okR').mono ?_
    rintro r M4 _ ⟨rfl, hp⟩
    simp only [wR, wB, wE0, wE1, wE2, wE3, g0, gS, s10, s11, s1S, s20, s21, s2S, kl0, kl1, kl2, kl3, sp0, sp1, sp2, sp3, cn1, cn2, cn3, cn4, cn5, cn6, jJa, lk0, lk1, jmS, jmN, s4_0, s4_1, s4_2, s4_3, s4_4, sw0, sw1, cKs, cKn, true_and, and_true, List.map_cons, List.map_nil, Nat.reduceAdd, Nat.zero_add, Int.reduceAdd, Nat.reduceEqDiff, reduceIte, Classical.not_not, b_Md_readLaw, shMd, Int.reduceEq, not_true_eq_false, not_false_eq_true, false_imp_iff, true_imp_iff, and_self]
    exact a49 _ hp
theorem c_Md_readLine {c : Nat} (hd : 61 ≤ d) (hA : AtM M t n k) (hc : c ≤ k) (hF : MF (M 121) h m c h.P) (hP : h.P ≤ 5) (ok : okZ (LI t n F k h m)) : MS G d mi_Md_readLine [vr 117] M (fun r M' => r = none ∧ PoL t n M M' (LI t n F k h m)) := by
  have h11 := hA.2.2
  have h9 := hA.2.1.2.1
  refine MS.by ck_Md_readLine [some (vr 117)] fun _ _ => ?_
  generalize hQ : (fun (r : Option AV) (M' : AM) => r = none ∧ PoL t n M M' (LI t n F k h m)) = Q
  have hq : ∀ M', PoL t n M M' (LI t n F k h m) → Q none M' := by
    intro M' h
    rw [← hQ]
    exact ⟨rfl, h⟩
  clear hQ
  unfold LI at hq ok
  have a0 : AW G d mi_Md_readLine Q 8 [some (vr 117)] [] M → AW G d mi_Md_readLine Q 0 [some (vr 117)] [] M := by
    intro H
    refine AW.run ck_Md_readLine [8] 12 0 ?_
    simp only [wR, wB, wE0, wE1, wE2, wE3, g0, gS, s10, s11, s1S, s20, s21, s2S, kl0, kl1, kl2, kl3, sp0, sp1, sp2, sp3, cn1, cn2, cn3, cn4, cn5, cn6, jJa, lk0, lk1, jmS, jmN, s4_0, s4_1, s4_2, s4_3, s4_4, sw0, sw1, cKs, cKn, true_and, and_true, List.map_cons, List.map_nil, Nat.reduceAdd, Nat.zero_add, Int.reduceAdd, Nat.reduceEqDiff, reduceIte, Classical.not_not, b_Md_readLine, shMd, h11, Int.reduceEq, not_true_eq_false, not_false_eq_true, false_imp_iff, true_imp_iff, and_self]
    exact H
  refine a0 ?_
  by_cases q2 : kin t n (pls t n (k)) = 2
  · rw [if_pos q2] at hq ok
    refine AW.run ck_Md_readLine [23] 12 8 ?_
    simp only [wR, wB, wE0, wE1, wE2, wE3, g0, gS, s10, s11, s1S, s20, s21, s2S, kl0, kl1, kl2, kl3, sp0, sp1, sp2, sp3, cn1, cn2, cn3, cn4, cn5, cn6, jJa, lk0, lk1, jmS, jmN, s4_0, s4_1, s4_2, s4_3, s4_4, sw0, sw1, cKs, cKn, true_and, and_true, List.map_cons, List.map_nil, Nat.reduceAdd, Nat.zero_add, Int.reduceAdd, Nat.reduceEqDiff, reduceIte, Classical.not_not, b_Md_readLine, shMd]
    refine ⟨by omega, MS.to (c_Md_is_yes (x := 2) hA q2) fun _ => ?_⟩
    simp only [wR, wB, wE0, wE1, wE2, wE3, g0, gS, s10, s11, s1S, s20, s21, s2S, kl0, kl1, kl2, kl3, sp0, sp1, sp2, sp3, cn1, cn2, cn3, cn4, cn5, cn6, jJa, lk0, lk1, jmS, jmN, s4_0, s4_1, s4_2, s4_3, s4_4, sw0, sw1, cKs, cKn, true_and, and_true, List.map_cons, List.map_nil, Nat.reduceAdd, Nat.zero_add, Int.reduceAdd, Nat.reduceEqDiff, reduceIte, Classical.not_not, b_Md_readLine, shMd, Int.reduceEq, not_true_eq_false, not_false_eq_true, false_imp_iff, true_imp_iff, and_self]
    refine ⟨by omega, (c_Md_readPerson (by omega) hA q2 hc hF hP ok).mono ?_⟩
    rintro r M1 _ ⟨rfl, hp⟩
    simp only [wR, wB, wE0, wE1, wE2, wE3, g0, gS, s10, s11, s1S, s20, s21, s2S, kl0, kl1, kl2, kl3, sp0, sp1, sp2, sp3, cn1, cn2, cn3, cn4, cn5, cn6, jJa, lk0, lk1, jmS, jmN, s4_0, s4_1, s4_2, s4_3, s4_4, sw0, sw1, cKs, cKn, true_and, and_true, List.map_cons, List.map_nil, Nat.reduceAdd, Nat.zero_add, Int.reduceAdd, Nat.reduceEqDiff, reduceIte, Classical.not_not, b_Md_readLine, shMd, Int.reduceEq, not_true_eq_false, not_false_eq_true, false_imp_iff, true_imp_iff, and_self]
    exact hq _ hp
  rw [if_neg q2] at hq ok
  have a23 : AW G d mi_Md_readLine Q 23 [some (vr 117)] [] M → AW G d mi_Md_readLine Q 8 [some (vr 117)] [] M := by
    intro H
    refine AW.run ck_Md_readLine [23] 12 8 ?_
    simp only [wR, wB, wE0, wE1, wE2, wE3, g0, gS, s10, s11, s1S, s20, s21, s2S, kl0, kl1, kl2, kl3, sp0, sp1, sp2, sp3, cn1, cn2, cn3, cn4, cn5, cn6, jJa, lk0, lk1, jmS, jmN, s4_0, s4_1, s4_2, s4_3, s4_4, sw0, sw1, cKs, cKn, true_and, and_true, List.map_cons, List.map_nil, Nat.reduceAdd, Nat.zero_add, Int.reduceAdd, Nat.reduceEqDiff, reduceIte, Classical.not_not, b_Md_readLine, shMd]
    refine ⟨by omega, MS.to (c_Md_is_no (x := 2) hA q2) fun _ => ?_⟩
    simp only [wR, wB, wE0, wE1, wE2, wE3, g0, gS, s10, s11, s1S, s20, s21, s2S, kl0, kl1, kl2, kl3, sp0, sp1, sp2, sp3, cn1, cn2, cn3, cn4, cn5, cn6, jJa, lk0, lk1, jmS, jmN, s4_0, s4_1, s4_2, s4_3, s4_4, sw0, sw1, cKs, cKn, true_and, and_true, List.map_cons, List.map_nil, Nat.reduceAdd, Nat.zero_add, Int.reduceAdd, Nat.reduceEqDiff, reduceIte, Classical.not_not, b_Md_readLine, shMd, Int.reduceEq, not_true_eq_false, not_false_eq_true, false_imp_iff, true_imp_iff, and_self]
    exact H
  refine a23 ?_
  by_cases q7 : kin t n (pls t n (k)) = 7
  · rw [if_pos q7] at hq ok
    refine AW.run ck_Md_readLine [49] 12 23 ?_
    simp only [wR, wB, wE0, wE1, wE2, wE3, g0, gS, s10, s11, s1S, s20, s21, s2S, kl0, kl1, kl2, kl3, sp0, sp1, sp2, sp3, cn1, cn2, cn3, cn4, cn5, cn6, jJa, lk0, lk1, jmS, jmN, s4_0, s4_1, s4_2, s4_3, s4_4, sw0, sw1, cKs, cKn, true_and, and_true, List.map_cons, List.map_nil, Nat.reduceAdd, Nat.zero_add, Int.reduceAdd, Nat.reduceEqDiff, reduceIte, Classical.not_not, b_Md_readLine, shMd]
    refine ⟨by omega, (c_Md_eats_yes (x := 7) (by omega) hA q7 (by omega)).mono ?_⟩
    rintro r M1 _ ⟨rfl, hA1, hf1⟩
    have em1 := hf1.1 121 (by simp)
    simp only [wR, wB, wE0, wE1, wE2, wE3, g0, gS, s10, s11, s1S, s20, s21, s2S, kl0, kl1, kl2, kl3, sp0, sp1, sp2, sp3, cn1, cn2, cn3, cn4, cn5, cn6, jJa, lk0, lk1, jmS, jmN, s4_0, s4_1, s4_2, s4_3, s4_4, sw0, sw1, cKs, cKn, true_and, and_true, List.map_cons, List.map_nil, Nat.reduceAdd, Nat.zero_add, Int.reduceAdd, Nat.reduceEqDiff, reduceIte, Classical.not_not, b_Md_readLine, shMd, Int.reduceEq, not_true_eq_false, not_false_eq_true, false_imp_iff, true_imp_iff, and_self]
    (repeat' (first | omega | (with_reducible exact True.intro) | exact ⟨by omega, by omega⟩ | (with_reducible exact Or.inr trivial) | (with_reducible exact Or.inl trivial) | (with_reducible assumption) | (with_reducible exact Same.refl) | (with_reducible rfl) | (with_reducible refine And.intro ?_ ?_) | (with_reducible intro _)))
    refine (c_Md_takes_z (most := 9) (g := fun x => Rz.good (k + 2) h (m.chill x)) (by omega) (by omega) hA1).mono ?_
    rintro r M2 _ ⟨x, rfl, hf2, em2, hx⟩
    simp only [wR, wB, wE0, wE1, wE2, wE3, g0, gS, s10, s11, s1S, s20, s21, s2S, kl0, kl1, kl2, kl3, sp0, sp1, sp2, sp3, cn1, cn2, cn3, cn4, cn5, cn6, jJa, lk0, lk1, jmS, jmN, s4_0, s4_1, s4_2, s4_3, s4_4, sw0, sw1, cKs, cKn, true_and, and_true, List.map_cons, List.map_nil, Nat.reduceAdd, Nat.zero_add, Int.reduceAdd, Nat.reduceEqDiff, reduceIte, Classical.not_not, b_Md_readLine, shMd, Int.reduceEq, not_true_eq_false, not_false_eq_true, false_imp_iff, true_imp_iff, and_self]
    (repeat' (first | omega | (with_reducible exact True.intro) | exact ⟨by omega, by omega⟩ | (with_reducible exact Or.inr trivial) | (with_reducible exact Or.inl trivial) | (with_reducible assumption) | (with_reducible exact Same.refl) | (with_reducible rfl) | (with_reducible refine And.intro ?_ ?_) | (with_reducible intro _)))
    rcases hx with ⟨y, rfl, hy, hz, hA2, _⟩ | ⟨w, hz, hb⟩
    · rw [hz] at hq
      refine hq _ (GdN.pl ?_)
      refine ⟨(hf1.ln.trans hf2.ln).code (by omega), hA2.code rfl, c, by omega, ?_⟩
      rw [up_stA, em2, em1]
      exact hF.cold hP
    · rw [hz] at hq
      exact hq _ ((BdN.of hf1.ln hb.ln).code (by omega)).pl
  rw [if_neg q7] at hq ok
  have a49 : AW G d mi_Md_readLine Q 49 [some (vr 117)] [] M → AW G d mi_Md_readLine Q 23 [some (vr 117)] [] M := by
    intro H
    refine AW.run ck_Md_readLine [49] 12 23 ?_
    simp only [wR, wB, wE0, wE1, wE2, wE3, g0, gS, s10, s11, s1S, s20, s21, s2S, kl0, kl1, kl2, kl3, sp0, sp1, sp2, sp3, cn1, cn2, cn3, cn4, cn5, cn6, jJa, lk0, lk1, jmS, jmN, s4_0, s4_1, s4_2, s4_3, s4_4, sw0, sw1, cKs, cKn, true_and, and_true, List.map_cons, List.map_nil, Nat.reduceAdd, Nat.zero_add, Int.reduceAdd, Nat.reduceEqDiff, reduceIte, Classical.not_not, b_Md_readLine, shMd]
    refine ⟨by omega, MS.to (c_Md_eats_no (x := 7) (by omega) hA q7) fun _ => ?_⟩
    simp only [wR, wB, wE0, wE1, wE2, wE3, g0, gS, s10, s11, s1S, s20, s21, s2S, kl0, kl1, kl2, kl3, sp0, sp1, sp2, sp3, cn1, cn2, cn3, cn4, cn5, cn6, jJa, lk0, lk1, jmS, jmN, s4_0, s4_1, s4_2, s4_3, s4_4, sw0, sw1, cKs, cKn, true_and, and_true, List.map_cons, List.map_nil, Nat.reduceAdd, Nat.zero_add, Int.reduceAdd, Nat.reduceEqDiff, reduceIte, Classical.not_not, b_Md_readLine, shMd, Int.reduceEq, not_true_eq_false, not_false_eq_true, false_imp_iff, true_imp_iff, and_self]
    exact H
  refine a49 ?_
  by_cases q8 : kin t n (pls t n (k)) = 8
  · rw [if_pos q8, ← LIw_0] at hq ok
    have hl := c_Md_readLaw (G := G) (d := d - 1) (l := 0) (by omega) (by omega) hA q8 hc hF hP ok
    rw [q8] at h9
    refine AW.run ck_Md_readLine [] 12 49 ?_
    simp only [wR, wB, wE0, wE1, wE2, wE3, g0, gS, s10, s11, s1S, s20, s21, s2S, kl0, kl1, kl2, kl3, sp0, sp1, sp2, sp3, cn1, cn2, cn3, cn4, cn5, cn6, jJa, lk0, lk1, jmS, jmN, s4_0, s4_1, s4_2, s4_3, s4_4, sw0, sw1, cKs, cKn, true_and, and_true, List.map_cons, List.map_nil, Nat.reduceAdd, Nat.zero_add, Int.reduceAdd, Nat.reduceEqDiff, reduceIte, Classical.not_not, b_Md_readLine, shMd]
    refine ⟨by omega, MS.to (c_Md_is_yes (x := 8) hA q8) fun _ => ?_⟩
    simp only [wR, wB, wE0, wE1, wE2, wE3, g0, gS, s10, s11, s1S, s20, s21, s2S, kl0, kl1, kl2, kl3, sp0, sp1, sp2, sp3, cn1, cn2, cn3, cn4, cn5, cn6, jJa, lk0, lk1, jmS, jmN, s4_0, s4_1, s4_2, s4_3, s4_4, sw0, sw1, cKs, cKn, true_and, and_true, List.map_cons, List.map_nil, Nat.reduceAdd, Nat.zero_add, Int.reduceAdd, Nat.reduceEqDiff, reduceIte, Classical.not_not, b_Md_readLine, shMd, Int.reduceEq, not_true_eq_false, not_false_eq_true, false_imp_iff, true_imp_iff, and_self, h9]
    (repeat' (first | omega | (with_reducible exact True.intro) | exact ⟨by omega, by omega⟩ | (with_reducible exact Or.inr trivial) | (with_reducible exact Or.inl trivial) | (with_reducible assumption) | (with_reducible exact Same.refl) | (with_reducible rfl) | (with_reducible refine And.intro ?_ ?_) | (with_reducible intro _)))
    refine hl.mono ?_
    rintro r M1 _ ⟨rfl, hp⟩
    simp only [wR, wB, wE0, wE1, wE2, wE3, g0, gS, s10, s11, s1S, s20, s21, s2S, kl0, kl1, kl2, kl3, sp0, sp1, sp2, sp3, cn1, cn2, cn3, cn4, cn5, cn6, jJa, lk0, lk1, jmS, jmN, s4_0, s4_1, s4_2, s4_3, s4_4, sw0, sw1, cKs, cKn, true_and, and_true, List.map_cons, List.map_nil, Nat.reduceAdd, Nat.zero_add, Int.reduceAdd, Nat.reduceEqDiff, reduceIte, Classical.not_not, b_Md_readLine, shMd, Int.reduceEq, not_true_eq_false, not_false_eq_true, false_imp_iff, true_imp_iff, and_self]
    exact hq _ hp
  rw [if_neg q8] at hq ok
  by_cases q9 : kin t n (pls t n (k)) = 9
  · rw [if_pos q9, ← LIw_1] at hq ok
    have hl := c_Md_readLaw (G := G) (d := d - 1) (l := 1) (by omega) (by omega) hA q9 hc hF hP ok
    rw [q9] at h9
    refine AW.run ck_Md_readLine [] 12 49 ?_
    simp only [wR, wB, wE0, wE1, wE2, wE3, g0, gS, s10, s11, s1S, s20, s21, s2S, kl0, kl1, kl2, kl3, sp0, sp1, sp2, sp3, cn1, cn2, cn3, cn4, cn5, cn6, jJa, lk0, lk1, jmS, jmN, s4_0, s4_1, s4_2, s4_3, s4_4, sw0, sw1, cKs, cKn, true_and, and_true, List.map_cons, List.map_nil, Nat.reduceAdd, Nat.zero_add, Int.reduceAdd, Nat.reduceEqDiff, reduceIte, Classical.not_not, b_Md_readLine, shMd]
    refine ⟨by omega, MS.to (c_Md_is_no (x := 8) hA q8) fun _ => ?_⟩
    simp only [wR, wB, wE0, wE1, wE2, wE3, g0, gS, s10, s11, s1S, s20, s21, s2S, kl0, kl1, kl2, kl3, sp0, sp1, sp2, sp3, cn1, cn2, cn3, cn4, cn5, cn6, jJa, lk0, lk1, jmS, jmN, s4_0, s4_1, s4_2, s4_3, s4_4, sw0, sw1, cKs, cKn, true_and, and_true, List.map_cons, List.map_nil, Nat.reduceAdd, Nat.zero_add, Int.reduceAdd, Nat.reduceEqDiff, reduceIte, Classical.not_not, b_Md_readLine, shMd, Int.reduceEq, not_true_eq_false, not_false_eq_true, false_imp_iff, true_imp_iff, and_self]
    refine ⟨by omega, MS.to (c_Md_is_yes (x := 9) hA q9) fun _ => ?_⟩
    simp only [wR, wB, wE0, wE1, wE2, wE3, g0, gS, s10, s11, s1S, s20, s21, s2S, kl0, kl1, kl2, kl3, sp0, sp1, sp2, sp3, cn1, cn2, cn3, cn4, cn5, cn6, jJa, lk0, lk1, jmS, jmN, s4_0, s4_1, s4_2, s4_3, s4_4, sw0, sw1, cKs, cKn, true_and, and_true, List.map_cons, List.map_nil, Nat.reduceAdd, Nat.zero_add, Int.reduceAdd, Nat.reduceEqDiff, reduceIte, Classical.not_not, b_Md_readLine, shMd, Int.reduceEq, not_true_eq_false, not_false_eq_true, false_imp_iff, true_imp_iff, and_self, h9]
    (repeat' (first | omega | (with_reducible exact True.intro) | exact ⟨by omega, by omega⟩ | (with_reducible exact Or.inr trivial) | (with_reducible exact Or.inl trivial) | (with_reducible assumption) | (with_reducible exact Same.refl) | (with_reducible rfl) | (with_reducible refine And.intro ?_ ?_) | (with_reducible intro _)))
    refine hl.mono ?_
    rintro r M1 _ ⟨rfl, hp⟩
    simp only [wR, wB, wE0, wE1, wE2, wE3, g0, gS, s10, s11, s1S, s20, s21, s2S, kl0, kl1, kl2, kl3, sp0, sp1, sp2, sp3, cn1, cn2, cn3, cn4, cn5, cn6, jJa, lk0, lk1, jmS, jmN, s4_0, s4_1, s4_2, s4_3, s4_4, sw0, sw1, cKs, cKn, true_and, and_true, List.map_cons, List.map_nil, Nat.reduceAdd, Nat.zero_add, Int.reduceAdd, Nat.reduceEqDiff, reduceIte, Classical.not_not, b_Md_readLine, shMd, Int.reduceEq, not_true_eq_false, not_false_eq_true, false_imp_iff, true_imp_iff, and_self]
    exact hq _ hp
  · rw [if_neg q9] at hq
    have hb := BdM.mk' (M := M) (t := t) (n := n) (k := k) FrM.refl (show 2 ≠ 0 by omega)
    refine AW.run ck_Md_readLine [67, 81] 12 49 ?_
    simp only [wR, wB, wE0, wE1, wE2, wE3, g0, gS, s10, s11, s1S, s20, s21, s2S, kl0, kl1, kl2, kl3, sp0, sp1, sp2, sp3, cn1, cn2, cn3, cn4, cn5, cn6, jJa, lk0, lk1, jmS, jmN, s4_0, s4_1, s4_2, s4_3, s4_4, sw0, sw1, cKs, cKn, true_and, and_true, List.map_cons, List.map_nil, Nat.reduceAdd, Nat.zero_add, Int.reduceAdd, Nat.reduceEqDiff, reduceIte, Classical.not_not, b_Md_readLine, shMd]
    refine ⟨by omega, MS.to (c_Md_is_no (x := 8) hA q8) fun _ => ?_⟩
    simp only [wR, wB, wE0, wE1, wE2, wE3, g0, gS, s10, s11, s1S, s20, s21, s2S, kl0, kl1, kl2, kl3, sp0, sp1, sp2, sp3, cn1, cn2, cn3, cn4, cn5, cn6, jJa, lk0, lk1, jmS, jmN, s4_0, s4_1, s4_2, s4_3, s4_4, sw0, sw1, cKs, cKn, true_and, and_true, List.map_cons, List.map_nil, Nat.reduceAdd, Nat.zero_add, Int.reduceAdd, Nat.reduceEqDiff, reduceIte, Classical.not_not, b_Md_readLine, shMd, Int.reduceEq, not_true_eq_false, not_false_eq_true, false_imp_iff, true_imp_iff, and_self]
    refine ⟨by omega, MS.to (c_Md_is_no (x := 9) hA q9) fun _ => ?_⟩
    simp only [wR, wB, wE0, wE1, wE2, wE3, g0, gS, s10, s11, s1S, s20, s21, s2S, kl0, kl1, kl2, kl3, sp0, sp1, sp2, sp3, cn1, cn2, cn3, cn4, cn5, cn6, jJa, lk0, lk1, jmS, jmN, s4_0, s4_1, s4_2, s4_3, s4_4, sw0, sw1, cKs, cKn, true_and, and_true, List.map_cons, List.map_nil, Nat.reduceAdd, Nat.zero_add, Int.reduceAdd, Nat.reduceEqDiff, reduceIte, Classical.not_not, b_Md_readLine, shMd, Int.reduceEq, not_true_eq_false, not_false_eq_true, false_imp_iff, true_imp_iff, and_self]
    refine AW.run ck_Md_readLine [] 12 81 ?_
    simp only [wR, wB, wE0, wE1, wE2, wE3, g0, gS, s10, s11, s1S, s20, s21, s2S, kl0, kl1, kl2, kl3, sp0, sp1, sp2, sp3, cn1, cn2, cn3, cn4, cn5, cn6, jJa, lk0, lk1, jmS, jmN, s4_0, s4_1, s4_2, s4_3, s4_4, sw0, sw1, cKs, cKn, true_and, and_true, List.map_cons, List.map_nil, Nat.reduceAdd, Nat.zero_add, Int.reduceAdd, Nat.reduceEqDiff, reduceIte, Classical.not_not, b_Md_readLine, shMd]
    refine ⟨by omega, MS.to (c_Md_fails hA) fun _ => ?_⟩
    simp only [wR, wB, wE0, wE1, wE2, wE3, g0, gS, s10, s11, s1S, s20, s21, s2S, kl0, kl1, kl2, kl3, sp0, sp1, sp2, sp3, cn1, cn2, cn3, cn4, cn5, cn6, jJa, lk0, lk1, jmS, jmN, s4_0, s4_1, s4_2, s4_3, s4_4, sw0, sw1, cKs, cKn, true_and, and_true, List.map_cons, List.map_nil, Nat.reduceAdd, Nat.zero_add, Int.reduceAdd, Nat.reduceEqDiff, reduceIte, Classical.not_not, b_Md_readLine, shMd, Int.reduceEq, not_true_eq_false, not_false_eq_true, false_imp_iff, true_imp_iff, and_self]
    exact hq _ hb.ln.pl
end SG
