def aCount (σ : Sg) (w : Int) : Int := if w = 0 then σ.h.P else if w = 1 then σ.h.must else if w = 2 then sdB σ.m.sd σ.h.P else if w = 3 then sumN σ.m.st σ.h.P else if w = 4 then ablM σ.h.P σ.m.st else if w = 5 then σ.m.cold else if w = 6 then σ.m.hrs else if w = 7 then σ.np else if w = 8 then σ.tn else if w = 9 then σ.h.lines else -1
theorem aCount_out {σ : Sg} {w : Int} (h : w < 0 ∨ 10 ≤ w) : aCount σ w = -1 := by
  unfold aCount
  rw [if_neg (by omega), if_neg (by omega), if_neg (by omega), if_neg (by omega), if_neg (by omega), if_neg (by omega), if_neg (by omega), if_neg (by omega), if_neg (by omega), if_neg (by omega)]
section IN
variable {G : AG} {d : Nat} {M : AM}
set_option maxRecDepth 20000 in
theorem c_Md_image {i : Int} {B : Nat} {σ : Sg} (hd : 8 ≤ d) (ok : SgOK B σ) (hR : MR M σ) : MS G d mi_Md_image [vr 117, vi i] M (fun r M' => r = some (vi (aImage i)) ∧ MR M' (sImage σ i) ∧ Lo M M') := by
  have hR' := hR.thr
  have hP := ok.2.2.1.1
  refine MS.by ck_Md_image [some (vr 117), some (vi i), none] fun _ _ => ?_
  unfold aImage sImage
  generalize hQ : (fun (r : Option AV) (M' : AM) => r = some (vi (if 0 ≤ i ∧ i < 2 then 0 else -2)) ∧ MR M' (if 0 ≤ i ∧ i < 2 then σ.setIm i.toNat (σ.h, σ.m) else σ) ∧ Lo M M') = Q
  refine AW.run ck_Md_image [18] 10 0 ?_
  simp only [wR, wB, wE0, wE1, wE2, wE3, g0, gS, s10, s11, s1S, s20, s21, s2S, kl0, kl1, kl2, kl3, sp0, sp1, sp2, sp3, cn1, cn2, cn3, cn4, cn5, cn6, jJa, lk0, lk1, jmS, jmN, s4_0, s4_1, s4_2, s4_3, s4_4, sw0, sw1, cKs, cKn, true_and, and_true, List.map_cons, List.map_nil, Nat.reduceAdd, Nat.zero_add, Int.reduceAdd, Nat.reduceEqDiff, reduceIte, Classical.not_not, b_Md_image, shMd]
  have hlo : Lo M (up M 117 0 0) := thr_lo
  generalize up M 117 0 0 = N at hR' hlo ⊢
  refine ⟨by omega, MS.to c_Md_within fun _ => ?_⟩
  by_cases q : 0 ≤ i ∧ i < 2
  · obtain ⟨n, rfl⟩ := Int.eq_ofNat_of_zero_le q.1
    have hn : n < 2 := by omega
    rw [if_pos (by omega)]
    simp only [wR, wB, wE0, wE1, wE2, wE3, g0, gS, s10, s11, s1S, s20, s21, s2S, kl0, kl1, kl2, kl3, sp0, sp1, sp2, sp3, cn1, cn2, cn3, cn4, cn5, cn6, jJa, lk0, lk1, jmS, jmN, s4_0, s4_1, s4_2, s4_3, s4_4, sw0, sw1, cKs, cKn, true_and, and_true, List.map_cons, List.map_nil, Nat.reduceAdd, Nat.zero_add, Int.reduceAdd, Nat.reduceEqDiff, reduceIte, Classical.not_not, b_Md_image, shMd, up_rd, Int.reduceEq, and_false, false_and, and_self, reduceIte, not_true_eq_false, not_false_eq_true, false_imp_iff, true_imp_iff, true_or, or_true]
    have loop : ∀ (r j : Nat), j + r = 1053 → AW G d mi_Md_image Q 20 [some (vr 117), some (vi n), some (vi j)] [] (cpy N 118 0 118 (1053 * ((n : Int) + 1)) j) := by
      intro r
      induction r with
      | zero =>
        intro j hj
        obtain ⟨a, b, c, e, f, g, im⟩ := id hR'
        refine AW.run ck_Md_image [20] 10 20 ?_
        simp only [wR, wB, wE0, wE1, wE2, wE3, g0, gS, s10, s11, s1S, s20, s21, s2S, kl0, kl1, kl2, kl3, sp0, sp1, sp2, sp3, cn1, cn2, cn3, cn4, cn5, cn6, jJa, lk0, lk1, jmS, jmN, s4_0, s4_1, s4_2, s4_3, s4_4, sw0, sw1, cKs, cKn, true_and, and_true, List.map_cons, List.map_nil, Nat.reduceAdd, Nat.zero_add, Int.reduceAdd, Nat.reduceEqDiff, reduceIte, Classical.not_not, b_Md_image, shMd]
        rw [show (j : Int) = 1053 by omega]
        have hx : ∀ x : Int, x ≠ 118 → x ≠ 119 → up (cpy N 118 0 118 (1053 * ((n : Int) + 1)) 1053) 119 n 1 x = N x := fun x h1 h2 => by funext y; rw [up_ne1 h2, cpy_at (by omega)]
        have h118 : ∀ y : Int, (y < 1053 * ((n : Int) + 1) ∨ 1053 * ((n : Int) + 2) ≤ y) → up (cpy N 118 0 118 (1053 * ((n : Int) + 1)) 1053) 119 n 1 118 y = N 118 y := fun y hy => by rw [up_ne1 (by omega), cpy_at (by omega)]
        have h118' : ∀ y : Int, 0 ≤ y → y < 1053 → up (cpy N 118 0 118 (1053 * ((n : Int) + 1)) 1053) 119 n 1 118 (1053 * ((n : Int) + 1) + y) = N 118 y := fun y y0 y1 => by rw [up_ne1 (by omega), cpy_in y0 y1, Int.zero_add]
        have h119 : ∀ k : Nat, up (cpy N 118 0 118 (1053 * ((n : Int) + 1)) 1053) 119 n 1 119 k = if k = n then 1 else N 119 k := fun k => by
          by_cases e : k = n
          · subst e; rw [up_eq, if_pos rfl]
          · rw [up_ne2 (by omega), if_neg e, cpy_at (by omega)]
        generalize up (cpy N 118 0 118 (1053 * ((n : Int) + 1)) 1053) 119 n 1 = K at hx h118 h118' h119 ⊢
        have c1 : MR K (σ.setIm n (σ.h, σ.m)) := by
          refine ⟨by rw [hx 117 (by omega) (by omega), hx 120 (by omega) (by omega)]; exact a, by rw [hx 117 (by omega) (by omega)]; exact b, c.eq hP (fun y hy => h118 y (by omega)), e.eq hP (fun y y0 y1 => h118 _ (by omega)), MPast.eq (A := N 118) f hP ok.2.2.2.2.1 (fun y y0 y1 => h118 _ (by omega)), by rw [hx 135 (by omega) (by omega), hx 136 (by omega) (by omega), hx 137 (by omega) (by omega)]; exact g, fun k hk => ?_⟩
          obtain ⟨m1, m2⟩ := im k hk
          rw [h119]
          show (if k = n then (1 : Int) else N 119 k) = (if (if k = n then some (σ.h, σ.m) else σ.im k).isSome = true then 1 else 0) ∧ ∀ x, (if k = n then some (σ.h, σ.m) else σ.im k) = some x → _
          by_cases q2 : k = n
          · subst q2
            rw [if_pos rfl, if_pos rfl]
            refine ⟨rfl, fun x hx' => ?_⟩
            cases hx'
            refine ⟨c.eq hP (fun y hy => h118' y (by omega) (by omega)), e.eq hP (fun y y0 y1 => ?_)⟩
            exact h118' (19 + y) (by omega) (by omega)
          · rw [if_neg q2, if_neg q2]
            refine ⟨m1, fun x hx' => ?_⟩
            obtain ⟨u, v⟩ := m2 x hx'
            have hx5 := ok.im5 k x hk hx'
            exact ⟨u.eq hx5 (fun y hy => h118 _ (by omega)), v.eq hx5 (fun y y0 y1 => h118 _ (by omega))⟩
        have c2 : Lo M K := hlo.trans (fun x hx' => hx x (by omega) (by omega))
        subst hQ
        rw [if_pos q, if_pos q, Int.toNat_natCast]
        (repeat' (first | omega | exact ⟨by omega, by omega⟩ | (with_reducible exact Or.inr trivial) | (with_reducible exact Or.inl trivial) | (with_reducible assumption) | (with_reducible exact Same.refl) | (with_reducible rfl) | (with_reducible refine And.intro ?_ ?_) | (with_reducible intro _)))
      | succ r ih =>
        intro j hj
        have key := ih (j + 1) (by omega)
        rw [show ((j + 1 : Nat) : Int) = (j : Int) + 1 by omega] at key
        have e1 : cpy N 118 0 118 (1053 * ((n : Int) + 1)) j 118 (j : Int) = N 118 (j : Int) := cpy_at (by omega)
        have e2 := cpy_s (M := N) (a := 118) (sp := 0) (b := 118) (dp := 1053 * ((n : Int) + 1)) (i := j) (by omega)
        rw [Int.zero_add] at e2
        refine AW.run ck_Md_image [20] 10 20 ?_
        simp only [wR, wB, wE0, wE1, wE2, wE3, g0, gS, s10, s11, s1S, s20, s21, s2S, kl0, kl1, kl2, kl3, sp0, sp1, sp2, sp3, cn1, cn2, cn3, cn4, cn5, cn6, jJa, lk0, lk1, jmS, jmN, s4_0, s4_1, s4_2, s4_3, s4_4, sw0, sw1, cKs, cKn, true_and, and_true, List.map_cons, List.map_nil, Nat.reduceAdd, Nat.zero_add, Int.reduceAdd, Nat.reduceEqDiff, reduceIte, Classical.not_not, b_Md_image, shMd, e1, e2]
        (repeat' (first | omega | exact ⟨by omega, by omega⟩ | (with_reducible exact Or.inr trivial) | (with_reducible exact Or.inl trivial) | (with_reducible assumption) | (with_reducible exact Same.refl) | (with_reducible rfl) | (with_reducible refine And.intro ?_ ?_) | (with_reducible intro _)))
    refine AW.run ck_Md_image [20] 10 18 ?_
    simp only [wR, wB, wE0, wE1, wE2, wE3, g0, gS, s10, s11, s1S, s20, s21, s2S, kl0, kl1, kl2, kl3, sp0, sp1, sp2, sp3, cn1, cn2, cn3, cn4, cn5, cn6, jJa, lk0, lk1, jmS, jmN, s4_0, s4_1, s4_2, s4_3, s4_4, sw0, sw1, cKs, cKn, true_and, and_true, List.map_cons, List.map_nil, Nat.reduceAdd, Nat.zero_add, Int.reduceAdd, Nat.reduceEqDiff, reduceIte, Classical.not_not, b_Md_image, shMd]
    have := loop 1053 0 (by omega)
    rwa [show ((0 : Nat) : Int) = 0 from rfl, cpy_0] at this
  · rw [if_neg (by omega)]
    simp only [wR, wB, wE0, wE1, wE2, wE3, g0, gS, s10, s11, s1S, s20, s21, s2S, kl0, kl1, kl2, kl3, sp0, sp1, sp2, sp3, cn1, cn2, cn3, cn4, cn5, cn6, jJa, lk0, lk1, jmS, jmN, s4_0, s4_1, s4_2, s4_3, s4_4, sw0, sw1, cKs, cKn, true_and, and_true, List.map_cons, List.map_nil, Nat.reduceAdd, Nat.zero_add, Int.reduceAdd, Nat.reduceEqDiff, reduceIte, Classical.not_not, b_Md_image, shMd, up_rd, Int.reduceEq, and_false, false_and, and_self, reduceIte, not_true_eq_false, not_false_eq_true, false_imp_iff, true_imp_iff, true_or, or_true]
    subst hQ
    rw [if_neg q, if_neg q]
    exact ⟨rfl, hR', hlo⟩
set_option maxRecDepth 20000 in
theorem c_Md_restore {i : Int} {B : Nat} {σ : Sg} (hd : 8 ≤ d) (ok : SgOK B σ) (hR : MR M σ) : MS G d mi_Md_restore [vr 117, vi i] M (fun r M' => r = some (vi (aRestore σ i)) ∧ MR M' (sRestore σ i) ∧ Lo M M') := by
  have hR' := hR.thr
  refine MS.by ck_Md_restore [some (vr 117), some (vi i), none] fun _ _ => ?_
  generalize hQ : (fun (r : Option AV) (M' : AM) => r = some (vi (aRestore σ i)) ∧ MR M' (sRestore σ i) ∧ Lo M M') = Q
  refine AW.run ck_Md_restore [18] 10 0 ?_
  simp only [wR, wB, wE0, wE1, wE2, wE3, g0, gS, s10, s11, s1S, s20, s21, s2S, kl0, kl1, kl2, kl3, sp0, sp1, sp2, sp3, cn1, cn2, cn3, cn4, cn5, cn6, jJa, lk0, lk1, jmS, jmN, s4_0, s4_1, s4_2, s4_3, s4_4, sw0, sw1, cKs, cKn, true_and, and_true, List.map_cons, List.map_nil, Nat.reduceAdd, Nat.zero_add, Int.reduceAdd, Nat.reduceEqDiff, reduceIte, Classical.not_not, b_Md_restore, shMd]
  have hlo : Lo M (up M 117 0 0) := thr_lo
  generalize up M 117 0 0 = N at hR' hlo ⊢
  refine ⟨by omega, MS.to c_Md_within fun _ => ?_⟩
  by_cases q : 0 ≤ i ∧ i < 2
  · obtain ⟨n, rfl⟩ := Int.eq_ofNat_of_zero_le q.1
    have hn : n < 2 := by omega
    obtain ⟨a, b, c, e, f, g, im⟩ := id hR'
    obtain ⟨m1, m2⟩ := im n hn
    rw [if_pos (by omega)]
    simp only [wR, wB, wE0, wE1, wE2, wE3, g0, gS, s10, s11, s1S, s20, s21, s2S, kl0, kl1, kl2, kl3, sp0, sp1, sp2, sp3, cn1, cn2, cn3, cn4, cn5, cn6, jJa, lk0, lk1, jmS, jmN, s4_0, s4_1, s4_2, s4_3, s4_4, sw0, sw1, cKs, cKn, true_and, and_true, List.map_cons, List.map_nil, Nat.reduceAdd, Nat.zero_add, Int.reduceAdd, Nat.reduceEqDiff, reduceIte, Classical.not_not, b_Md_restore, shMd, up_rd, Int.reduceEq, and_false, false_and, and_self, reduceIte, not_true_eq_false, not_false_eq_true, false_imp_iff, true_imp_iff, true_or, or_true]
    refine AW.run ck_Md_restore [30] 10 18 ?_
    simp only [wR, wB, wE0, wE1, wE2, wE3, g0, gS, s10, s11, s1S, s20, s21, s2S, kl0, kl1, kl2, kl3, sp0, sp1, sp2, sp3, cn1, cn2, cn3, cn4, cn5, cn6, jJa, lk0, lk1, jmS, jmN, s4_0, s4_1, s4_2, s4_3, s4_4, sw0, sw1, cKs, cKn, true_and, and_true, List.map_cons, List.map_nil, Nat.reduceAdd, Nat.zero_add, Int.reduceAdd, Nat.reduceEqDiff, reduceIte, Classical.not_not, b_Md_restore, shMd, m1]
    cases hx : σ.im n with
    | none =>
      simp only [Option.isSome_none, Bool.false_eq_true, if_false, not_true_eq_false, false_imp_iff, true_imp_iff, true_and, and_true]
      rw [(rest_none hn hx).1, (rest_none hn hx).2] at hQ
      subst hQ
      exact ⟨by omega, rfl, hR', hlo⟩
    | some x =>
      simp only [Option.isSome_some, if_true]
      rw [(rest_some hn hx).1, (rest_some hn hx).2] at hQ
      obtain ⟨u, v⟩ := m2 x hx
      have hx5 := ok.im5 n x hn hx
      (repeat' (first | omega | exact ⟨by omega, by omega⟩ | (with_reducible exact Or.inr trivial) | (with_reducible exact Or.inl trivial) | (with_reducible assumption) | (with_reducible exact Same.refl) | (with_reducible rfl) | (with_reducible refine And.intro ?_ ?_) | (with_reducible intro _)))
      have loop : ∀ (r j : Nat), j + r = 1053 → AW G d mi_Md_restore Q 32 [some (vr 117), some (vi n), some (vi j)] [] (cpy N 118 (1053 * ((n : Int) + 1)) 118 0 j) := by
        intro r
        induction r with
        | zero =>
          intro j hj
          refine AW.run ck_Md_restore [32] 10 32 ?_
          simp only [wR, wB, wE0, wE1, wE2, wE3, g0, gS, s10, s11, s1S, s20, s21, s2S, kl0, kl1, kl2, kl3, sp0, sp1, sp2, sp3, cn1, cn2, cn3, cn4, cn5, cn6, jJa, lk0, lk1, jmS, jmN, s4_0, s4_1, s4_2, s4_3, s4_4, sw0, sw1, cKs, cKn, true_and, and_true, List.map_cons, List.map_nil, Nat.reduceAdd, Nat.zero_add, Int.reduceAdd, Nat.reduceEqDiff, reduceIte, Classical.not_not, b_Md_restore, shMd]
          rw [show (j : Int) = 1053 by omega]
          have hxx : ∀ x : Int, x ≠ 118 → up (cpy N 118 (1053 * ((n : Int) + 1)) 118 0 1053) 118 31 0 x = N x := fun x h1 => by funext y; rw [up_ne1 h1, cpy_at (by omega)]
          have h118 : ∀ y : Int, 1053 ≤ y → up (cpy N 118 (1053 * ((n : Int) + 1)) 118 0 1053) 118 31 0 118 y = N 118 y := fun y hy => by rw [up_ne2 (by omega), cpy_at (by omega)]
          have h118' : ∀ y : Int, 0 ≤ y → y < 1053 → y ≠ 31 → up (cpy N 118 (1053 * ((n : Int) + 1)) 118 0 1053) 118 31 0 118 y = N 118 (1053 * ((n : Int) + 1) + y) := fun y y0 y1 y2 => by
            have := cpy_in (M := N) (a := 118) (sp := 1053 * ((n : Int) + 1)) (b := 118) (dp := 0) (n := 1053) y0 y1
            rw [Int.zero_add] at this
            rw [up_ne2 y2, this]
          have h31 : up (cpy N 118 (1053 * ((n : Int) + 1)) 118 0 1053) 118 31 0 118 31 = 0 := by rw [up_eq]
          generalize up (cpy N 118 (1053 * ((n : Int) + 1)) 118 0 1053) 118 31 0 = K at hxx h118 h118' h31 ⊢
          have c1 : MR K (σ.back x) := by
            refine ⟨by rw [hxx 117 (by omega), hxx 120 (by omega)]; exact a, by rw [hxx 117 (by omega)]; exact b, u.eq hx5 (fun y hy => h118' y (by omega) (by omega) (by omega)), v.eq hx5 (fun y y0 y1 => h118' _ (by omega) (by omega) (by omega)), ⟨h31, fun j hj => absurd hj (Nat.not_lt_zero _)⟩, by rw [hxx 135 (by omega), hxx 136 (by omega), hxx 137 (by omega)]; exact g, fun k hk => ?_⟩
            obtain ⟨p1, p2⟩ := im k hk
            refine ⟨by rw [hxx 119 (by omega)]; exact p1, fun x' hx' => ?_⟩
            obtain ⟨u', v'⟩ := p2 x' hx'
            have hx5' := ok.im5 k x' hk hx'
            exact ⟨u'.eq hx5' (fun y hy => h118 _ (by omega)), v'.eq hx5' (fun y y0 y1 => h118 _ (by omega))⟩
          have c2 : Lo M K := hlo.trans (fun x hx' => hxx x (by omega))
          subst hQ
          (repeat' (first | omega | exact ⟨by omega, by omega⟩ | (with_reducible exact Or.inr trivial) | (with_reducible exact Or.inl trivial) | (with_reducible assumption) | (with_reducible exact Same.refl) | (with_reducible rfl) | (with_reducible refine And.intro ?_ ?_) | (with_reducible intro _)))
        | succ r ih =>
          intro j hj
          have key := ih (j + 1) (by omega)
          rw [show ((j + 1 : Nat) : Int) = (j : Int) + 1 by omega] at key
          have e1 : cpy N 118 (1053 * ((n : Int) + 1)) 118 0 j 118 (1053 * ((n : Int) + 1) + (j : Int)) = N 118 (1053 * ((n : Int) + 1) + (j : Int)) := cpy_at (by omega)
          have e2 := cpy_s (M := N) (a := 118) (sp := 1053 * ((n : Int) + 1)) (b := 118) (dp := 0) (i := j) (by omega)
          rw [Int.zero_add] at e2
          refine AW.run ck_Md_restore [32] 10 32 ?_
          simp only [wR, wB, wE0, wE1, wE2, wE3, g0, gS, s10, s11, s1S, s20, s21, s2S, kl0, kl1, kl2, kl3, sp0, sp1, sp2, sp3, cn1, cn2, cn3, cn4, cn5, cn6, jJa, lk0, lk1, jmS, jmN, s4_0, s4_1, s4_2, s4_3, s4_4, sw0, sw1, cKs, cKn, true_and, and_true, List.map_cons, List.map_nil, Nat.reduceAdd, Nat.zero_add, Int.reduceAdd, Nat.reduceEqDiff, reduceIte, Classical.not_not, b_Md_restore, shMd, e1, e2]
          (repeat' (first | omega | exact ⟨by omega, by omega⟩ | (with_reducible exact Or.inr trivial) | (with_reducible exact Or.inl trivial) | (with_reducible assumption) | (with_reducible exact Same.refl) | (with_reducible rfl) | (with_reducible refine And.intro ?_ ?_) | (with_reducible intro _)))
      refine AW.run ck_Md_restore [32] 10 30 ?_
      simp only [wR, wB, wE0, wE1, wE2, wE3, g0, gS, s10, s11, s1S, s20, s21, s2S, kl0, kl1, kl2, kl3, sp0, sp1, sp2, sp3, cn1, cn2, cn3, cn4, cn5, cn6, jJa, lk0, lk1, jmS, jmN, s4_0, s4_1, s4_2, s4_3, s4_4, sw0, sw1, cKs, cKn, true_and, and_true, List.map_cons, List.map_nil, Nat.reduceAdd, Nat.zero_add, Int.reduceAdd, Nat.reduceEqDiff, reduceIte, Classical.not_not, b_Md_restore, shMd]
      have := loop 1053 0 (by omega)
      rwa [show ((0 : Nat) : Int) = 0 from rfl, cpy_0] at this
  · rw [if_neg (by omega)]
    simp only [wR, wB, wE0, wE1, wE2, wE3, g0, gS, s10, s11, s1S, s20, s21, s2S, kl0, kl1, kl2, kl3, sp0, sp1, sp2, sp3, cn1, cn2, cn3, cn4, cn5, cn6, jJa, lk0, lk1, jmS, jmN, s4_0, s4_1, s4_2, s4_3, s4_4, sw0, sw1, cKs, cKn, true_and, and_true, List.map_cons, List.map_nil, Nat.reduceAdd, Nat.zero_add, Int.reduceAdd, Nat.reduceEqDiff, reduceIte, Classical.not_not, b_Md_restore, shMd, up_rd, Int.reduceEq, and_false, false_and, and_self, reduceIte, not_true_eq_false, not_false_eq_true, false_imp_iff, true_imp_iff, true_or, or_true]
    rw [(rest_out q).1, (rest_out q).2] at hQ
    subst hQ
    exact ⟨rfl, hR', hlo⟩
theorem c_H_count {w : Int} {B : Nat} {σ : Sg} (hd : 5 ≤ d) (ok : SgOK B σ) (hR : CR M σ) : MS G d mi_H_count [vr 0, vi w] M (fun r M' => r = some (vi (aCount σ w)) ∧ CR M' σ ∧ Hi M M') := by
  obtain ⟨z, hs, hb, hc, hM, hf, hg, hI, hj⟩ := id hR
  have hz := hs.z
  have hP := ok.2.2.1.1
  have mok := ok.2.2.2.1.1
  have hhi := Hi.refl (M := M)
  refine MS.by ck_H_count [some (vr 0), some (vi w)] fun _ _ => ?_
  refine AW.run ck_H_count [] 10 0 ?_
  by_cases q : w < 0 ∨ 10 ≤ w
  · rw [aCount_out q]
    simp only [wR, wB, wE0, wE1, wE2, wE3, g0, gS, s10, s11, s1S, s20, s21, s2S, kl0, kl1, kl2, kl3, sp0, sp1, sp2, sp3, cn1, cn2, cn3, cn4, cn5, cn6, jJa, lk0, lk1, jmS, jmN, s4_0, s4_1, s4_2, s4_3, s4_4, sw0, sw1, cKs, cKn, true_and, and_true, List.map_cons, List.map_nil, Nat.reduceAdd, Nat.zero_add, Int.reduceAdd, Nat.reduceEqDiff, reduceIte, Classical.not_not, b_H_count, shH, List.length_cons, List.length_nil, Int.reduceLT, Int.reduceLE, nc3, nc5, nc10, nc39, or_self, or_false, false_or]
    refine ⟨fun _ => ⟨hR, hhi⟩, fun h => absurd h (by omega), fun h => absurd h (by omega), fun h => absurd h (by omega), fun h => absurd h (by omega), fun h => absurd h (by omega), fun h => absurd h (by omega), fun h => absurd h (by omega), fun h => absurd h (by omega), fun h => absurd h (by omega), fun h => absurd h (by omega)⟩
  · unfold aCount
    rcases (show w = 0 ∨ w = 1 ∨ w = 2 ∨ w = 3 ∨ w = 4 ∨ w = 5 ∨ w = 6 ∨ w = 7 ∨ w = 8 ∨ w = 9 by omega) with rfl | rfl | rfl | rfl | rfl | rfl | rfl | rfl | rfl | rfl
    · simp only [wR, wB, wE0, wE1, wE2, wE3, g0, gS, s10, s11, s1S, s20, s21, s2S, kl0, kl1, kl2, kl3, sp0, sp1, sp2, sp3, cn1, cn2, cn3, cn4, cn5, cn6, jJa, lk0, lk1, jmS, jmN, s4_0, s4_1, s4_2, s4_3, s4_4, sw0, sw1, cKs, cKn, true_and, and_true, List.map_cons, List.map_nil, Nat.reduceAdd, Nat.zero_add, Int.reduceAdd, Nat.reduceEqDiff, reduceIte, Classical.not_not, b_H_count, shH, List.length_cons, List.length_nil, Int.reduceLT, Int.reduceLE, nc3, nc5, nc10, nc39, or_self, or_false, false_or, up_rd, Int.reduceEq, and_false, false_and, and_self, reduceIte, not_true_eq_false, not_false_eq_true, false_imp_iff, true_imp_iff, true_or, or_true, hs.1, hz, hs.2.2.2.2.2.1]
      exact ⟨hR, hhi⟩
    · simp only [wR, wB, wE0, wE1, wE2, wE3, g0, gS, s10, s11, s1S, s20, s21, s2S, kl0, kl1, kl2, kl3, sp0, sp1, sp2, sp3, cn1, cn2, cn3, cn4, cn5, cn6, jJa, lk0, lk1, jmS, jmN, s4_0, s4_1, s4_2, s4_3, s4_4, sw0, sw1, cKs, cKn, true_and, and_true, List.map_cons, List.map_nil, Nat.reduceAdd, Nat.zero_add, Int.reduceAdd, Nat.reduceEqDiff, reduceIte, Classical.not_not, b_H_count, shH, List.length_cons, List.length_nil, Int.reduceLT, Int.reduceLE, nc3, nc5, nc10, nc39, or_self, or_false, false_or, up_rd, Int.reduceEq, and_false, false_and, and_self, reduceIte, not_true_eq_false, not_false_eq_true, false_imp_iff, true_imp_iff, true_or, or_true, hs.1, hz, hs.2.2.2.2.1]
      exact ⟨hR, hhi⟩
    · simp only [wR, wB, wE0, wE1, wE2, wE3, g0, gS, s10, s11, s1S, s20, s21, s2S, kl0, kl1, kl2, kl3, sp0, sp1, sp2, sp3, cn1, cn2, cn3, cn4, cn5, cn6, jJa, lk0, lk1, jmS, jmN, s4_0, s4_1, s4_2, s4_3, s4_4, sw0, sw1, cKs, cKn, true_and, and_true, List.map_cons, List.map_nil, Nat.reduceAdd, Nat.zero_add, Int.reduceAdd, Nat.reduceEqDiff, reduceIte, Classical.not_not, b_H_count, shH, List.length_cons, List.length_nil, Int.reduceLT, Int.reduceLE, nc3, nc5, nc10, nc39, or_self, or_false, false_or, up_rd, Int.reduceEq, and_false, false_and, and_self, reduceIte, not_true_eq_false, not_false_eq_true, false_imp_iff, true_imp_iff, true_or, or_true, hM.1]
      exact ⟨hR, hhi⟩
    · simp only [wR, wB, wE0, wE1, wE2, wE3, g0, gS, s10, s11, s1S, s20, s21, s2S, kl0, kl1, kl2, kl3, sp0, sp1, sp2, sp3, cn1, cn2, cn3, cn4, cn5, cn6, jJa, lk0, lk1, jmS, jmN, s4_0, s4_1, s4_2, s4_3, s4_4, sw0, sw1, cKs, cKn, true_and, and_true, List.map_cons, List.map_nil, Nat.reduceAdd, Nat.zero_add, Int.reduceAdd, Nat.reduceEqDiff, reduceIte, Classical.not_not, b_H_count, shH, List.length_cons, List.length_nil, Int.reduceLT, Int.reduceLE, nc3, nc5, nc10, nc39, or_self, or_false, false_or, up_rd, Int.reduceEq, and_false, false_and, and_self, reduceIte, not_true_eq_false, not_false_eq_true, false_imp_iff, true_imp_iff, true_or, or_true]
      refine ⟨by omega, MS.to (c_Mo_together o25 (hM.b5 mok)) fun _ => ?_⟩
      rw [hM.tog hP]
      simp only [wR, wB, wE0, wE1, wE2, wE3, g0, gS, s10, s11, s1S, s20, s21, s2S, kl0, kl1, kl2, kl3, sp0, sp1, sp2, sp3, cn1, cn2, cn3, cn4, cn5, cn6, jJa, lk0, lk1, jmS, jmN, s4_0, s4_1, s4_2, s4_3, s4_4, sw0, sw1, cKs, cKn, true_and, and_true, List.map_cons, List.map_nil, Nat.reduceAdd, Nat.zero_add, Int.reduceAdd, Nat.reduceEqDiff, reduceIte, Classical.not_not, b_H_count]
      exact ⟨hR, hhi⟩
    · simp only [wR, wB, wE0, wE1, wE2, wE3, g0, gS, s10, s11, s1S, s20, s21, s2S, kl0, kl1, kl2, kl3, sp0, sp1, sp2, sp3, cn1, cn2, cn3, cn4, cn5, cn6, jJa, lk0, lk1, jmS, jmN, s4_0, s4_1, s4_2, s4_3, s4_4, sw0, sw1, cKs, cKn, true_and, and_true, List.map_cons, List.map_nil, Nat.reduceAdd, Nat.zero_add, Int.reduceAdd, Nat.reduceEqDiff, reduceIte, Classical.not_not, b_H_count, shH, List.length_cons, List.length_nil, Int.reduceLT, Int.reduceLE, nc3, nc5, nc10, nc39, or_self, or_false, false_or, up_rd, Int.reduceEq, and_false, false_and, and_self, reduceIte, not_true_eq_false, not_false_eq_true, false_imp_iff, true_imp_iff, true_or, or_true]
      refine ⟨by omega, MS.to (c_Mo_able o25) fun _ => ?_⟩
      rw [hM.able hP]
      simp only [wR, wB, wE0, wE1, wE2, wE3, g0, gS, s10, s11, s1S, s20, s21, s2S, kl0, kl1, kl2, kl3, sp0, sp1, sp2, sp3, cn1, cn2, cn3, cn4, cn5, cn6, jJa, lk0, lk1, jmS, jmN, s4_0, s4_1, s4_2, s4_3, s4_4, sw0, sw1, cKs, cKn, true_and, and_true, List.map_cons, List.map_nil, Nat.reduceAdd, Nat.zero_add, Int.reduceAdd, Nat.reduceEqDiff, reduceIte, Classical.not_not, b_H_count]
      exact ⟨hR, hhi⟩
    · simp only [wR, wB, wE0, wE1, wE2, wE3, g0, gS, s10, s11, s1S, s20, s21, s2S, kl0, kl1, kl2, kl3, sp0, sp1, sp2, sp3, cn1, cn2, cn3, cn4, cn5, cn6, jJa, lk0, lk1, jmS, jmN, s4_0, s4_1, s4_2, s4_3, s4_4, sw0, sw1, cKs, cKn, true_and, and_true, List.map_cons, List.map_nil, Nat.reduceAdd, Nat.zero_add, Int.reduceAdd, Nat.reduceEqDiff, reduceIte, Classical.not_not, b_H_count, shH, List.length_cons, List.length_nil, Int.reduceLT, Int.reduceLE, nc3, nc5, nc10, nc39, or_self, or_false, false_or, up_rd, Int.reduceEq, and_false, false_and, and_self, reduceIte, not_true_eq_false, not_false_eq_true, false_imp_iff, true_imp_iff, true_or, or_true, hM.2.1]
      exact ⟨hR, hhi⟩
    · simp only [wR, wB, wE0, wE1, wE2, wE3, g0, gS, s10, s11, s1S, s20, s21, s2S, kl0, kl1, kl2, kl3, sp0, sp1, sp2, sp3, cn1, cn2, cn3, cn4, cn5, cn6, jJa, lk0, lk1, jmS, jmN, s4_0, s4_1, s4_2, s4_3, s4_4, sw0, sw1, cKs, cKn, true_and, and_true, List.map_cons, List.map_nil, Nat.reduceAdd, Nat.zero_add, Int.reduceAdd, Nat.reduceEqDiff, reduceIte, Classical.not_not, b_H_count, shH, List.length_cons, List.length_nil, Int.reduceLT, Int.reduceLE, nc3, nc5, nc10, nc39, or_self, or_false, false_or, up_rd, Int.reduceEq, and_false, false_and, and_self, reduceIte, not_true_eq_false, not_false_eq_true, false_imp_iff, true_imp_iff, true_or, or_true, hM.2.2.1]
      exact ⟨hR, hhi⟩
    · simp only [wR, wB, wE0, wE1, wE2, wE3, g0, gS, s10, s11, s1S, s20, s21, s2S, kl0, kl1, kl2, kl3, sp0, sp1, sp2, sp3, cn1, cn2, cn3, cn4, cn5, cn6, jJa, lk0, lk1, jmS, jmN, s4_0, s4_1, s4_2, s4_3, s4_4, sw0, sw1, cKs, cKn, true_and, and_true, List.map_cons, List.map_nil, Nat.reduceAdd, Nat.zero_add, Int.reduceAdd, Nat.reduceEqDiff, reduceIte, Classical.not_not, b_H_count, shH, List.length_cons, List.length_nil, Int.reduceLT, Int.reduceLE, nc3, nc5, nc10, nc39, or_self, or_false, false_or, up_rd, Int.reduceEq, and_false, false_and, and_self, reduceIte, not_true_eq_false, not_false_eq_true, false_imp_iff, true_imp_iff, true_or, or_true, hf.1]
      exact ⟨hR, hhi⟩
    · simp only [wR, wB, wE0, wE1, wE2, wE3, g0, gS, s10, s11, s1S, s20, s21, s2S, kl0, kl1, kl2, kl3, sp0, sp1, sp2, sp3, cn1, cn2, cn3, cn4, cn5, cn6, jJa, lk0, lk1, jmS, jmN, s4_0, s4_1, s4_2, s4_3, s4_4, sw0, sw1, cKs, cKn, true_and, and_true, List.map_cons, List.map_nil, Nat.reduceAdd, Nat.zero_add, Int.reduceAdd, Nat.reduceEqDiff, reduceIte, Classical.not_not, b_H_count, shH, List.length_cons, List.length_nil, Int.reduceLT, Int.reduceLE, nc3, nc5, nc10, nc39, or_self, or_false, false_or, up_rd, Int.reduceEq, and_false, false_and, and_self, reduceIte, not_true_eq_false, not_false_eq_true, false_imp_iff, true_imp_iff, true_or, or_true, hb.1]
      exact ⟨hR, hhi⟩
    · simp only [wR, wB, wE0, wE1, wE2, wE3, g0, gS, s10, s11, s1S, s20, s21, s2S, kl0, kl1, kl2, kl3, sp0, sp1, sp2, sp3, cn1, cn2, cn3, cn4, cn5, cn6, jJa, lk0, lk1, jmS, jmN, s4_0, s4_1, s4_2, s4_3, s4_4, sw0, sw1, cKs, cKn, true_and, and_true, List.map_cons, List.map_nil, Nat.reduceAdd, Nat.zero_add, Int.reduceAdd, Nat.reduceEqDiff, reduceIte, Classical.not_not, b_H_count, shH, List.length_cons, List.length_nil, Int.reduceLT, Int.reduceLE, nc3, nc5, nc10, nc39, or_self, or_false, false_or, up_rd, Int.reduceEq, and_false, false_and, and_self, reduceIte, not_true_eq_false, not_false_eq_true, false_imp_iff, true_imp_iff, true_or, or_true, hs.1, hz, hs.2.2.2.1]
      exact ⟨hR, hhi⟩
theorem c_Md_count {w : Int} {B : Nat} {σ : Sg} (hd : 5 ≤ d) (ok : SgOK B σ) (hR : MR M σ) : MS G d mi_Md_count [vr 117, vi w] M (fun r M' => r = some (vi (aCount σ w)) ∧ MR M' σ ∧ Lo M M') := by
  have hR' := hR.thr
  have hP := ok.2.2.1.1
  have mok := ok.2.2.2.1.1
  refine MS.by ck_Md_count [some (vr 117), some (vi w)] fun _ _ => ?_
  refine AW.run ck_Md_count [] 10 0 ?_
  have hlo : Lo M (up M 117 0 0) := thr_lo
  obtain ⟨hH, hm, hp⟩ := hR'.past
  obtain ⟨g1, g2, g3, g4⟩ := hm.g
  have hst := hm.st mok
  have h5 := hR'.1.1
  obtain ⟨kH, km, kp⟩ := hR.past
  obtain ⟨k1, k2, k3, k4⟩ := km.g
  have k5 := hR.1.1
  by_cases q : w < 0 ∨ 10 ≤ w
  · rw [aCount_out q]
    simp only [wR, wB, wE0, wE1, wE2, wE3, g0, gS, s10, s11, s1S, s20, s21, s2S, kl0, kl1, kl2, kl3, sp0, sp1, sp2, sp3, cn1, cn2, cn3, cn4, cn5, cn6, jJa, lk0, lk1, jmS, jmN, s4_0, s4_1, s4_2, s4_3, s4_4, sw0, sw1, cKs, cKn, true_and, and_true, List.map_cons, List.map_nil, Nat.reduceAdd, Nat.zero_add, Int.reduceAdd, Nat.reduceEqDiff, reduceIte, Classical.not_not, b_Md_count, shMd, List.length_cons, List.length_nil, Int.reduceLT, Int.reduceLE, nc3, nc5, nc10, nc39, or_self, or_false, false_or]
    refine ⟨fun _ => ⟨hR', hlo⟩, fun h => absurd h (by omega), fun h => absurd h (by omega), fun h => absurd h (by omega), fun h => absurd h (by omega), fun h => absurd h (by omega), fun h => absurd h (by omega), fun h => absurd h (by omega), fun h => absurd h (by omega), fun h => absurd h (by omega), fun h => absurd h (by omega)⟩
  · unfold aCount
    generalize hN : up M 117 0 0 = N at hR' hlo hH hm hp g1 g2 g3 g4 hst h5
    rcases (show w = 0 ∨ w = 1 ∨ w = 2 ∨ w = 3 ∨ w = 4 ∨ w = 5 ∨ w = 6 ∨ w = 7 ∨ w = 8 ∨ w = 9 by omega) with rfl | rfl | rfl | rfl | rfl | rfl | rfl | rfl | rfl | rfl
    · simp only [wR, wB, wE0, wE1, wE2, wE3, g0, gS, s10, s11, s1S, s20, s21, s2S, kl0, kl1, kl2, kl3, sp0, sp1, sp2, sp3, cn1, cn2, cn3, cn4, cn5, cn6, jJa, lk0, lk1, jmS, jmN, s4_0, s4_1, s4_2, s4_3, s4_4, sw0, sw1, cKs, cKn, true_and, and_true, List.map_cons, List.map_nil, Nat.reduceAdd, Nat.zero_add, Int.reduceAdd, Nat.reduceEqDiff, reduceIte, Classical.not_not, b_Md_count, shMd, hN, List.length_cons, List.length_nil, Int.reduceLT, Int.reduceLE, nc3, nc5, nc10, nc39, or_self, or_false, false_or, up_rd, Int.reduceEq, and_false, false_and, and_self, reduceIte, not_true_eq_false, not_false_eq_true, false_imp_iff, true_imp_iff, true_or, or_true, kH.2.1]
      exact ⟨hR', hlo⟩
    · simp only [wR, wB, wE0, wE1, wE2, wE3, g0, gS, s10, s11, s1S, s20, s21, s2S, kl0, kl1, kl2, kl3, sp0, sp1, sp2, sp3, cn1, cn2, cn3, cn4, cn5, cn6, jJa, lk0, lk1, jmS, jmN, s4_0, s4_1, s4_2, s4_3, s4_4, sw0, sw1, cKs, cKn, true_and, and_true, List.map_cons, List.map_nil, Nat.reduceAdd, Nat.zero_add, Int.reduceAdd, Nat.reduceEqDiff, reduceIte, Classical.not_not, b_Md_count, shMd, hN, List.length_cons, List.length_nil, Int.reduceLT, Int.reduceLE, nc3, nc5, nc10, nc39, or_self, or_false, false_or, up_rd, Int.reduceEq, and_false, false_and, and_self, reduceIte, not_true_eq_false, not_false_eq_true, false_imp_iff, true_imp_iff, true_or, or_true, kH.2.2.1]
      exact ⟨hR', hlo⟩
    · simp only [wR, wB, wE0, wE1, wE2, wE3, g0, gS, s10, s11, s1S, s20, s21, s2S, kl0, kl1, kl2, kl3, sp0, sp1, sp2, sp3, cn1, cn2, cn3, cn4, cn5, cn6, jJa, lk0, lk1, jmS, jmN, s4_0, s4_1, s4_2, s4_3, s4_4, sw0, sw1, cKs, cKn, true_and, and_true, List.map_cons, List.map_nil, Nat.reduceAdd, Nat.zero_add, Int.reduceAdd, Nat.reduceEqDiff, reduceIte, Classical.not_not, b_Md_count, shMd, hN, List.length_cons, List.length_nil, Int.reduceLT, Int.reduceLE, nc3, nc5, nc10, nc39, or_self, or_false, false_or, up_rd, Int.reduceEq, and_false, false_and, and_self, reduceIte, not_true_eq_false, not_false_eq_true, false_imp_iff, true_imp_iff, true_or, or_true]
      refine ⟨by omega, MS.to (c_Md_sideOf (s := 1) hH.2.1 hP g1) fun _ => ?_⟩
      rw [show bitsP (fun p => decide (σ.m.sd p = 1)) σ.h.P = sdB σ.m.sd σ.h.P from rfl]
      simp only [wR, wB, wE0, wE1, wE2, wE3, g0, gS, s10, s11, s1S, s20, s21, s2S, kl0, kl1, kl2, kl3, sp0, sp1, sp2, sp3, cn1, cn2, cn3, cn4, cn5, cn6, jJa, lk0, lk1, jmS, jmN, s4_0, s4_1, s4_2, s4_3, s4_4, sw0, sw1, cKs, cKn, true_and, and_true, List.map_cons, List.map_nil, Nat.reduceAdd, Nat.zero_add, Int.reduceAdd, Nat.reduceEqDiff, reduceIte, Classical.not_not, b_Md_count]
      exact ⟨hR', hlo⟩
    · simp only [wR, wB, wE0, wE1, wE2, wE3, g0, gS, s10, s11, s1S, s20, s21, s2S, kl0, kl1, kl2, kl3, sp0, sp1, sp2, sp3, cn1, cn2, cn3, cn4, cn5, cn6, jJa, lk0, lk1, jmS, jmN, s4_0, s4_1, s4_2, s4_3, s4_4, sw0, sw1, cKs, cKn, true_and, and_true, List.map_cons, List.map_nil, Nat.reduceAdd, Nat.zero_add, Int.reduceAdd, Nat.reduceEqDiff, reduceIte, Classical.not_not, b_Md_count, shMd, hN, List.length_cons, List.length_nil, Int.reduceLT, Int.reduceLE, nc3, nc5, nc10, nc39, or_self, or_false, false_or, up_rd, Int.reduceEq, and_false, false_and, and_self, reduceIte, not_true_eq_false, not_false_eq_true, false_imp_iff, true_imp_iff, true_or, or_true]
      refine ⟨by omega, MS.to (c_Md_standNow hH.2.1 hP hst) fun _ => ?_⟩
      simp only [wR, wB, wE0, wE1, wE2, wE3, g0, gS, s10, s11, s1S, s20, s21, s2S, kl0, kl1, kl2, kl3, sp0, sp1, sp2, sp3, cn1, cn2, cn3, cn4, cn5, cn6, jJa, lk0, lk1, jmS, jmN, s4_0, s4_1, s4_2, s4_3, s4_4, sw0, sw1, cKs, cKn, true_and, and_true, List.map_cons, List.map_nil, Nat.reduceAdd, Nat.zero_add, Int.reduceAdd, Nat.reduceEqDiff, reduceIte, Classical.not_not, b_Md_count, shMd]
      refine ⟨by omega, MS.to (c_Md_sumIn (d := d - 1) (by omega) hH.2.1 hP) fun _ => ?_⟩
      rw [sum_cod (fun p => (mok.1 p).2)]
      simp only [wR, wB, wE0, wE1, wE2, wE3, g0, gS, s10, s11, s1S, s20, s21, s2S, kl0, kl1, kl2, kl3, sp0, sp1, sp2, sp3, cn1, cn2, cn3, cn4, cn5, cn6, jJa, lk0, lk1, jmS, jmN, s4_0, s4_1, s4_2, s4_3, s4_4, sw0, sw1, cKs, cKn, true_and, and_true, List.map_cons, List.map_nil, Nat.reduceAdd, Nat.zero_add, Int.reduceAdd, Nat.reduceEqDiff, reduceIte, Classical.not_not, b_Md_count]
      exact ⟨hR', hlo⟩
    · simp only [wR, wB, wE0, wE1, wE2, wE3, g0, gS, s10, s11, s1S, s20, s21, s2S, kl0, kl1, kl2, kl3, sp0, sp1, sp2, sp3, cn1, cn2, cn3, cn4, cn5, cn6, jJa, lk0, lk1, jmS, jmN, s4_0, s4_1, s4_2, s4_3, s4_4, sw0, sw1, cKs, cKn, true_and, and_true, List.map_cons, List.map_nil, Nat.reduceAdd, Nat.zero_add, Int.reduceAdd, Nat.reduceEqDiff, reduceIte, Classical.not_not, b_Md_count, shMd, hN, List.length_cons, List.length_nil, Int.reduceLT, Int.reduceLE, nc3, nc5, nc10, nc39, or_self, or_false, false_or, up_rd, Int.reduceEq, and_false, false_and, and_self, reduceIte, not_true_eq_false, not_false_eq_true, false_imp_iff, true_imp_iff, true_or, or_true]
      refine ⟨by omega, MS.to (c_Md_standNow hH.2.1 hP hst) fun _ => ?_⟩
      simp only [wR, wB, wE0, wE1, wE2, wE3, g0, gS, s10, s11, s1S, s20, s21, s2S, kl0, kl1, kl2, kl3, sp0, sp1, sp2, sp3, cn1, cn2, cn3, cn4, cn5, cn6, jJa, lk0, lk1, jmS, jmN, s4_0, s4_1, s4_2, s4_3, s4_4, sw0, sw1, cKs, cKn, true_and, and_true, List.map_cons, List.map_nil, Nat.reduceAdd, Nat.zero_add, Int.reduceAdd, Nat.reduceEqDiff, reduceIte, Classical.not_not, b_Md_count, shMd]
      refine ⟨by omega, MS.to (c_Md_ableIn (d := d - 1) (by omega) hH.2.1 hP) fun _ => ?_⟩
      rw [show bitsP (fun p => decide (0 < dig (cod σ.m.st σ.h.P) p)) σ.h.P = ablM σ.h.P σ.m.st from ablS_cod (fun p _ => (mok.1 p).2)]
      simp only [wR, wB, wE0, wE1, wE2, wE3, g0, gS, s10, s11, s1S, s20, s21, s2S, kl0, kl1, kl2, kl3, sp0, sp1, sp2, sp3, cn1, cn2, cn3, cn4, cn5, cn6, jJa, lk0, lk1, jmS, jmN, s4_0, s4_1, s4_2, s4_3, s4_4, sw0, sw1, cKs, cKn, true_and, and_true, List.map_cons, List.map_nil, Nat.reduceAdd, Nat.zero_add, Int.reduceAdd, Nat.reduceEqDiff, reduceIte, Classical.not_not, b_Md_count]
      exact ⟨hR', hlo⟩
    · simp only [wR, wB, wE0, wE1, wE2, wE3, g0, gS, s10, s11, s1S, s20, s21, s2S, kl0, kl1, kl2, kl3, sp0, sp1, sp2, sp3, cn1, cn2, cn3, cn4, cn5, cn6, jJa, lk0, lk1, jmS, jmN, s4_0, s4_1, s4_2, s4_3, s4_4, sw0, sw1, cKs, cKn, true_and, and_true, List.map_cons, List.map_nil, Nat.reduceAdd, Nat.zero_add, Int.reduceAdd, Nat.reduceEqDiff, reduceIte, Classical.not_not, b_Md_count, shMd, hN, List.length_cons, List.length_nil, Int.reduceLT, Int.reduceLE, nc3, nc5, nc10, nc39, or_self, or_false, false_or, up_rd, Int.reduceEq, and_false, false_and, and_self, reduceIte, not_true_eq_false, not_false_eq_true, false_imp_iff, true_imp_iff, true_or, or_true, k3]
      exact ⟨hR', hlo⟩
    · simp only [wR, wB, wE0, wE1, wE2, wE3, g0, gS, s10, s11, s1S, s20, s21, s2S, kl0, kl1, kl2, kl3, sp0, sp1, sp2, sp3, cn1, cn2, cn3, cn4, cn5, cn6, jJa, lk0, lk1, jmS, jmN, s4_0, s4_1, s4_2, s4_3, s4_4, sw0, sw1, cKs, cKn, true_and, and_true, List.map_cons, List.map_nil, Nat.reduceAdd, Nat.zero_add, Int.reduceAdd, Nat.reduceEqDiff, reduceIte, Classical.not_not, b_Md_count, shMd, hN, List.length_cons, List.length_nil, Int.reduceLT, Int.reduceLE, nc3, nc5, nc10, nc39, or_self, or_false, false_or, up_rd, Int.reduceEq, and_false, false_and, and_self, reduceIte, not_true_eq_false, not_false_eq_true, false_imp_iff, true_imp_iff, true_or, or_true, k4]
      exact ⟨hR', hlo⟩
    · simp only [wR, wB, wE0, wE1, wE2, wE3, g0, gS, s10, s11, s1S, s20, s21, s2S, kl0, kl1, kl2, kl3, sp0, sp1, sp2, sp3, cn1, cn2, cn3, cn4, cn5, cn6, jJa, lk0, lk1, jmS, jmN, s4_0, s4_1, s4_2, s4_3, s4_4, sw0, sw1, cKs, cKn, true_and, and_true, List.map_cons, List.map_nil, Nat.reduceAdd, Nat.zero_add, Int.reduceAdd, Nat.reduceEqDiff, reduceIte, Classical.not_not, b_Md_count, shMd, hN, List.length_cons, List.length_nil, Int.reduceLT, Int.reduceLE, nc3, nc5, nc10, nc39, or_self, or_false, false_or, up_rd, Int.reduceEq, and_false, false_and, and_self, reduceIte, not_true_eq_false, not_false_eq_true, false_imp_iff, true_imp_iff, true_or, or_true, kp.1]
      exact ⟨hR', hlo⟩
    · simp only [wR, wB, wE0, wE1, wE2, wE3, g0, gS, s10, s11, s1S, s20, s21, s2S, kl0, kl1, kl2, kl3, sp0, sp1, sp2, sp3, cn1, cn2, cn3, cn4, cn5, cn6, jJa, lk0, lk1, jmS, jmN, s4_0, s4_1, s4_2, s4_3, s4_4, sw0, sw1, cKs, cKn, true_and, and_true, List.map_cons, List.map_nil, Nat.reduceAdd, Nat.zero_add, Int.reduceAdd, Nat.reduceEqDiff, reduceIte, Classical.not_not, b_Md_count, shMd, hN, List.length_cons, List.length_nil, Int.reduceLT, Int.reduceLE, nc3, nc5, nc10, nc39, or_self, or_false, false_or, up_rd, Int.reduceEq, and_false, false_and, and_self, reduceIte, not_true_eq_false, not_false_eq_true, false_imp_iff, true_imp_iff, true_or, or_true, k5]
      exact ⟨hR', hlo⟩
    · simp only [wR, wB, wE0, wE1, wE2, wE3, g0, gS, s10, s11, s1S, s20, s21, s2S, kl0, kl1, kl2, kl3, sp0, sp1, sp2, sp3, cn1, cn2, cn3, cn4, cn5, cn6, jJa, lk0, lk1, jmS, jmN, s4_0, s4_1, s4_2, s4_3, s4_4, sw0, sw1, cKs, cKn, true_and, and_true, List.map_cons, List.map_nil, Nat.reduceAdd, Nat.zero_add, Int.reduceAdd, Nat.reduceEqDiff, reduceIte, Classical.not_not, b_Md_count, shMd, hN, List.length_cons, List.length_nil, Int.reduceLT, Int.reduceLE, nc3, nc5, nc10, nc39, or_self, or_false, false_or, up_rd, Int.reduceEq, and_false, false_and, and_self, reduceIte, not_true_eq_false, not_false_eq_true, false_imp_iff, true_imp_iff, true_or, or_true, kH.1]
      exact ⟨hR', hlo⟩
end IN
