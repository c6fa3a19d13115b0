theorem pot_n (n : Nat) : pot (n : Int) = 34 - n := by
  unfold pot
  rw [if_neg (by omega), Int.toNat_natCast]
theorem pot_1 : pot (-1) = 1 := rfl
theorem next_ok {P pe s n : Nat} (hn : n < 32) (h32 : pe < 32) (hsb : okP P pe s n = true) : ∃ n' : Nat, n < n' ∧ n' ≤ 32 ∧ (∀ y, n + 1 ≤ y → y < n' → okP P pe s y = false) ∧ ((nextN n (ablS P s &&& pe) = 0 ∧ n' = 32) ∨ (nextN n (ablS P s &&& pe) = n' ∧ n' < 32 ∧ okP P pe s n' = true ∧ n' ≠ 0)) := by
  unfold okP at hsb ⊢
  rw [decide_eq_true_eq] at hsb
  obtain ⟨h1, h2⟩ := nextN_s hn (Nat.lt_of_le_of_lt Nat.and_le_right h32) hsb
  by_cases q : nextN n (ablS P s &&& pe) = 0
  · refine ⟨32, hn, Nat.le_refl _, fun y hy hy' => ?_, Or.inl ⟨q, rfl⟩⟩
    rw [decide_eq_false_iff_not]
    exact h1 q y (by omega) hy'
  · obtain ⟨a, b, c⟩ := h2 q
    have hl := nextN_lt (a := n) (Nat.lt_of_le_of_lt Nat.and_le_right h32 : ablS P s &&& pe < 32)
    refine ⟨nextN n (ablS P s &&& pe), a, by omega, fun y hy hy' => ?_, Or.inr ⟨rfl, hl, ?_, q⟩⟩
    · rw [decide_eq_false_iff_not]
      exact c y (by omega) hy'
    · rw [decide_eq_true_eq]; exact b
theorem PkF.le {ok : Nat → Nat → Bool} {nx : Nat → Nat → Nat} {B s h n : Nat} {p : Int} (hx : ∀ s set, nx s set < B) (H : PkF ok nx s h p n) : h ≤ B := by
  rcases H.2 with ⟨rfl, _⟩ | ⟨x, _, _, _, ⟨w, w1, w2⟩, _⟩
  · omega
  · have := Vl_bound (l := List.range B) (fun t set _ _ _ => List.mem_range.mpr (hx t set)) (List.mem_range.mpr (hx s x)) w1
    rw [List.length_range] at this
    omega
theorem DFM.top {M N : AM} {mk : Nat → Nat} {hr pk : Nat → Int} {pa : Nat → Nat} {tu : Nat → Int} {k : Nat} {t' h' p' : Int} (H : DFM M mk hr pk pa tu (k + 1)) (h5 : N 43 5 = M 43 5) (h44 : N 44 = M 44) (h47 : N 47 = M 47) (h45 : ∀ y : Int, y ≠ pa k → N 45 y = M 45 y) (h46 : ∀ y : Int, y ≠ pa k → N 46 y = M 46 y) (h48 : ∀ y : Int, y ≠ k → N 48 y = M 48 y) (e45 : N 45 (pa k) = h') (e46 : N 46 (pa k) = p') (e48 : N 48 k = t') : DFM N mk (ud hr (pa k) h') (ud pk (pa k) p') pa (ud tu k t') (k + 1) := by
  obtain ⟨a, b, c, e⟩ := H
  refine ⟨by rw [h5]; exact a, fun s hs => by rw [h44]; exact b s hs, fun s hs hm => ?_, fun j hj => ?_⟩
  · by_cases q : s = pa k
    · subst q; rw [ud_eq, ud_eq]; exact ⟨e45, e46⟩
    · rw [ud_ne q, ud_ne q, h45 _ (by omega), h46 _ (by omega)]; exact c s hs hm
  · rw [h47]
    by_cases q : j = k
    · subst q; rw [ud_eq]; exact ⟨(e j hj).1, e48⟩
    · rw [ud_ne q, h48 _ (by omega)]; exact e j hj
theorem DFM.eq {M N : AM} {mk : Nat → Nat} {hr pk : Nat → Int} {pa : Nat → Nat} {tu : Nat → Int} {k : Nat} (H : DFM M mk hr pk pa tu k) (hs : Same [33] M N) : DFM N mk hr pk pa tu k := by
  unfold DFM
  rw [hs 43 (by (first | decide | (simp only [List.mem_cons, List.not_mem_nil, or_false, not_or, not_false_eq_true, and_true]; omega) | (simp [List.mem_cons]; done))), hs 44 (by (first | decide | (simp only [List.mem_cons, List.not_mem_nil, or_false, not_or, not_false_eq_true, and_true]; omega) | (simp [List.mem_cons]; done))), hs 45 (by (first | decide | (simp only [List.mem_cons, List.not_mem_nil, or_false, not_or, not_false_eq_true, and_true]; omega) | (simp [List.mem_cons]; done))), hs 46 (by (first | decide | (simp only [List.mem_cons, List.not_mem_nil, or_false, not_or, not_false_eq_true, and_true]; omega) | (simp [List.mem_cons]; done))), hs 47 (by (first | decide | (simp only [List.mem_cons, List.not_mem_nil, or_false, not_or, not_false_eq_true, and_true]; omega) | (simp [List.mem_cons]; done))), hs 48 (by (first | decide | (simp only [List.mem_cons, List.not_mem_nil, or_false, not_or, not_false_eq_true, and_true]; omega) | (simp [List.mem_cons]; done)))]
  exact H
section WG
variable {G : AG} {d : Nat} {M : AM}
set_option maxRecDepth 20000 in
theorem c_Wa_goOn {h : Hl} {sd : Nat → Nat} {cold side pe must s0 k : Nat} {mk : Nat → Nat} {hr pk : Nat → Int} {pa : Nat → Nat} {tu : Nat → Int} (hd : 5 ≤ d) (hok : HlOK h) (hS : StOK M h sd cold (sideS sd h.P side)) (hpe : sub pe (sideS sd h.P side)) (h32 : pe < 32) (hD : DFM M mk hr pk pa tu (k + 1)) (hI : DInv (okH h sd cold side pe must) (okP h.P pe) (nxW h sd cold (sideS sd h.P side)) (5 ^ h.P) s0 mk hr pk pa tu (k + 1)) :
    MS G d mi_Wa_goOn [vr 43, vr 33, vi must, vi pe] M (fun r M' => r = none ∧ (∃ mk' hr' pk' pa' tu' dp', DFM M' mk' hr' pk' pa' tu' dp' ∧ DInv (okH h sd cold side pe must) (okP h.P pe) (nxW h sd cold (sideS sd h.P side)) (5 ^ h.P) s0 mk' hr' pk' pa' tu' dp' ∧ mu mk' tu' dp' < mu mk tu (k + 1)) ∧ StOK M' h sd cold (sideS sd h.P side) ∧ Same [33, 43, 44, 45, 46, 47, 48] M M' ∧ M' 43 6 = M 43 6) := by
  have hP := hok.1
  have h5 := p5 hP
  have a3 := hI.2.2.1
  have a7 := hI.2.2.2.2.2.2.1 k (by omega)
  have hkk := a3 k (by omega)
  have hlen : k + 1 ≤ 3125 := by
    have hn := map_nodup (c := pa) (n := k + 1) hI.2.2.2.1
    have := len_lt (N := 3125) hn (fun x hx => by
      obtain ⟨j, hj, e⟩ := List.mem_map.mp hx
      rw [← e]
      have := (a3 j (List.mem_range.mp hj)).1
      omega)
    rwa [List.length_map, List.length_range] at this
  have hs3 : pa k < 3125 := by omega
  have d5 := hD.1
  have e47 := (hD.2.2.2 k (by omega)).1
  have e48 := (hD.2.2.2 k (by omega)).2
  have ek : ((k + 1 : Nat) : Int) - 1 = k := by omega
  have hnx : ∀ s set, nxW h sd cold (sideS sd h.P side) s set < 5 ^ h.P := fun s set => nxW_lt
  have hhr : ∀ s, s < 5 ^ h.P → mk s ≠ 0 → hr s ≤ 3125 := by
    intro s hs hm
    rcases (show mk s = 1 ∨ mk s = 2 by have := hI.1 s; omega) with q | q
    · obtain ⟨j, hj, ej⟩ := hI.2.2.2.2.1 s hs q
      rcases hI.2.2.2.2.2.2.1 j hj with ⟨_, b, _⟩ | ⟨x, n, b, c, _⟩
      · rw [ej] at b; omega
      · rw [ej] at b c
        have := c.le hnx
        omega
    · rcases hI.2.2.2.2.2.2.2.1 s hs q with ⟨b, _⟩ | ⟨x, b, c⟩
      · omega
      · have := c.le hnx
        omega
  refine MS.by ck_Wa_goOn [some (vr 43), some (vr 33), some (vi must), some (vi pe), none, none, none, none, none] fun _ _ => ?_
  generalize hQ : (fun (r : Option AV) (M' : AM) => r = none ∧ (∃ mk' hr' pk' pa' tu' dp', DFM M' mk' hr' pk' pa' tu' dp' ∧ DInv (okH h sd cold side pe must) (okP h.P pe) (nxW h sd cold (sideS sd h.P side)) (5 ^ h.P) s0 mk' hr' pk' pa' tu' dp' ∧ mu mk' tu' dp' < mu mk tu (k + 1)) ∧ StOK M' h sd cold (sideS sd h.P side) ∧ Same [33, 43, 44, 45, 46, 47, 48] M M' ∧ M' 43 6 = M 43 6) = Q
  refine AW.run ck_Wa_goOn [51] 10 0 ?_
  simp only [wR, wB, wE0, wE1, wE2, wE3, g0, gS, s10, s11, s1S, s20, s21, s2S, kl0, kl1, kl2, kl3, sp0, sp1, sp2, sp3, cn1, cn2, cn3, cn4, cn5, cn6, jJa, lk0, lk1, jmS, jmN, s4_0, s4_1, s4_2, s4_3, s4_4, sw0, sw1, cKs, cKn, true_and, and_true, List.map_cons, List.map_nil, Nat.reduceAdd, Nat.zero_add, Int.reduceAdd, Nat.reduceEqDiff, reduceIte, Classical.not_not, b_Wa_goOn, shWa, d5, ek, e47, e48]
  by_cases qt : tu k = -1
  · have hmu := mu_close (mk := mk) (pa := pa) hkk.2 qt
    have hc := hI.close qt
    subst hQ
    simp only [wR, wB, wE0, wE1, wE2, wE3, g0, gS, s10, s11, s1S, s20, s21, s2S, kl0, kl1, kl2, kl3, sp0, sp1, sp2, sp3, cn1, cn2, cn3, cn4, cn5, cn6, jJa, lk0, lk1, jmS, jmN, s4_0, s4_1, s4_2, s4_3, s4_4, sw0, sw1, cKs, cKn, true_and, and_true, List.map_cons, List.map_nil, Nat.reduceAdd, Nat.zero_add, Int.reduceAdd, Nat.reduceEqDiff, reduceIte, Classical.not_not, up_rd, Int.reduceEq, and_false, false_and, and_self, reduceIte, not_true_eq_false, not_false_eq_true, false_imp_iff, true_imp_iff, true_or, or_true, d5, ek]
    (repeat' (first | omega | (with_reducible exact True.intro) | exact ⟨by omega, by omega⟩ | (with_reducible exact Or.inr trivial) | (with_reducible exact Or.inl trivial) | (with_reducible assumption) | (with_reducible exact Same.refl) | (with_reducible rfl) | (with_reducible refine And.intro ?_ ?_) | (with_reducible intro _)))
    refine ⟨_, _, _, _, _, _, ⟨by rw [up_eq], fun s hs => ?_, fun s hs hm => ?_, fun j hj => ?_⟩, hc, hmu⟩
    · rw [up_ne1 (by omega)]
      by_cases e : s = pa k
      · subst e; rw [up_eq, ud_eq]; rfl
      · rw [up_ne2 (by omega), ud_ne e]; exact hD.2.1 s hs
    · rw [up_ne1 (by omega), up_ne1 (by omega), up_ne1 (by omega), up_ne1 (by omega)]
      refine hD.2.2.1 s hs ?_
      by_cases e : s = pa k
      · rw [e, hkk.2]; omega
      · rw [ud_ne e] at hm; exact hm
    · rw [up_ne1 (by omega), up_ne1 (by omega), up_ne1 (by omega), up_ne1 (by omega)]
      exact hD.2.2.2 j (by omega)
    · exact hS.same (ps := [44, 43]) ((Same.refl.up (by simp)).up (by simp)) (fun x h1 h2 => by (first | decide | (simp only [List.mem_cons, List.not_mem_nil, or_false, not_or, not_false_eq_true, and_true]; omega) | (simp [List.mem_cons]; done)))
    · exact (Same.refl.up (by simp)).up (by simp)
  · rcases a7 with ⟨b, _⟩ | ⟨kk, n, hh, hF, hn⟩
    · exact absurd b qt
    rcases hn with ⟨b, _⟩ | ⟨ht, hn, hsb⟩
    · exact absurd b qt
    rw [ht] at qt ⊢
    have hand : ablS h.P (pa k) &&& pe < 32 := Nat.lt_of_le_of_lt Nat.and_le_right h32
    have hnP := okP_lt2 hn h32 hsb
    have hsub := okP_sub hP hpe h32 hn hsb
    obtain ⟨n', n1, n2, n3, n4⟩ := next_ok hn h32 hsb
    have hal := nextN_lt (a := n) hand
    generalize haf : nextN n (ablS h.P (pa k) &&& pe) = af at n4 hal
    generalize hff : nxW h sd cold (sideS sd h.P side) (pa k) n = f
    have hfB : f < 5 ^ h.P := by rw [← hff]; exact hnx _ _
    have hf3 : f < 3125 := by omega
    have hoks : ∀ y, okP h.P pe (pa k) y = false → okH h sd cold side pe must (pa k) y = false := fun y hy => by unfold okH; rw [hy]; rfl
    have hskip : ∀ {x : Nat} {p : Int}, PkF (okH h sd cold side pe must) (nxW h sd cold (sideS sd h.P side)) (pa k) x p (n + 1) → PkF (okH h sd cold side pe must) (nxW h sd cold (sideS sd h.P side)) (pa k) x p n' := fun H => H.skip (by omega) (fun y h1 h2 => hoks y (n3 y h1 h2))
    generalize htn : (if af = 0 then (-1 : Int) else (af : Int)) = tn
    have htn' : (tn = -1 ∧ n' = 32) ∨ (tn = n' ∧ n' < 32 ∧ okP h.P pe (pa k) n' = true) := by
      rcases n4 with ⟨c1, c2⟩ | ⟨c1, c2, c3, c4⟩
      · rw [if_pos c1] at htn; exact Or.inl ⟨htn.symm, c2⟩
      · rw [if_neg (by omega)] at htn; exact Or.inr ⟨by omega, c2, c3⟩
    have htni : inI tn := by
      rcases htn' with ⟨c, _⟩ | ⟨c, c2, _⟩
      · rw [c]; exact ⟨by omega, by omega⟩
      · rw [c]; exact ⟨by omega, by omega⟩
    have hpot : pot tn < pot (tu k) := by
      rw [ht, pot_n]
      rcases htn' with ⟨c, _⟩ | ⟨c, c2, _⟩
      · rw [c, pot_1]; omega
      · rw [c, pot_n]; omega
    have hpot1 : pot (-1) < pot (tu k) := by
      rw [ht, pot_n, pot_1]
      omega
    -- what all ends in
    have fin : ∀ (N N2 : AM) (t' h' p' : Int), Same [33] M N → StAt N h sd cold (sideS sd h.P side) (pa k) → Same [45, 46, 48] N N2 → (∀ y : Int, y ≠ pa k → N2 45 y = N 45 y) → (∀ y : Int, y ≠ pa k → N2 46 y = N 46 y) → (∀ y : Int, y ≠ k → N2 48 y = N 48 y) → N2 45 (pa k) = h' → N2 46 (pa k) = p' → N2 48 k = t' → WtS (okH h sd cold side pe must) (okP h.P pe) (nxW h sd cold (sideS sd h.P side)) (pa k) t' h' p' → (∀ x : Nat, p' = x → mk (nxW h sd cold (sideS sd h.P side) (pa k) x) ≠ 0) → pot t' < pot (tu k) → Q none N2 := by
      intro N N2 t' h' p' g1 g2 g3 g4 g5 g6 g7 g8 g9 g10 g11 g12
      subst hQ
      refine ⟨rfl, ⟨_, _, _, _, _, _, (hD.eq g1).top (g3.at 43 _ (by (first | decide | (simp only [List.mem_cons, List.not_mem_nil, or_false, not_or, not_false_eq_true, and_true]; omega) | (simp [List.mem_cons]; done)))) (g3 44 (by (first | decide | (simp only [List.mem_cons, List.not_mem_nil, or_false, not_or, not_false_eq_true, and_true]; omega) | (simp [List.mem_cons]; done)))) (g3 47 (by (first | decide | (simp only [List.mem_cons, List.not_mem_nil, or_false, not_or, not_false_eq_true, and_true]; omega) | (simp [List.mem_cons]; done)))) g4 g5 g6 g7 g8 g9, hI.set g10 g11, mu_set g12⟩, g2.1.same g3 (fun x h1 h2 => by (first | decide | (simp only [List.mem_cons, List.not_mem_nil, or_false, not_or, not_false_eq_true, and_true]; omega) | (simp [List.mem_cons]; done))), (g1.mono (by simp)).trans (g3.mono (by simp)), ?_⟩
      rw [g3.at 43 _ (by (first | decide | (simp only [List.mem_cons, List.not_mem_nil, or_false, not_or, not_false_eq_true, and_true]; omega) | (simp [List.mem_cons]; done))), g1.at 43 _ (by (first | decide | (simp only [List.mem_cons, List.not_mem_nil, or_false, not_or, not_false_eq_true, and_true]; omega) | (simp [List.mem_cons]; done)))]
    have a125 : ∀ (N : AM) (b : Nat), Same [33] M N → StAt N h sd cold (sideS sd h.P side) (pa k) → ((b = 0 ∧ okH h sd cold side pe must (pa k) n = false) ∨ (b = 1 ∧ okH h sd cold side pe must (pa k) n = true ∧ mk f ≠ 0)) → AW G d mi_Wa_goOn Q 125 [some (vr 43), some (vr 33), some (vi must), some (vi pe), some (vi (pa k)), some (vi n), some (vi af), some (vi f), some (vi b)] [] N := by
      intro N b hN hSN hb
      have d5' : N 43 5 = ((k + 1 : Nat) : Int) := (hD.eq hN).1
      have dd := hD.eq hN
      have a146 : AW G d mi_Wa_goOn Q 146 [some (vr 43), some (vr 33), some (vi must), some (vi pe), some (vi (pa k)), some (vi n), some (vi af), some (vi f), some (vi b)] [vi tn, vi k, vr 48] N := by
        refine AW.run ck_Wa_goOn [] 10 146 ?_
        simp only [wR, wB, wE0, wE1, wE2, wE3, g0, gS, s10, s11, s1S, s20, s21, s2S, kl0, kl1, kl2, kl3, sp0, sp1, sp2, sp3, cn1, cn2, cn3, cn4, cn5, cn6, jJa, lk0, lk1, jmS, jmN, s4_0, s4_1, s4_2, s4_3, s4_4, sw0, sw1, cKs, cKn, true_and, and_true, List.map_cons, List.map_nil, Nat.reduceAdd, Nat.zero_add, Int.reduceAdd, Nat.reduceEqDiff, reduceIte, Classical.not_not, b_Wa_goOn, shWa]
        have g45 := (dd.2.2.1 (pa k) hs3 (by rw [hkk.2]; omega))
        have w48 : ∀ y : Int, y ≠ k → up N 48 k tn 48 y = N 48 y := fun y hy => up_ne2 hy
        rcases hb with ⟨rfl, ho⟩ | ⟨rfl, ho, hmf⟩
        · have := fin N (up N 48 k tn) tn (hr (pa k)) (pk (pa k)) hN hSN (Same.refl.up (by simp)) (fun y _ => up_ne1 (by omega)) (fun y _ => up_ne1 (by omega)) w48 (by rw [up_ne1 (by omega)]; exact g45.1) (by rw [up_ne1 (by omega)]; exact g45.2) (up_eq _ _ _ _) (Or.inr ⟨kk, n', hh, hskip (hF.skip (by omega) (fun y h1 h2 => by rw [show y = n by omega]; exact ho)), htn'⟩) (fun x hx => hI.2.2.2.2.2.2.2.2 _ hkk.1 (by rw [hkk.2]; omega) x hx) hpot
          (repeat' (first | omega | (with_reducible exact True.intro) | exact ⟨by omega, by omega⟩ | (with_reducible exact Or.inr trivial) | (with_reducible exact Or.inl trivial) | (with_reducible assumption) | (with_reducible exact Same.refl) | (with_reducible rfl) | (with_reducible refine And.intro ?_ ?_) | (with_reducible intro _)))
        · have g45f := dd.2.2.1 f hf3 hmf
          have g44f := dd.2.1 f hf3
          have hbf := hhr f hfB hmf
          simp only [wR, wB, wE0, wE1, wE2, wE3, g0, gS, s10, s11, s1S, s20, s21, s2S, kl0, kl1, kl2, kl3, sp0, sp1, sp2, sp3, cn1, cn2, cn3, cn4, cn5, cn6, jJa, lk0, lk1, jmS, jmN, s4_0, s4_1, s4_2, s4_3, s4_4, sw0, sw1, cKs, cKn, true_and, and_true, List.map_cons, List.map_nil, Nat.reduceAdd, Nat.zero_add, Int.reduceAdd, Nat.reduceEqDiff, reduceIte, Classical.not_not, nc1, up_rd, Int.reduceEq, and_false, false_and, and_self, reduceIte, not_true_eq_false, not_false_eq_true, false_imp_iff, true_imp_iff, true_or, or_true]
          (repeat' (first | omega | (with_reducible exact True.intro) | exact ⟨by omega, by omega⟩ | (with_reducible exact Or.inr trivial) | (with_reducible exact Or.inl trivial) | (with_reducible assumption) | (with_reducible exact Same.refl) | (with_reducible rfl) | (with_reducible refine And.intro ?_ ?_) | (with_reducible intro _)))
          refine MS.to (c_Wa_weigh (k := k) hs3 hf3 (by omega) (by rw [up_ne1 (by omega)]; exact d5') (by rw [up_ne1 (by omega), g45f.1]; omega)) fun _ => ?_
          simp only [wR, wB, wE0, wE1, wE2, wE3, g0, gS, s10, s11, s1S, s20, s21, s2S, kl0, kl1, kl2, kl3, sp0, sp1, sp2, sp3, cn1, cn2, cn3, cn4, cn5, cn6, jJa, lk0, lk1, jmS, jmN, s4_0, s4_1, s4_2, s4_3, s4_4, sw0, sw1, cKs, cKn, true_and, and_true, List.map_cons, List.map_nil, Nat.reduceAdd, Nat.zero_add, Int.reduceAdd, Nat.reduceEqDiff, reduceIte, Classical.not_not, b_Wa_goOn]
          unfold wgM
          rw [up_ne1 (by omega), up_ne1 (by omega), up_ne1 (by omega), g44f, g45f.1, g45.1, hh]
          by_cases q1 : (mk f : Int) = 1 ∨ hr f = -1
          · rw [if_pos q1]
            have hev : Ev (okH h sd cold side pe must) (nxW h sd cold (sideS sd h.P side)) f := by
              rcases (show mk f = 1 ∨ mk f = 2 by have := hI.1 f; omega) with q | q
              · exact hI.cyc hn ho hff hfB q
              · rcases hI.2.2.2.2.2.2.2.1 f hfB q with ⟨b, c⟩ | ⟨x, b, c⟩
                · exact c.ev
                · omega
            refine fin N _ (-1) (-1) (n : Int) hN hSN ((((Same.refl.up (by simp)).up (by simp)).up (by simp)).up (by simp)) (fun y hy => by rw [up_ne1 (by omega), up_ne1 (by omega), up_ne2 hy, up_ne1 (by omega)]) (fun y hy => by rw [up_ne1 (by omega), up_ne2 hy, up_ne1 (by omega), up_ne1 (by omega)]) (fun y hy => by rw [up_ne2 hy, up_ne1 (by omega), up_ne1 (by omega), up_ne2 hy]) (by rw [up_ne1 (by omega), up_ne1 (by omega), up_eq]) (by rw [up_ne1 (by omega), up_eq]) (up_eq _ _ _ _) (Or.inl ⟨rfl, rfl, hF.ever hn ho (by rw [hff]; exact hev)⟩) (fun x hx => ?_) hpot1
            obtain rfl : n = x := by omega
            rw [hff]; exact hmf
          · rw [if_neg q1]
            have hcl : mk f = 2 := by have := hI.1 f; omega
            rcases hI.2.2.2.2.2.2.2.1 f hfB hcl with ⟨b, _⟩ | ⟨w, hw, hwF⟩
            · omega
            have hvl : Vl (okH h sd cold side pe must) (nxW h sd cold (sideS sd h.P side)) (nxW h sd cold (sideS sd h.P side) (pa k) n) w := by rw [hff]; exact hwF.vl
            by_cases q2 : (kk : Int) < hr f + 1
            · rw [if_pos q2]
              refine fin N _ tn ((w + 1 : Nat) : Int) (n : Int) hN hSN (((Same.refl.up (by simp)).up (by simp)).up (by simp)) (fun y hy => by rw [up_ne1 (by omega), up_ne2 hy, up_ne1 (by omega)]) (fun y hy => by rw [up_ne2 hy, up_ne1 (by omega), up_ne1 (by omega)]) (fun y hy => by rw [up_ne1 (by omega), up_ne1 (by omega), up_ne2 hy]) (by rw [up_ne1 (by omega), up_eq, hw]; rfl) (by rw [up_eq]) (by rw [up_ne1 (by omega), up_ne1 (by omega), up_eq]) (Or.inr ⟨w + 1, n', rfl, hskip (hF.better ho hvl (by omega)), htn'⟩) (fun x hx => ?_) hpot
              obtain rfl : n = x := by omega
              rw [hff]; exact hmf
            · rw [if_neg q2]
              exact fin N _ tn (hr (pa k)) (pk (pa k)) hN hSN (Same.refl.up (by simp)) (fun y _ => up_ne1 (by omega)) (fun y _ => up_ne1 (by omega)) w48 (by rw [up_ne1 (by omega)]; exact g45.1) (by rw [up_ne1 (by omega)]; exact g45.2) (up_eq _ _ _ _) (Or.inr ⟨kk, n', hh, hskip (hF.same hvl (by omega)), htn'⟩) (fun x hx => hI.2.2.2.2.2.2.2.2 _ hkk.1 (by rw [hkk.2]; omega) x hx) hpot
      refine AW.run ck_Wa_goOn [146] 10 125 ?_
      simp only [wR, wB, wE0, wE1, wE2, wE3, g0, gS, s10, s11, s1S, s20, s21, s2S, kl0, kl1, kl2, kl3, sp0, sp1, sp2, sp3, cn1, cn2, cn3, cn4, cn5, cn6, jJa, lk0, lk1, jmS, jmN, s4_0, s4_1, s4_2, s4_3, s4_4, sw0, sw1, cKs, cKn, true_and, and_true, List.map_cons, List.map_nil, Nat.reduceAdd, Nat.zero_add, Int.reduceAdd, Nat.reduceEqDiff, reduceIte, Classical.not_not, b_Wa_goOn, shWa, d5', ek]
      by_cases q : af = 0
      · rw [if_pos q] at htn
        subst htn
        (repeat' (first | omega | (with_reducible exact True.intro) | exact ⟨by omega, by omega⟩ | (with_reducible exact Or.inr trivial) | (with_reducible exact Or.inl trivial) | (with_reducible assumption) | (with_reducible exact Same.refl) | (with_reducible rfl) | (with_reducible refine And.intro ?_ ?_) | (with_reducible intro _)))
      · rw [if_neg q] at htn
        subst htn
        (repeat' (first | omega | (with_reducible exact True.intro) | exact ⟨by omega, by omega⟩ | (with_reducible exact Or.inr trivial) | (with_reducible exact Or.inl trivial) | (with_reducible assumption) | (with_reducible exact Same.refl) | (with_reducible rfl) | (with_reducible refine And.intro ?_ ?_) | (with_reducible intro _)))
    have a101 : ∀ (N : AM) (b : Nat), Same [33] M N → StAt N h sd cold (sideS sd h.P side) (pa k) → ((b = 0 ∧ okH h sd cold side pe must (pa k) n = false) ∨ (b = 1 ∧ okH h sd cold side pe must (pa k) n = true)) → AW G d mi_Wa_goOn Q 101 [some (vr 43), some (vr 33), some (vi must), some (vi pe), some (vi (pa k)), some (vi n), some (vi af), some (vi f), none] [vi b] N := by
      intro N b hN hSN hb
      have dd := hD.eq hN
      have d5' : N 43 5 = ((k + 1 : Nat) : Int) := dd.1
      have g44f := dd.2.1 f hf3
      refine AW.run ck_Wa_goOn [125] 10 101 ?_
      simp only [wR, wB, wE0, wE1, wE2, wE3, g0, gS, s10, s11, s1S, s20, s21, s2S, kl0, kl1, kl2, kl3, sp0, sp1, sp2, sp3, cn1, cn2, cn3, cn4, cn5, cn6, jJa, lk0, lk1, jmS, jmN, s4_0, s4_1, s4_2, s4_3, s4_4, sw0, sw1, cKs, cKn, true_and, and_true, List.map_cons, List.map_nil, Nat.reduceAdd, Nat.zero_add, Int.reduceAdd, Nat.reduceEqDiff, reduceIte, Classical.not_not, b_Wa_goOn, shWa, g44f]
      rcases hb with ⟨rfl, ho⟩ | ⟨rfl, ho⟩
      · have := a125 N 0 hN hSN (Or.inl ⟨rfl, ho⟩)
        (repeat' (first | omega | (with_reducible exact True.intro) | exact ⟨by omega, by omega⟩ | (with_reducible exact Or.inr trivial) | (with_reducible exact Or.inl trivial) | (with_reducible assumption) | (with_reducible exact Same.refl) | (with_reducible rfl) | (with_reducible refine And.intro ?_ ?_) | (with_reducible intro _)))
      · by_cases qm : mk f = 0
        · simp only [wR, wB, wE0, wE1, wE2, wE3, g0, gS, s10, s11, s1S, s20, s21, s2S, kl0, kl1, kl2, kl3, sp0, sp1, sp2, sp3, cn1, cn2, cn3, cn4, cn5, cn6, jJa, lk0, lk1, jmS, jmN, s4_0, s4_1, s4_2, s4_3, s4_4, sw0, sw1, cKs, cKn, true_and, and_true, List.map_cons, List.map_nil, Nat.reduceAdd, Nat.zero_add, Int.reduceAdd, Nat.reduceEqDiff, reduceIte, Classical.not_not, nc1, up_rd, Int.reduceEq, and_false, false_and, and_self, reduceIte, not_true_eq_false, not_false_eq_true, false_imp_iff, true_imp_iff, true_or, or_true]
          have hne : f ≠ pa k := fun e => by rw [e, hkk.2] at qm; cases qm
          have hd2 : k + 1 < 3125 := by
            have hI2 := hI.opn ht hn ho hff hfB qm (by unfold okP; simp)
            have hn := map_nodup (c := ud pa (k + 1) f) (n := k + 2) hI2.2.2.2.1
            have := len_lt (N := 3125) hn (fun x hx => by
              obtain ⟨j, hj, e⟩ := List.mem_map.mp hx
              rw [← e]
              have := (hI2.2.2.1 j (List.mem_range.mp hj)).1
              omega)
            rw [List.length_map, List.length_range] at this
            omega
          have hI2 := hI.opn ht hn ho hff hfB qm (by unfold okP; simp)
          have hmu := mu_open (tu := tu) (k := k) hf3 qm
          refine ⟨⟨by omega, by omega⟩, fun e => absurd e (by omega), fun _ => ⟨by omega, MS.to (c_Wa_open (d := d - 1) (by omega) hf3 d5' hd2) fun _ => ?_⟩⟩
          simp only [wR, wB, wE0, wE1, wE2, wE3, g0, gS, s10, s11, s1S, s20, s21, s2S, kl0, kl1, kl2, kl3, sp0, sp1, sp2, sp3, cn1, cn2, cn3, cn4, cn5, cn6, jJa, lk0, lk1, jmS, jmN, s4_0, s4_1, s4_2, s4_3, s4_4, sw0, sw1, cKs, cKn, true_and, and_true, List.map_cons, List.map_nil, Nat.reduceAdd, Nat.zero_add, Int.reduceAdd, Nat.reduceEqDiff, reduceIte, Classical.not_not, b_Wa_goOn]
          subst hQ
          unfold opM
          refine ⟨rfl, ⟨_, _, _, _, _, _, ⟨by rw [up_eq]; rfl, fun s hs => ?_, fun s hs hm => ?_, fun j hj => ?_⟩, hI2, hmu⟩, hSN.1.same (ps := [44, 45, 46, 47, 48, 43]) ((((((Same.refl.up (by simp)).up (by simp)).up (by simp)).up (by simp)).up (by simp)).up (by simp)) (fun x h1 h2 => by (first | decide | (simp only [List.mem_cons, List.not_mem_nil, or_false, not_or, not_false_eq_true, and_true]; omega) | (simp [List.mem_cons]; done))), ((((((hN.mono (by simp)).up (by simp)).up (by simp)).up (by simp)).up (by simp)).up (by simp)).up (by simp), ?_⟩
          · rw [up_ne1 (by omega), up_ne1 (by omega), up_ne1 (by omega), up_ne1 (by omega), up_ne1 (by omega)]
            by_cases e : s = f
            · subst e; rw [up_eq, ud_eq]; rfl
            · rw [up_ne2 (by omega), ud_ne e]; exact dd.2.1 s hs
          · rw [up_ne1 (by omega), up_ne1 (by omega), up_ne1 (by omega), up_ne1 (by omega), up_ne1 (show (46 : Int) ≠ 43 by omega), up_ne1 (show (46 : Int) ≠ 48 by omega), up_ne1 (show (46 : Int) ≠ 47 by omega)]
            by_cases e : s = f
            · subst e; rw [up_eq, up_eq, ud_eq, ud_eq]; exact ⟨rfl, rfl⟩
            · rw [ud_ne e] at hm
              rw [up_ne2 (by omega), up_ne1 (by omega), up_ne2 (by omega), up_ne1 (by omega), up_ne1 (by omega), ud_ne e, ud_ne e]; exact dd.2.2.1 s hs hm
          · by_cases e : j = k + 1
            · subst e
              rw [ud_eq, ud_eq, up_ne1 (by omega), up_ne1 (by omega), up_eq, up_ne1 (by omega), up_eq]; exact ⟨rfl, rfl⟩
            · rw [ud_ne e, ud_ne e, up_ne1 (by omega), up_ne1 (by omega), up_ne2 (by omega), up_ne1 (by omega), up_ne1 (by omega), up_ne1 (by omega), up_ne1 (show (48 : Int) ≠ 43 by omega), up_ne2 (by omega), up_ne1 (by omega), up_ne1 (by omega), up_ne1 (by omega), up_ne1 (by omega)]
              exact dd.2.2.2 j (by omega)
          · rw [up_ne2 (by omega), up_ne1 (by omega), up_ne1 (by omega), up_ne1 (by omega), up_ne1 (by omega), up_ne1 (by omega)]
            exact hN.at 43 _ (by (first | decide | (simp only [List.mem_cons, List.not_mem_nil, or_false, not_or, not_false_eq_true, and_true]; omega) | (simp [List.mem_cons]; done)))
        · have := a125 N 1 hN hSN (Or.inr ⟨rfl, ho, qm⟩)
          (repeat' (first | omega | (with_reducible exact True.intro) | exact ⟨by omega, by omega⟩ | (with_reducible exact Or.inr trivial) | (with_reducible exact Or.inl trivial) | (with_reducible assumption) | (with_reducible exact Same.refl) | (with_reducible rfl) | (with_reducible refine And.intro ?_ ?_) | (with_reducible intro _)))
    (repeat' (first | omega | (with_reducible exact True.intro) | exact ⟨by omega, by omega⟩ | (with_reducible exact Or.inr trivial) | (with_reducible exact Or.inl trivial) | (with_reducible assumption) | (with_reducible exact Same.refl) | (with_reducible rfl) | (with_reducible refine And.intro ?_ ?_) | (with_reducible intro _)))
    refine AW.run ck_Wa_goOn [101] 10 51 ?_
    simp only [wR, wB, wE0, wE1, wE2, wE3, g0, gS, s10, s11, s1S, s20, s21, s2S, kl0, kl1, kl2, kl3, sp0, sp1, sp2, sp3, cn1, cn2, cn3, cn4, cn5, cn6, jJa, lk0, lk1, jmS, jmN, s4_0, s4_1, s4_2, s4_3, s4_4, sw0, sw1, cKs, cKn, true_and, and_true, List.map_cons, List.map_nil, Nat.reduceAdd, Nat.zero_add, Int.reduceAdd, Nat.reduceEqDiff, reduceIte, Classical.not_not, b_Wa_goOn, shWa, shSt]
    refine ⟨by omega, (c_St_standAt hok hS hkk.1).mono ?_⟩
    rintro r' N okN ⟨rfl, hSN, hN⟩
    have e6 : N 33 6 = ((abW h.P (sideS sd h.P side) (pa k) : Nat) : Int) := hSN.2.1
    have habl := abW_lt (W := sideS sd h.P side) (s := pa k) hP
    simp only [wR, wB, wE0, wE1, wE2, wE3, g0, gS, s10, s11, s1S, s20, s21, s2S, kl0, kl1, kl2, kl3, sp0, sp1, sp2, sp3, cn1, cn2, cn3, cn4, cn5, cn6, jJa, lk0, lk1, jmS, jmN, s4_0, s4_1, s4_2, s4_3, s4_4, sw0, sw1, cKs, cKn, true_and, and_true, List.map_cons, List.map_nil, Nat.reduceAdd, Nat.zero_add, Int.reduceAdd, Nat.reduceEqDiff, reduceIte, Classical.not_not, b_Wa_goOn, shWa, shSt, e6, bAnd_n (show abW h.P (sideS sd h.P side) (pa k) < 2 ^ 31 by omega), abW_pe hP hpe h32]
    refine ⟨by omega, MS.to (c_H_nextWithin hn hand) fun _ => ?_⟩
    rw [haf]
    simp only [wR, wB, wE0, wE1, wE2, wE3, g0, gS, s10, s11, s1S, s20, s21, s2S, kl0, kl1, kl2, kl3, sp0, sp1, sp2, sp3, cn1, cn2, cn3, cn4, cn5, cn6, jJa, lk0, lk1, jmS, jmN, s4_0, s4_1, s4_2, s4_3, s4_4, sw0, sw1, cKs, cKn, true_and, and_true, List.map_cons, List.map_nil, Nat.reduceAdd, Nat.zero_add, Int.reduceAdd, Nat.reduceEqDiff, reduceIte, Classical.not_not, b_Wa_goOn, shWa, shSt]
    refine ⟨by omega, MS.to (c_St_to hok hSN hnP hsub) fun _ => ?_⟩
    rw [hff]
    simp only [wR, wB, wE0, wE1, wE2, wE3, g0, gS, s10, s11, s1S, s20, s21, s2S, kl0, kl1, kl2, kl3, sp0, sp1, sp2, sp3, cn1, cn2, cn3, cn4, cn5, cn6, jJa, lk0, lk1, jmS, jmN, s4_0, s4_1, s4_2, s4_3, s4_4, sw0, sw1, cKs, cKn, true_and, and_true, List.map_cons, List.map_nil, Nat.reduceAdd, Nat.zero_add, Int.reduceAdd, Nat.reduceEqDiff, reduceIte, Classical.not_not, b_Wa_goOn, shWa, shSt]
    refine ⟨by omega, MS.to (c_St_hands (d := d - 1) (by omega) hok hSN hn) fun _ => ?_⟩
    rw [pop_handsW hP hn]
    simp only [wR, wB, wE0, wE1, wE2, wE3, g0, gS, s10, s11, s1S, s20, s21, s2S, kl0, kl1, kl2, kl3, sp0, sp1, sp2, sp3, cn1, cn2, cn3, cn4, cn5, cn6, jJa, lk0, lk1, jmS, jmN, s4_0, s4_1, s4_2, s4_3, s4_4, sw0, sw1, cKs, cKn, true_and, and_true, List.map_cons, List.map_nil, Nat.reduceAdd, Nat.zero_add, Int.reduceAdd, Nat.reduceEqDiff, reduceIte, Classical.not_not, b_Wa_goOn, shWa, shSt]
    by_cases qh : must ≤ hands h sd cold (pa k) n side
    · (repeat' (first | omega | (with_reducible exact True.intro) | exact ⟨by omega, by omega⟩ | (with_reducible exact Or.inr trivial) | (with_reducible exact Or.inl trivial) | (with_reducible assumption) | (with_reducible exact Same.refl) | (with_reducible rfl) | (with_reducible refine And.intro ?_ ?_) | (with_reducible intro _)))
      refine MS.to c_Wa_inStates fun _ => ?_
      rw [if_pos ⟨by omega, by omega⟩]
      have := a101 N 1 hN hSN (Or.inr ⟨rfl, okH_of hsb qh⟩)
      simp only [wR, wB, wE0, wE1, wE2, wE3, g0, gS, s10, s11, s1S, s20, s21, s2S, kl0, kl1, kl2, kl3, sp0, sp1, sp2, sp3, cn1, cn2, cn3, cn4, cn5, cn6, jJa, lk0, lk1, jmS, jmN, s4_0, s4_1, s4_2, s4_3, s4_4, sw0, sw1, cKs, cKn, true_and, and_true, List.map_cons, List.map_nil, Nat.reduceAdd, Nat.zero_add, Int.reduceAdd, Nat.reduceEqDiff, reduceIte, Classical.not_not, b_Wa_goOn, shWa]
      (repeat' (first | omega | (with_reducible exact True.intro) | exact ⟨by omega, by omega⟩ | (with_reducible exact Or.inr trivial) | (with_reducible exact Or.inl trivial) | (with_reducible assumption) | (with_reducible exact Same.refl) | (with_reducible rfl) | (with_reducible refine And.intro ?_ ?_) | (with_reducible intro _)))
    · have := a101 N 0 hN hSN (Or.inl ⟨rfl, by unfold okH; simp [qh]⟩)
      (repeat' (first | omega | (with_reducible exact True.intro) | exact ⟨by omega, by omega⟩ | (with_reducible exact Or.inr trivial) | (with_reducible exact Or.inl trivial) | (with_reducible assumption) | (with_reducible exact Same.refl) | (with_reducible rfl) | (with_reducible refine And.intro ?_ ?_) | (with_reducible intro _)))
end WG
