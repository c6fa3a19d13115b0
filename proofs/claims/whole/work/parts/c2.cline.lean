section TA
variable {G : AG} {d : Nat} {M N K : AM} {t : Nat → Nat} {n m k w : Nat} {h : Hl} {mo : Mo} {z : Int}
/-- only the reader's place, token and fault have changed -/
def F2 (M N : AM) : Prop := Same [2] M N ∧ ∀ y : Int, y ≠ 0 → y ≠ 1 → y ≠ 7 → y ≠ 8 → N 2 y = M 2 y
theorem F2.refl : F2 M M := ⟨Same.refl, fun _ _ _ _ _ => rfl⟩
theorem F2.trans (a : F2 M N) (b : F2 N K) : F2 M K := ⟨a.1.trans b.1, fun y h0 h1 h7 h8 => (b.2 y h0 h1 h7 h8).trans (a.2 y h0 h1 h7 h8)⟩
theorem F2.up {y v : Int} (a : F2 M N) (hy : y = 0 ∨ y = 1 ∨ y = 7 ∨ y = 8) : F2 M (up N 2 y v) := ⟨a.1.up (by simp), fun y' h0 h1 h7 h8 => by rw [up_ne2 (by omega)]; exact a.2 y' h0 h1 h7 h8⟩
theorem F2.pl {x : Int} (a : F2 M N) (hx : x ≠ 2) : N x = M x := a.1 x (by simp only [List.mem_cons, List.not_mem_nil, or_false]; exact hx)
def Bd0 (t : Nat → Nat) (n : Nat) (N : AM) (w k : Nat) : Prop := N 2 0 = ((fkd (kin t n (pls t n (k))) w : Nat) : Int) ∧ N 2 1 = ((pls t n k : Nat) : Int) ∧ N 2 8 = 23 ∧ w ≠ 0
theorem Bd0.ne (h : Bd0 t n N w k) : N 2 0 ≠ 0 := by
  obtain ⟨h1, _, _, h2⟩ := h
  rw [h1]
  unfold fkd
  split <;> omega
theorem Bd0.mk' (hw : w ≠ 0) : Bd0 t n (up (up (up M 2 0 ((fkd (kin t n (pls t n (k))) w : Nat) : Int)) 2 1 ((pls t n k : Nat) : Int)) 2 8 23) w k := ⟨by rw [up_ne2 (by omega), up_ne2 (by omega), up_eq], by rw [up_ne2 (by omega), up_eq], up_eq _ _ _ _, hw⟩
theorem Bd0.eq (h : Bd0 t n M w k) (e : N 2 = M 2) : Bd0 t n N w k := by
  unfold Bd0
  rw [e]
  exact h
theorem Bd0.up {x y v : Int} (h : Bd0 t n M w k) (hx : 7 ≤ x) : Bd0 t n (up M x y v) w k := h.eq (up_z (by omega))
theorem AtC.c7 {x y v : Int} (h : AtC M t n m k) (hx : 7 ≤ x) : AtC (up M x y v) t n m k := by
  obtain ⟨a, b, c, e, f, g⟩ := h
  exact ⟨a.eq (up_z (by omega)) (up_z (by omega)) (up_z (by omega)), b, by rw [up_ne1 (by omega)]; exact c, by rw [up_ne1 (by omega)]; exact e, by rw [up_ne1 (by omega)]; exact f, by rw [up_ne1 (by omega)]; exact g⟩
theorem c_Rd_next_2 (hA : AtC M t n m k) (hk : kin t n (pls t n (k)) ≠ 24 ∧ kin t n (pls t n (k)) ≠ 25) : MS G d mi_Rd_next [vr 2] M (fun r M' => r = none ∧ AtC M' t n m (k + 1) ∧ F2 M M') := by
  refine (c_Rd_next hA hk).mono ?_
  rintro r M' _ ⟨rfl, a, rfl⟩
  exact ⟨rfl, a, (F2.refl.up (by omega)).up (by omega)⟩
theorem c_Rd_refuse_2 {w : Nat} (hw : w ≠ 0) (hA : AtC M t n m k) : MS G d mi_Rd_refuse [vr 2, vi w] M (fun r M' => r = none ∧ Bd0 t n M' w k ∧ F2 M M') := by
  refine (c_Rd_refuse hA).mono ?_
  rintro r M' _ ⟨rfl, rfl⟩
  exact ⟨rfl, Bd0.mk' hw, ((F2.refl.up (by omega)).up (by omega)).up (by omega)⟩
theorem c_Rd_word_2 {x : Nat} (hd : 1 ≤ d) (hA : AtC M t n m k) (hv : vK x) (h24 : x ≠ 24 ∧ x ≠ 25) : MS G d mi_Rd_word [vr 2, vi (ck x)] M (fun r M' => r = none ∧ F2 M M' ∧ ((kin t n (pls t n (k)) = x ∧ AtC M' t n m (k + 1)) ∨ (kin t n (pls t n (k)) ≠ x ∧ Bd0 t n M' 2 k))) := by
  by_cases q : kin t n (pls t n (k)) = x
  · refine (c_Rd_word_yes hd hA q h24).mono ?_
    rintro r M' _ ⟨rfl, a, rfl⟩
    exact ⟨rfl, (F2.refl.up (by omega)).up (by omega), Or.inl ⟨q, a⟩⟩
  · refine (c_Rd_word_no hd hA q hv).mono ?_
    rintro r M' _ ⟨rfl, rfl⟩
    exact ⟨rfl, ((F2.refl.up (by omega)).up (by omega)).up (by omega), Or.inr ⟨q, Bd0.mk' (by omega)⟩⟩
theorem c_Rd_sign_2 {x : Nat} {c : Int} (hd : 2 ≤ d) (hA : AtC M t n m k) (hv : vK x) (h24 : x ≠ 24 ∧ x ≠ 25) (hc : (ck x : Int) = 100 + c) (hcr : 0 ≤ c ∧ c < 256) : MS G d mi_Rd_sign [vr 2, vi c] M (fun r M' => r = none ∧ F2 M M' ∧ ((kin t n (pls t n (k)) = x ∧ AtC M' t n m (k + 1)) ∨ (kin t n (pls t n (k)) ≠ x ∧ Bd0 t n M' 2 k))) := by
  by_cases q : kin t n (pls t n (k)) = x
  · refine (c_Rd_sign_yes hd hA q h24 hc hcr).mono ?_
    rintro r M' _ ⟨rfl, a, rfl⟩
    exact ⟨rfl, (F2.refl.up (by omega)).up (by omega), Or.inl ⟨q, a⟩⟩
  · refine (c_Rd_sign_no hd hA q hv hc hcr).mono ?_
    rintro r M' _ ⟨rfl, rfl⟩
    exact ⟨rfl, ((F2.refl.up (by omega)).up (by omega)).up (by omega), Or.inr ⟨q, Bd0.mk' (by omega)⟩⟩
theorem c_Rd_number_z {most : Nat} {g : Nat → Rz} (hd : 1 ≤ d) (hm : most ≤ 100) (hA : AtC M t n m k) : MS G d mi_Rd_number [vr 2, vi most] M (fun r M' => F2 M M' ∧ ((∃ y : Nat, r = some (vi y) ∧ y ≤ most ∧ nuZ t n most k g = g y ∧ AtC M' t n m (k + 1) ∧ kin t n (pls t n (k)) = 23) ∨ ∃ w, r = some (vi 0) ∧ nuZ t n most k g = Rz.bad w k ∧ Bd0 t n M' w k)) := by
  have h8 := hA.2.2.2.1
  have h7 := hA.2.2.1
  have hk := hA.m9
  have e21 := ckq (kk := kin t n (pls t n (k))) (x := 23) (v := 21) kin_v (by unfold vK; omega) (by decide +kernel)
  have i6 : isArr 6 := ⟨_, (arT_of (k := 6) rfl rfl).1⟩
  by_cases q : kin t n (pls t n (k)) = 23
  · have h6 := (hA.1.2.1 k hA.2.1).2.2 q
    have hv := vn_b q
    rw [e21.mpr q] at h8
    by_cases hb : vlu t (pls t n (k)) (tEnd t n (pls t n (k)) - pls t n (k)) ≤ (most : Int)
    · have hnx := c_Rd_next_2 (G := G) (d := d - 1) hA (by omega)
      have hz := nuZ_y (g := g) q hb
      generalize vlu t (pls t n (k)) (tEnd t n (pls t n (k)) - pls t n (k)) = x at *
      refine MS.run ck_Rd_number [some (vr 2), some (vi most), none] [] 12 fun _ _ => ?_
      simp only [wR, wB, wE0, wE1, wE2, wE3, g0, gS, s10, s11, s1S, s20, s21, s2S, kl0, kl1, kl2, kl3, sp0, sp1, sp2, sp3, cn1, cn2, cn3, cn4, cn5, cn6, jJa, lk0, lk1, jmS, jmN, s4_0, s4_1, s4_2, s4_3, s4_4, sw0, sw1, cKs, cKn, true_and, and_true, List.map_cons, List.map_nil, Nat.reduceAdd, Nat.zero_add, Int.reduceAdd, Nat.reduceEqDiff, reduceIte, Classical.not_not, b_Rd_number, shH, i6, h8, h7, h6, Int.reduceEq, not_true_eq_false, not_false_eq_true, false_imp_iff, true_imp_iff, and_self]
      (repeat' (first | omega | (with_reducible exact True.intro) | exact ⟨by omega, by omega⟩ | (with_reducible exact Or.inr trivial) | (with_reducible exact Or.inl trivial) | (with_reducible assumption) | (with_reducible exact Same.refl) | (with_reducible rfl) | (with_reducible refine And.intro ?_ ?_) | (with_reducible intro _)))
      refine hnx.mono ?_
      rintro r M1 _ ⟨rfl, a, b⟩
      simp only [wR, wB, wE0, wE1, wE2, wE3, g0, gS, s10, s11, s1S, s20, s21, s2S, kl0, kl1, kl2, kl3, sp0, sp1, sp2, sp3, cn1, cn2, cn3, cn4, cn5, cn6, jJa, lk0, lk1, jmS, jmN, s4_0, s4_1, s4_2, s4_3, s4_4, sw0, sw1, cKs, cKn, true_and, and_true, List.map_cons, List.map_nil, Nat.reduceAdd, Nat.zero_add, Int.reduceAdd, Nat.reduceEqDiff, reduceIte, Classical.not_not, b_Rd_number, shH, Int.reduceEq, not_true_eq_false, not_false_eq_true, false_imp_iff, true_imp_iff, and_self]
      exact ⟨b, Or.inl ⟨x.toNat, by rw [show ((x.toNat : Nat) : Int) = x by omega], by omega, hz, a, q⟩⟩
    · have hrf := c_Rd_refuse_2 (G := G) (d := d - 1) (w := 3) (by omega) hA
      have hz := nuZ_b (g := g) q hb
      generalize vlu t (pls t n (k)) (tEnd t n (pls t n (k)) - pls t n (k)) = x at *
      refine MS.run ck_Rd_number [some (vr 2), some (vi most), none] [] 12 fun _ _ => ?_
      simp only [wR, wB, wE0, wE1, wE2, wE3, g0, gS, s10, s11, s1S, s20, s21, s2S, kl0, kl1, kl2, kl3, sp0, sp1, sp2, sp3, cn1, cn2, cn3, cn4, cn5, cn6, jJa, lk0, lk1, jmS, jmN, s4_0, s4_1, s4_2, s4_3, s4_4, sw0, sw1, cKs, cKn, true_and, and_true, List.map_cons, List.map_nil, Nat.reduceAdd, Nat.zero_add, Int.reduceAdd, Nat.reduceEqDiff, reduceIte, Classical.not_not, b_Rd_number, shH, i6, h8, h7, h6, Int.reduceEq, not_true_eq_false, not_false_eq_true, false_imp_iff, true_imp_iff, and_self]
      (repeat' (first | omega | (with_reducible exact True.intro) | exact ⟨by omega, by omega⟩ | (with_reducible exact Or.inr trivial) | (with_reducible exact Or.inl trivial) | (with_reducible assumption) | (with_reducible exact Same.refl) | (with_reducible rfl) | (with_reducible refine And.intro ?_ ?_) | (with_reducible intro _)))
      refine hrf.mono ?_
      rintro r M1 _ ⟨rfl, a, b⟩
      simp only [wR, wB, wE0, wE1, wE2, wE3, g0, gS, s10, s11, s1S, s20, s21, s2S, kl0, kl1, kl2, kl3, sp0, sp1, sp2, sp3, cn1, cn2, cn3, cn4, cn5, cn6, jJa, lk0, lk1, jmS, jmN, s4_0, s4_1, s4_2, s4_3, s4_4, sw0, sw1, cKs, cKn, true_and, and_true, List.map_cons, List.map_nil, Nat.reduceAdd, Nat.zero_add, Int.reduceAdd, Nat.reduceEqDiff, reduceIte, Classical.not_not, b_Rd_number, shH, Int.reduceEq, not_true_eq_false, not_false_eq_true, false_imp_iff, true_imp_iff, and_self]
      exact ⟨b, Or.inr ⟨3, hz, a⟩⟩
  · have hrf := c_Rd_refuse_2 (G := G) (d := d - 1) (w := 2) (by omega) hA
    have hz := nuZ_n (most := most) (g := g) q
    have q' : ¬ ((ck (kin t n (pls t n (k))) : Nat) : Int) = 21 := fun e => q (e21.mp e)
    generalize ((ck (kin t n (pls t n (k))) : Nat) : Int) = x at h8 q'
    refine MS.run ck_Rd_number [some (vr 2), some (vi most), none] [] 12 fun _ _ => ?_
    simp only [wR, wB, wE0, wE1, wE2, wE3, g0, gS, s10, s11, s1S, s20, s21, s2S, kl0, kl1, kl2, kl3, sp0, sp1, sp2, sp3, cn1, cn2, cn3, cn4, cn5, cn6, jJa, lk0, lk1, jmS, jmN, s4_0, s4_1, s4_2, s4_3, s4_4, sw0, sw1, cKs, cKn, true_and, and_true, List.map_cons, List.map_nil, Nat.reduceAdd, Nat.zero_add, Int.reduceAdd, Nat.reduceEqDiff, reduceIte, Classical.not_not, b_Rd_number, shH, i6, h8]
    (repeat' (first | omega | (with_reducible exact True.intro) | exact ⟨by omega, by omega⟩ | (with_reducible exact Or.inr trivial) | (with_reducible exact Or.inl trivial) | (with_reducible assumption) | (with_reducible exact Same.refl) | (with_reducible rfl) | (with_reducible refine And.intro ?_ ?_) | (with_reducible intro _)))
    refine hrf.mono ?_
    rintro r M1 _ ⟨rfl, a, b⟩
    simp only [wR, wB, wE0, wE1, wE2, wE3, g0, gS, s10, s11, s1S, s20, s21, s2S, kl0, kl1, kl2, kl3, sp0, sp1, sp2, sp3, cn1, cn2, cn3, cn4, cn5, cn6, jJa, lk0, lk1, jmS, jmN, s4_0, s4_1, s4_2, s4_3, s4_4, sw0, sw1, cKs, cKn, true_and, and_true, List.map_cons, List.map_nil, Nat.reduceAdd, Nat.zero_add, Int.reduceAdd, Nat.reduceEqDiff, reduceIte, Classical.not_not, b_Rd_number, shH, Int.reduceEq, not_true_eq_false, not_false_eq_true, false_imp_iff, true_imp_iff, and_self]
    exact ⟨b, Or.inr ⟨2, hz, a⟩⟩
theorem c_Rd_number_g {a : Int} (hd : 1 ≤ d) (h : M 2 0 ≠ 0) (h8 : M 2 8 = 23) : MS G d mi_Rd_number [vr 2, vi a] M (fun r M' => r = some (vi 0) ∧ M' = M) := by
  have hrf := c_Rd_refuse_g (G := G) (d := d - 1) (w := 2) h h8
  refine MS.run ck_Rd_number [some (vr 2), some (vi a), none] [] 12 fun _ _ => ?_
  simp only [wR, wB, wE0, wE1, wE2, wE3, g0, gS, s10, s11, s1S, s20, s21, s2S, kl0, kl1, kl2, kl3, sp0, sp1, sp2, sp3, cn1, cn2, cn3, cn4, cn5, cn6, jJa, lk0, lk1, jmS, jmN, s4_0, s4_1, s4_2, s4_3, s4_4, sw0, sw1, cKs, cKn, true_and, and_true, List.map_cons, List.map_nil, Nat.reduceAdd, Nat.zero_add, Int.reduceAdd, Nat.reduceEqDiff, reduceIte, Classical.not_not, b_Rd_number, shH, h8, Int.reduceEq, not_true_eq_false, not_false_eq_true, false_imp_iff, true_imp_iff, and_self]
  (repeat' (first | omega | (with_reducible exact True.intro) | exact ⟨by omega, by omega⟩ | (with_reducible exact Or.inr trivial) | (with_reducible exact Or.inl trivial) | (with_reducible assumption) | (with_reducible exact Same.refl) | (with_reducible rfl) | (with_reducible refine And.intro ?_ ?_) | (with_reducible intro _)))
  refine MS.to hrf fun _ => ?_
  simp only [wR, wB, wE0, wE1, wE2, wE3, g0, gS, s10, s11, s1S, s20, s21, s2S, kl0, kl1, kl2, kl3, sp0, sp1, sp2, sp3, cn1, cn2, cn3, cn4, cn5, cn6, jJa, lk0, lk1, jmS, jmN, s4_0, s4_1, s4_2, s4_3, s4_4, sw0, sw1, cKs, cKn, true_and, and_true, List.map_cons, List.map_nil, Nat.reduceAdd, Nat.zero_add, Int.reduceAdd, Nat.reduceEqDiff, reduceIte, Classical.not_not, b_Rd_number, shH, Int.reduceEq, not_true_eq_false, not_false_eq_true, false_imp_iff, true_imp_iff, and_self]
/-! a hall in the class's spare place, as it is being told -/
def CF (M : AM) (z : Int) (h : Hl) (m : Mo) : Prop := CH M z h ∧ M z 3 = m.cold ∧ M z 4 = ((sdB m.sd h.P : Nat) : Int) ∧ ∀ p : Nat, p < h.P → M (z + 1) (p : Int) = m.st p
theorem CLaw.up {zz x y v : Int} {n : Nat} {code : Nat → Int} (H : CLaw M zz n code) (h1 : zz ≠ x) (h2 : zz + 1 ≠ x) : CLaw (up M x y v) zz n code := H.eq (up_z h1) (up_z h2)
theorem CF.eq (H : CF M z h mo) (e : ∀ x : Int, z ≤ x → x ≤ z + 8 → N x = M x) : CF N z h mo := by
  obtain ⟨a, b3, b4, bs⟩ := H
  have e0 := e z (by omega) (by omega)
  refine ⟨a.eq e0 (e _ (by omega) (by omega)) (e _ (by omega) (by omega)) (e _ (by omega) (by omega)) (e _ (by omega) (by omega)) (e _ (by omega) (by omega)), by rw [e0]; exact b3, by rw [e0]; exact b4, fun p hp => by rw [e _ (by omega) (by omega)]; exact bs p hp⟩
theorem CF.f2 (hz : z = 7 ∨ z = 16) (H : CF M z h mo) (f : F2 M N) : CF N z h mo := H.eq fun x h1 h2 => f.pl (by omega)
theorem CF.must {x : Nat} (H : CF M z h mo) : CF (up M z 1 (x : Int)) z (h.sMust x) mo := by
  obtain ⟨⟨a0, a1, a2, a5, aw, la, lc⟩, b3, b4, bs⟩ := H
  refine ⟨⟨?_, up_eq _ _ _ _, ?_, ?_, fun p hp => ?_, la.up (by omega) (by omega), lc.up (by omega) (by omega)⟩, ?_, ?_, fun p hp => ?_⟩
  · rw [up_ne2 (by omega)]; exact a0
  · rw [up_ne2 (by omega)]; exact a2
  · rw [up_ne2 (by omega)]; exact a5
  · rw [up_ne1 (by omega)]; exact aw p hp
  · rw [up_ne2 (by omega)]; exact b3
  · rw [up_ne2 (by omega)]; exact b4
  · rw [up_ne1 (by omega)]; exact bs p hp
theorem CF.line (H : CF M z h mo) : CF (up M z 0 ((h.lines + 1 : Nat) : Int)) z h.sLine mo := by
  obtain ⟨⟨a0, a1, a2, a5, aw, la, lc⟩, b3, b4, bs⟩ := H
  refine ⟨⟨up_eq _ _ _ _, ?_, ?_, ?_, fun p hp => ?_, la.up (by omega) (by omega), lc.up (by omega) (by omega)⟩, ?_, ?_, fun p hp => ?_⟩
  · rw [up_ne2 (by omega)]; exact a1
  · rw [up_ne2 (by omega)]; exact a2
  · rw [up_ne2 (by omega)]; exact a5
  · rw [up_ne1 (by omega)]; exact aw p hp
  · rw [up_ne2 (by omega)]; exact b3
  · rw [up_ne2 (by omega)]; exact b4
  · rw [up_ne1 (by omega)]; exact bs p hp
theorem CF.cold {x : Nat} (H : CF M z h mo) : CF (up M z 3 (x : Int)) z h (mo.chill x) := by
  obtain ⟨⟨a0, a1, a2, a5, aw, la, lc⟩, b3, b4, bs⟩ := H
  refine ⟨⟨?_, ?_, ?_, ?_, fun p hp => ?_, la.up (by omega) (by omega), lc.up (by omega) (by omega)⟩, up_eq _ _ _ _, ?_, fun p hp => ?_⟩
  · rw [up_ne2 (by omega)]; exact a0
  · rw [up_ne2 (by omega)]; exact a1
  · rw [up_ne2 (by omega)]; exact a2
  · rw [up_ne2 (by omega)]; exact a5
  · rw [up_ne1 (by omega)]; exact aw p hp
  · rw [up_ne2 (by omega)]; exact b4
  · rw [up_ne1 (by omega)]; exact bs p hp
theorem CF.wt {p x : Nat} (H : CF M z h mo) : CF (up M (z + 2) (p : Int) (x : Int)) z (h.sWt p x) mo := by
  obtain ⟨⟨a0, a1, a2, a5, aw, la, lc⟩, b3, b4, bs⟩ := H
  refine ⟨⟨?_, ?_, ?_, ?_, fun q hq => ?_, la.up (by omega) (by omega), lc.up (by omega) (by omega)⟩, ?_, ?_, fun p hp => ?_⟩
  case refine_5 =>
    show _ = ((if q = p then x else h.wt q : Nat) : Int)
    by_cases e : q = p
    · rw [e, up_eq, if_pos rfl]
    · rw [up_ne2 (by omega), if_neg e]; exact aw q hq
  all_goals rw [up_ne1 (by omega)]
  · exact a0
  · exact a1
  · exact a2
  · exact a5
  · exact b3
  · exact b4
  · exact bs p hp
theorem CF.strn {p x : Nat} (H : CF M z h mo) : CF (up M (z + 1) (p : Int) (x : Int)) z h (mo.sSt p x) := by
  obtain ⟨⟨a0, a1, a2, a5, aw, la, lc⟩, b3, b4, bs⟩ := H
  refine ⟨⟨?_, ?_, ?_, ?_, fun q hq => ?_, la.up (by omega) (by omega), lc.up (by omega) (by omega)⟩, ?_, ?_, fun q hq => ?_⟩
  case refine_8 =>
    show _ = ((if q = p then x else mo.st q : Nat) : Int)
    by_cases e : q = p
    · rw [e, up_eq, if_pos rfl]
    · rw [up_ne2 (by omega), if_neg e]; exact bs q hq
  all_goals rw [up_ne1 (by omega)]
  · exact a0
  · exact a1
  · exact a2
  · exact a5
  · exact aw q hq
  · exact b3
  · exact b4
theorem or_bitP {f g : Nat → Bool} {P p : Nat} (hP : P ≤ 5) (hp : p < P) (h1 : g p = true) (h2 : ∀ q, q ≠ p → g q = f q) : bOr ((bitsP f P : Nat) : Int) (bShl 1 (p : Int)) = ((bitsP g P : Nat) : Int) := by
  have h32 : bitsP f P < 32 := bitsP32 hP
  have h2p : 2 ^ p < 32 := Nat.pow_lt_pow_right (a := 2) (n := 5) (by omega) (by omega)
  have e2 : bShl 1 (p : Int) = ((2 ^ p : Nat) : Int) := by
    rw [show (1 : Int) = ((1 : Nat) : Int) from rfl, bShl_n (by omega) (by omega), Nat.one_mul]
  rw [e2, bOr_n (by omega) (by omega)]
  congr 1
  have hx : bitsP f P ||| 2 ^ p < 32 := Nat.or_lt_two_pow (n := 5) h32 h2p
  refine bits_eq hx (bitsP32 hP) (fun k hk => ?_)
  have key : ∀ (a : Fin 32) (p k : Fin 5), (a.val ||| 2 ^ p.val) / 2 ^ k.val % 2 = if k = p then 1 else a.val / 2 ^ k.val % 2 := by decide +kernel
  have := key ⟨_, h32⟩ ⟨p, by omega⟩ ⟨k, hk⟩
  simp only [Fin.mk.injEq] at this
  rw [this, bitsP_bit, bitsP_bit]
  by_cases q : k = p
  · subst q
    rw [if_pos rfl, if_pos ⟨hp, h1⟩]
  · rw [if_neg q, h2 k q]
theorem CF.rod {p : Nat} (hP : h.P ≤ 5) (hp : p < h.P) (H : CF M z h mo) : CF (up M z 5 (bOr (M z 5) (bShl 1 (p : Int)))) z (h.sRd p) mo := by
  obtain ⟨⟨a0, a1, a2, a5, aw, la, lc⟩, b3, b4, bs⟩ := H
  refine ⟨⟨?_, ?_, ?_, ?_, fun p hp => ?_, la.up (by omega) (by omega), lc.up (by omega) (by omega)⟩, ?_, ?_, fun p hp => ?_⟩
  · rw [up_ne2 (by omega)]; exact a0
  · rw [up_ne2 (by omega)]; exact a1
  · rw [up_ne2 (by omega)]; exact a2
  · rw [up_eq, a5]
    refine or_bitP (g := fun q => decide ((if q = p then 1 else h.rd q) = 1)) hP hp (by simp) (fun q hq => ?_)
    simp only [if_neg hq]
  · rw [up_ne1 (by omega)]; exact aw p hp
  · rw [up_ne2 (by omega)]; exact b3
  · rw [up_ne2 (by omega)]; exact b4
  · rw [up_ne1 (by omega)]; exact bs p hp
theorem CF.add {y : Nat} (hP : h.P < 5) (hy : y ≤ 1) (H : CF M z h mo) : CF (up (up (up (up M z 4 (bOr (M z 4) (bShl (y : Int) (h.P : Int)))) (z + 1) (h.P : Int) 4) (z + 2) (h.P : Int) 1) z 2 ((h.P + 1 : Nat) : Int)) z h.sAdd (mo.sAdd h.P y) := by
  obtain ⟨⟨a0, a1, a2, a5, aw, la, lc⟩, b3, b4, bs⟩ := H
  have hl := sdB_lt mo.sd h.P
  have h31 : (2 : Nat) ^ h.P ≤ 2 ^ 5 := Nat.pow_le_pow_right (by omega) (by omega)
  refine ⟨⟨?_, ?_, up_eq _ _ _ _, ?_, fun q hq => ?_, (((la.up (by omega) (by omega)).up (by omega) (by omega)).up (by omega) (by omega)).up (by omega) (by omega), (((lc.up (by omega) (by omega)).up (by omega) (by omega)).up (by omega) (by omega)).up (by omega) (by omega)⟩, ?_, ?_, fun q hq => ?_⟩
  · rw [up_ne2 (by omega), up_ne1 (by omega), up_ne1 (by omega), up_ne2 (by omega)]; exact a0
  · rw [up_ne2 (by omega), up_ne1 (by omega), up_ne1 (by omega), up_ne2 (by omega)]; exact a1
  · rw [up_ne2 (by omega), up_ne1 (by omega), up_ne1 (by omega), up_ne2 (by omega), a5]
    congr 1
    show _ = bitsP (fun p => decide ((if p = h.P then 0 else h.rd p) = 1)) h.P + (if decide ((if h.P = h.P then 0 else h.rd h.P) = 1) = true then 2 ^ h.P else 0)
    rw [if_neg (by simp), Nat.add_zero]
    refine bitsP_congr _ fun p hp => ?_
    rw [if_neg (by omega)]
  · rw [up_ne1 (by omega)]
    show _ = ((if q = h.P then 1 else h.wt q : Nat) : Int)
    by_cases e : q = h.P
    · rw [e, up_eq, if_pos rfl]; rfl
    · have hq' : q < h.P + 1 := hq
      rw [up_ne2 (by omega), up_ne1 (by omega), up_ne1 (by omega), if_neg e]; exact aw q (by omega)
  · rw [up_ne2 (by omega), up_ne1 (by omega), up_ne1 (by omega), up_ne2 (by omega)]; exact b3
  · rw [up_ne2 (by omega), up_ne1 (by omega), up_ne1 (by omega), up_eq, b4]
    show _ = ((bitsP (fun p => decide ((if p = h.P then y else mo.sd p) = 1)) h.P + (if decide ((if h.P = h.P then y else mo.sd h.P) = 1) = true then 2 ^ h.P else 0) : Nat) : Int)
    have e1 : bitsP (fun p => decide ((if p = h.P then y else mo.sd p) = 1)) h.P = sdB mo.sd h.P := by
      refine bitsP_congr _ fun p hp => ?_
      rw [if_neg (by omega)]
    rw [e1, if_pos rfl]
    rcases (show y = 0 ∨ y = 1 by omega) with rfl | rfl
    · rw [bShl_n (a := 0) (by omega) (by omega), Nat.zero_mul, if_neg (by simp), Nat.add_zero]
      exact or_0 (by omega)
    · rw [if_pos (by simp)]
      exact or_new hl (by omega)
  · rw [up_ne1 (by omega), up_ne1 (by omega)]
    show _ = ((if q = h.P then 4 else mo.st q : Nat) : Int)
    by_cases e : q = h.P
    · rw [e, up_eq, if_pos rfl]; rfl
    · have hq' : q < h.P + 1 := hq
      rw [up_ne2 (by omega), up_ne1 (by omega), if_neg e]; exact bs q (by omega)
/-- a law read -/
theorem CF.tir {cs : List Int} (H : CF M z h mo) (hs : ∀ x : Int, z ≤ x → x ≤ z + 8 → x ≠ z + 3 → x ≠ z + 3 + 1 → N x = M x) (h1 : N (z + 3) 1 = ((cs.length : Nat) : Int)) (h2 : ∀ i : Nat, i < cs.length → N (z + 3 + 1) (i : Int) = cc (cs.getD i 0)) : CF N z (h.sT cs) mo := by
  obtain ⟨⟨a0, a1, a2, a5, aw, la, lc⟩, b3, b4, bs⟩ := H
  have e0 := hs z (by omega) (by omega) (by omega) (by omega)
  refine ⟨⟨?_, ?_, ?_, ?_, fun p hp => ?_, ⟨h1, h2⟩, lc.eq (hs _ (by omega) (by omega) (by omega) (by omega)) (hs _ (by omega) (by omega) (by omega) (by omega))⟩, ?_, ?_, fun p hp => ?_⟩
  · rw [e0]; exact a0
  · rw [e0]; exact a1
  · rw [e0]; exact a2
  · rw [e0]; exact a5
  · rw [hs _ (by omega) (by omega) (by omega) (by omega)]; exact aw p hp
  · rw [e0]; exact b3
  · rw [e0]; exact b4
  · rw [hs _ (by omega) (by omega) (by omega) (by omega)]; exact bs p hp
theorem CF.cnt {cs : List Int} (H : CF M z h mo) (hs : ∀ x : Int, z ≤ x → x ≤ z + 8 → x ≠ z + 5 → x ≠ z + 5 + 1 → N x = M x) (h1 : N (z + 5) 1 = ((cs.length : Nat) : Int)) (h2 : ∀ i : Nat, i < cs.length → N (z + 5 + 1) (i : Int) = cc (cs.getD i 0)) : CF N z (h.sC cs) mo := by
  obtain ⟨⟨a0, a1, a2, a5, aw, la, lc⟩, b3, b4, bs⟩ := H
  have e0 := hs z (by omega) (by omega) (by omega) (by omega)
  refine ⟨⟨?_, ?_, ?_, ?_, fun p hp => ?_, la.eq (hs _ (by omega) (by omega) (by omega) (by omega)) (hs _ (by omega) (by omega) (by omega) (by omega)), ⟨h1, h2⟩⟩, ?_, ?_, fun p hp => ?_⟩
  · rw [e0]; exact a0
  · rw [e0]; exact a1
  · rw [e0]; exact a2
  · rw [e0]; exact a5
  · rw [hs _ (by omega) (by omega) (by omega) (by omega)]; exact aw p hp
  · rw [e0]; exact b3
  · rw [e0]; exact b4
  · rw [hs _ (by omega) (by omega) (by omega) (by omega)]; exact bs p hp
end TA
