/-! the class's rows -/
def fz (a b : Int) : Prop := (a = 58 ∧ b = 62) ∨ (a = 62 ∧ b = 58)
theorem fz.o {a b : Int} (h : fz a b) : isO a 10 ∧ isO b 10 := by
  rcases h with ⟨rfl, rfl⟩ | ⟨rfl, rfl⟩
  · exact ⟨isO_of (k := 58) rfl rfl, isO_of (k := 62) rfl rfl⟩
  · exact ⟨isO_of (k := 62) rfl rfl, isO_of (k := 58) rfl rfl⟩
theorem fz.symm {a b : Int} (h : fz a b) : fz b a := by
  rcases h with ⟨rfl, rfl⟩ | ⟨rfl, rfl⟩
  · exact Or.inr ⟨rfl, rfl⟩
  · exact Or.inl ⟨rfl, rfl⟩
/-- both fronts -/
def RwT (M : AM) (a b : Int) (F A : FS) : Prop := M 56 1 = a ∧ M 56 2 = b ∧ fz a b ∧ FrT M a F ∧ FrT M b A
theorem RwT.inv {M : AM} {a b : Int} {F A : FS} (h : RwT M a b F A) : RwInv M := ⟨a, b, h.1, h.2.1, h.2.2.1, h.2.2.2.1.inv, h.2.2.2.2.inv⟩
theorem RwT.eq {M N : AM} {a b : Int} {F A : FS} (h : RwT M a b F A) (hs : ∀ x : Int, x = 56 ∨ (58 ≤ x ∧ x ≤ 65) → N x = M x) : RwT N a b F A := by
  obtain ⟨h1, h2, h3, h4, h5⟩ := h
  have h3' := h3
  unfold fz at h3'
  exact ⟨by rw [hs 56 (by omega)]; exact h1, by rw [hs 56 (by omega)]; exact h2, h3, h4.eq (hs _ (by omega)) (hs _ (by omega)) (hs _ (by omega)) (hs _ (by omega)), h5.eq (hs _ (by omega)) (hs _ (by omega)) (hs _ (by omega)) (hs _ (by omega))⟩
theorem fz.ne {a b : Int} (h : fz a b) : ∀ x : Int, 0 ≤ x → x ≤ 3 → ∀ y : Int, 0 ≤ y → y ≤ 3 → a + x ≠ b + y := by
  intro x h1 h2 y h3 h4
  unfold fz at h
  omega
section RO
variable {G : AG} {d : Nat} {M : AM}
theorem c_Ro_begin {s0 : Nat} (hd : 1 ≤ d) (hI : RwInv M) (hs : s0 < 3125) : MS G d mi_Ro_begin [vr 56, vi s0] M (fun r M' => r = none ∧ (∃ a b, RwT M' a b (addF FS.nil s0 1 0) FS.nil) ∧ Same [58, 59, 60, 61, 62, 63, 64, 65] M M') := by
  obtain ⟨a, b, h1, h2, h3, h4, h5⟩ := hI
  have hz : fz a b := h3
  obtain ⟨oa, ob⟩ := hz.o
  refine MS.run ck_Ro_begin [some (vr 56), some (vi s0)] [] 10 fun _ _ => ?_
  simp only [wR, wB, wE0, wE1, wE2, wE3, g0, gS, s10, s11, s1S, s20, s21, s2S, kl0, kl1, kl2, kl3, sp0, sp1, sp2, sp3, cn1, cn2, cn3, cn4, cn5, cn6, jJa, lk0, lk1, jmS, jmN, s4_0, s4_1, s4_2, s4_3, s4_4, sw0, sw1, cKs, cKn, true_and, and_true, List.map_cons, List.map_nil, Nat.reduceAdd, Nat.zero_add, Int.reduceAdd, Nat.reduceEqDiff, reduceIte, Classical.not_not, b_Ro_begin, shRo, h1, oa]
  refine ⟨by omega, (c_Fr_clear oa h4).mono ?_⟩
  rintro r M1 okM1 ⟨rfl, u1, u2⟩
  have k1 : M1 56 1 = a := by rw [u2.at 56 _ (by simp <;> omega)]; exact h1
  have k2 : M1 56 2 = b := by rw [u2.at 56 _ (by simp <;> omega)]; exact h2
  simp only [wR, wB, wE0, wE1, wE2, wE3, g0, gS, s10, s11, s1S, s20, s21, s2S, kl0, kl1, kl2, kl3, sp0, sp1, sp2, sp3, cn1, cn2, cn3, cn4, cn5, cn6, jJa, lk0, lk1, jmS, jmN, s4_0, s4_1, s4_2, s4_3, s4_4, sw0, sw1, cKs, cKn, true_and, and_true, List.map_cons, List.map_nil, Nat.reduceAdd, Nat.zero_add, Int.reduceAdd, Nat.reduceEqDiff, reduceIte, Classical.not_not, b_Ro_begin, shRo, k2, ob]
  refine ⟨by omega, (c_Fr_clear ob (h5.eq (u2 _ (by simp <;> omega)) (u2 _ (by simp <;> omega)) (u2 _ (by simp <;> omega)))).mono ?_⟩
  rintro r M2 okM2 ⟨rfl, v1, v2⟩
  have k3 : M2 56 1 = a := by rw [v2.at 56 _ (by simp <;> omega)]; exact k1
  simp only [wR, wB, wE0, wE1, wE2, wE3, g0, gS, s10, s11, s1S, s20, s21, s2S, kl0, kl1, kl2, kl3, sp0, sp1, sp2, sp3, cn1, cn2, cn3, cn4, cn5, cn6, jJa, lk0, lk1, jmS, jmN, s4_0, s4_1, s4_2, s4_3, s4_4, sw0, sw1, cKs, cKn, true_and, and_true, List.map_cons, List.map_nil, Nat.reduceAdd, Nat.zero_add, Int.reduceAdd, Nat.reduceEqDiff, reduceIte, Classical.not_not, b_Ro_begin, shRo, k3, oa]
  refine ⟨by omega, (c_Fr_add (w := 1) (mask := 0) oa (u1.eq (v2 _ (by simp <;> omega)) (v2 _ (by simp <;> omega)) (v2 _ (by simp <;> omega)) (v2 _ (by simp <;> omega))) hs (by omega) (by show sumL _ [] + 1 < 2 ^ 62; simp [sumL]) (by omega) (fun x hx => absurd hx (List.not_mem_nil))).mono ?_⟩
  rintro r M3 okM3 ⟨rfl, w1, w2⟩
  simp only [wR, wB, wE0, wE1, wE2, wE3, g0, gS, s10, s11, s1S, s20, s21, s2S, kl0, kl1, kl2, kl3, sp0, sp1, sp2, sp3, cn1, cn2, cn3, cn4, cn5, cn6, jJa, lk0, lk1, jmS, jmN, s4_0, s4_1, s4_2, s4_3, s4_4, sw0, sw1, cKs, cKn, true_and, and_true, List.map_cons, List.map_nil, Nat.reduceAdd, Nat.zero_add, Int.reduceAdd, Nat.reduceEqDiff, reduceIte, Classical.not_not, b_Ro_begin]
  refine ⟨⟨a, b, ?_, ?_, hz, w1, v1.eq (w2 _ (by simp <;> omega)) (w2 _ (by simp <;> omega)) (w2 _ (by simp <;> omega)) (w2 _ (by simp <;> omega))⟩, fun x hx => ?_⟩
  · rw [w2.at 56 _ (by simp <;> omega)]; exact k3
  · rw [w2.at 56 _ (by simp <;> omega), v2.at 56 _ (by simp <;> omega)]; exact k2
  · simp only [List.mem_cons, List.not_mem_nil, or_false, not_or] at hx
    rw [w2 x (by simp <;> omega), v2 x (by simp <;> omega), u2 x (by simp <;> omega)]
theorem c_Ro_turnOver {a b : Int} {F A : FS} (hd : 1 ≤ d) (h : RwT M a b F A) : MS G d mi_Ro_turnOver [vr 56] M (fun r M' => r = none ∧ RwT M' b a A FS.nil ∧ Same [56, 58, 60, 62, 64] M M' ∧ M' 56 4 = M 56 4) := by
  obtain ⟨h1, h2, hz, h4, h5⟩ := h
  obtain ⟨oa, ob⟩ := hz.o
  have hz' := hz
  unfold fz at hz'
  refine MS.run ck_Ro_turnOver [some (vr 56), none] [] 10 fun _ _ => ?_
  have u1 : up M 56 1 b 56 1 = b := up_eq _ _ _ _
  have u2 : up (up M 56 1 b) 56 2 a 56 2 = a := up_eq _ _ _ _
  simp only [wR, wB, wE0, wE1, wE2, wE3, g0, gS, s10, s11, s1S, s20, s21, s2S, kl0, kl1, kl2, kl3, sp0, sp1, sp2, sp3, cn1, cn2, cn3, cn4, cn5, cn6, jJa, lk0, lk1, jmS, jmN, s4_0, s4_1, s4_2, s4_3, s4_4, sw0, sw1, cKs, cKn, true_and, and_true, List.map_cons, List.map_nil, Nat.reduceAdd, Nat.zero_add, Int.reduceAdd, Nat.reduceEqDiff, reduceIte, Classical.not_not, b_Ro_turnOver, shRo, h1, h2, oa, ob, u2]
  (repeat' (first | omega | (with_reducible exact True.intro) | exact ⟨by omega, by omega⟩ | (with_reducible exact Or.inr trivial) | (with_reducible exact Or.inl trivial) | (with_reducible assumption) | (with_reducible exact Same.refl) | (with_reducible rfl) | (with_reducible refine And.intro ?_ ?_) | (with_reducible intro _)))
  refine (c_Fr_clear oa (h4.inv.eq (by funext y; rw [up_ne1 (by omega), up_ne1 (by omega)]) (by funext y; rw [up_ne1 (by omega), up_ne1 (by omega)]) (by funext y; rw [up_ne1 (by omega), up_ne1 (by omega)]))).mono ?_
  rintro r M1 okM1 ⟨rfl, v1, v2⟩
  simp only [wR, wB, wE0, wE1, wE2, wE3, g0, gS, s10, s11, s1S, s20, s21, s2S, kl0, kl1, kl2, kl3, sp0, sp1, sp2, sp3, cn1, cn2, cn3, cn4, cn5, cn6, jJa, lk0, lk1, jmS, jmN, s4_0, s4_1, s4_2, s4_3, s4_4, sw0, sw1, cKs, cKn, true_and, and_true, List.map_cons, List.map_nil, Nat.reduceAdd, Nat.zero_add, Int.reduceAdd, Nat.reduceEqDiff, reduceIte, Classical.not_not, b_Ro_turnOver]
  refine ⟨⟨?_, ?_, hz.symm, ?_, v1⟩, fun x hx => ?_, ?_⟩
  · rw [v2.at 56 _ (by simp <;> omega), up_ne2 (by omega), up_eq]
  · rw [v2.at 56 _ (by simp <;> omega), up_eq]
  · have e : ∀ x : Int, b ≤ x → x ≤ b + 3 → M1 x = M x := fun x g1 g2 => by
      rw [v2 x (by simp <;> omega)]; funext y; rw [up_ne1 (by omega), up_ne1 (by omega)]
    exact h5.eq (e _ (by omega) (by omega)) (e _ (by omega) (by omega)) (e _ (by omega) (by omega)) (e _ (by omega) (by omega))
  · simp only [List.mem_cons, List.not_mem_nil, or_false, not_or] at hx
    rw [v2 x (by simp <;> omega)]; funext y; rw [up_ne1 (by omega), up_ne1 (by omega)]
  · rw [v2.at 56 _ (by simp <;> omega), up_ne2 (by omega), up_ne2 (by omega)]
theorem FrT.at {M : AM} {z : Int} {F : FS} (h : FrT M z F) {j : Nat} (hj : j < F.l.length) : M (z + 1) j = F.l.getD j 0 ∧ M (z + 2) (F.l.getD j 0 : Nat) = F.wy (F.l.getD j 0) ∧ F.l.getD j 0 < 3125 := by
  have hm := getD_mem hj
  have := h.2.2.1 _ (h.2.2.2.2.2.1 _ hm)
  rw [if_pos hm] at this
  exact ⟨h.2.1 j hj, this, h.2.2.2.2.2.1 _ hm⟩
theorem c_Ro_total {a b : Int} {F A : FS} (h : RwT M a b F A) (hb : F.val (fun _ => 1) < 2 ^ 62) : MS G d mi_Ro_total [vr 56] M (fun r M' => r = some (vl (F.val (fun _ => 1))) ∧ M' = M) := by
  obtain ⟨h1, h2, hz, h4, h5⟩ := h
  obtain ⟨oa, ob⟩ := hz.o
  obtain ⟨s1, s2, s3⟩ := sh_Fr oa
  have hlen := len_lt h4.2.2.2.2.1 h4.2.2.2.2.2.1
  have ev : F.val (fun _ => 1) = sumN (fun j => F.wy (F.l.getD j 0)) F.l.length := by
    unfold FS.val
    rw [sumL_idx]
    simp only [Nat.mul_one]
  rw [ev] at hb ⊢
  refine MS.by ck_Ro_total [some (vr 56), none, none, none] fun _ _ => ?_
  generalize hQ : (fun (r : Option AV) (M' : AM) => r = some (vl (sumN (fun j => F.wy (F.l.getD j 0)) F.l.length)) ∧ M' = M) = Q
  have loop : ∀ (r k : Nat), k + r = F.l.length → AW G d mi_Ro_total Q 4 [some (vr 56), some (vl (sumN (fun j => F.wy (F.l.getD j 0)) k)), none, some (vi k)] [] M := by
    intro r
    induction r with
    | zero =>
      intro k hk
      obtain rfl : k = F.l.length := by omega
      refine AW.run ck_Ro_total [4] 10 4 ?_
      simp only [wR, wB, wE0, wE1, wE2, wE3, g0, gS, s10, s11, s1S, s20, s21, s2S, kl0, kl1, kl2, kl3, sp0, sp1, sp2, sp3, cn1, cn2, cn3, cn4, cn5, cn6, jJa, lk0, lk1, jmS, jmN, s4_0, s4_1, s4_2, s4_3, s4_4, sw0, sw1, cKs, cKn, true_and, and_true, List.map_cons, List.map_nil, Nat.reduceAdd, Nat.zero_add, Int.reduceAdd, Nat.reduceEqDiff, reduceIte, Classical.not_not, b_Ro_total, shRo, h1, oa, h4.1, s1, s2]
      subst hQ
      (repeat' (first | omega | (with_reducible exact True.intro) | exact ⟨by omega, by omega⟩ | (with_reducible exact Or.inr trivial) | (with_reducible exact Or.inl trivial) | (with_reducible assumption) | (with_reducible exact Same.refl) | (with_reducible rfl) | (with_reducible refine And.intro ?_ ?_) | (with_reducible intro _)))
    | succ r ih =>
      intro k hk
      have hkl : k < F.l.length := by omega
      obtain ⟨g1, g2, g3⟩ := h4.at hkl
      have := ih (k + 1) (by omega)
      have hm : sumN (fun j => F.wy (F.l.getD j 0)) (k + 1) ≤ sumN (fun j => F.wy (F.l.getD j 0)) F.l.length := sumN_mono (by omega)
      have e2 : ((sumN (fun j => F.wy (F.l.getD j 0)) k : Nat) : Int) + (F.wy (F.l.getD k 0) : Int) = (sumN (fun j => F.wy (F.l.getD j 0)) (k + 1) : Nat) := by rw [sumN_s]; omega
      refine AW.run ck_Ro_total [4, 42] 10 4 ?_
      simp only [wR, wB, wE0, wE1, wE2, wE3, g0, gS, s10, s11, s1S, s20, s21, s2S, kl0, kl1, kl2, kl3, sp0, sp1, sp2, sp3, cn1, cn2, cn3, cn4, cn5, cn6, jJa, lk0, lk1, jmS, jmN, s4_0, s4_1, s4_2, s4_3, s4_4, sw0, sw1, cKs, cKn, true_and, and_true, List.map_cons, List.map_nil, Nat.reduceAdd, Nat.zero_add, Int.reduceAdd, Nat.reduceEqDiff, reduceIte, Classical.not_not, b_Ro_total, shRo, h1, oa, h4.1, s1, s2, g1, g2, e2, ce]
      (repeat' (first | omega | (with_reducible exact True.intro) | exact ⟨by omega, by omega⟩ | (with_reducible exact Or.inr trivial) | (with_reducible exact Or.inl trivial) | (with_reducible assumption) | (with_reducible exact Same.refl) | (with_reducible rfl) | (with_reducible refine And.intro ?_ ?_) | (with_reducible intro _)))
  have := loop F.l.length 0 (by omega)
  refine AW.run ck_Ro_total [4] 10 0 ?_
  simp only [wR, wB, wE0, wE1, wE2, wE3, g0, gS, s10, s11, s1S, s20, s21, s2S, kl0, kl1, kl2, kl3, sp0, sp1, sp2, sp3, cn1, cn2, cn3, cn4, cn5, cn6, jJa, lk0, lk1, jmS, jmN, s4_0, s4_1, s4_2, s4_3, s4_4, sw0, sw1, cKs, cKn, true_and, and_true, List.map_cons, List.map_nil, Nat.reduceAdd, Nat.zero_add, Int.reduceAdd, Nat.reduceEqDiff, reduceIte, Classical.not_not, b_Ro_total]
  exact this
end RO
