/-! lots drawn: the class -/
def drp (s p : Nat) : Nat := s - dig s p * 5 ^ p
theorem drp_le {s p : Nat} : dig s p * 5 ^ p ≤ s := by
  unfold dig
  have h1 : s / 5 ^ p % 5 ≤ s / 5 ^ p := Nat.mod_le _ _
  exact Nat.le_trans (Nat.mul_le_mul_right _ h1) (Nat.div_mul_le_self s (5 ^ p))
def drG (P : Nat) (g : Nat → Nat) (to : Nat) : Nat := (10 - P) * g to + sumN (fun p => g (drp to p)) P
theorem drG_le {P : Nat} {g : Nat → Nat} {to c : Nat} (hP : P ≤ 10) (h : ∀ x, g x ≤ c) : drG P g to ≤ 10 * c := by
  unfold drG
  have h1 := sumN_le (f := fun p => g (drp to p)) c P (fun p _ => h _)
  have h2 : (10 - P) * g to ≤ (10 - P) * c := Nat.mul_le_mul_left _ (h _)
  have h3 : (10 - P) * c + c * P = 10 * c := by rw [Nat.mul_comm c P, ← Nat.add_mul]; congr 1; omega
  omega
/-- what follows of a state by an hour, c whether it stands, t to which it comes -/
def fst' (P : Nat) (c : Nat → Nat → Bool) (t : Nat → Nat → Nat) (i : Nat) (g : Nat → Nat) (s : Nat) : Nat := if c i s = true then drG P g (t i s) else 0
def Ex (P : Nat) (c : Nat → Nat → Bool) (t : Nat → Nat → Nat) (g0 : Nat → Nat) : Nat → Nat → Nat → Nat
  | 0, _, s => g0 s
  | r + 1, i, s => fst' P c t i (Ex P c t g0 r (i + 1)) s
theorem fst'_le {P : Nat} {c : Nat → Nat → Bool} {t : Nat → Nat → Nat} {i s b : Nat} {g : Nat → Nat} (hP : P ≤ 10) (h : ∀ x, g x ≤ b) : fst' P c t i g s ≤ 10 * b := by
  unfold fst'
  split
  · exact drG_le hP h
  · omega
def preW (F : FS) (f : Nat → Nat) (i : Nat) : Nat := sumN (fun j => F.wy (F.l.getD j 0) * f (F.l.getD j 0)) i
theorem preW_all {F : FS} {f : Nat → Nat} : preW F f F.l.length = F.val f := by
  unfold preW FS.val
  rw [sumL_idx]
theorem preW_bd {F : FS} {f : Nat → Nat} {i b : Nat} (hf : ∀ s, f s ≤ b) (hi : i < F.l.length) : preW F f i + b * F.wy (F.l.getD i 0) ≤ b * F.val (fun _ => 1) := by
  have h1 := sumN_mul (w := fun j => F.wy (F.l.getD j 0)) (c := fun j => f (F.l.getD j 0)) (b := b) i (fun j _ => hf _)
  have h3 : sumN (fun j => F.wy (F.l.getD j 0)) (i + 1) ≤ F.val (fun _ => 1) := by
    rw [val_sum]; exact sumN_mono (by omega)
  rw [sumN_s] at h3
  have h4 := Nat.mul_le_mul_left b h3
  rw [Nat.mul_add] at h4
  unfold preW
  omega
section FL
variable {G : AG} {d : Nat} {M : AM}
set_option maxRecDepth 20000 in
theorem c_Ro_drawFrom {a b : Int} {F A : FS} {P to w : Nat} (hd : 3 ≤ d) (hP : P ≤ 5) (h1 : M 33 1 = P) (hT : RwT M a b F A) (hto : to < 5 ^ P) (hw : 0 < w) (hA : ∀ x, x ∈ A.l → x < 5 ^ P ∧ A.hd x < 32) (hb : A.val (fun _ => 1) + 10 * w < 2 ^ 62) :
    MS G d mi_Ro_drawFrom [vr 56, vr 33, vi to, vl w] M (fun r M' => r = none ∧ (∃ A', RwT M' a b F A' ∧ (∀ x, x ∈ A'.l → x < 5 ^ P ∧ A'.hd x < 32) ∧ ∀ g, A'.val g = A.val g + w * drG P g to) ∧ Same [58, 59, 60, 61, 62, 63, 64, 65] M M') := by
  have h5 := p5 hP
  have hz := hT.2.2.1
  have hz' := hz
  unfold fz at hz'
  obtain ⟨oa, ob⟩ := hz.o
  have k2 := hT.2.1
  have hmem : ∀ (S : FS) (x0 w0 : Nat), (∀ x, x ∈ S.l → x < 5 ^ P ∧ S.hd x < 32) → x0 < 5 ^ P → ∀ x, x ∈ (addF S x0 w0 0).l → x < 5 ^ P ∧ (addF S x0 w0 0).hd x < 32 := by
    intro S x0 w0 hS hx0 x hx
    refine ⟨?_, addF_hd32 (fun x hx => (hS x hx).2) (by omega) x hx⟩
    rcases addF_mem.mp hx with q | q
    · exact (hS x q).1
    · rw [q]; exact hx0
  have hRw : ∀ (N : AM) (A0 A1 : FS), RwT M a b F A0 → True := fun _ _ _ _ => trivial
  refine MS.by ck_Ro_drawFrom [some (vr 56), some (vr 33), some (vi to), some (vl w), none, none] fun _ _ => ?_
  generalize hQ : (fun (r : Option AV) (M' : AM) => r = none ∧ (∃ A', RwT M' a b F A' ∧ (∀ x, x ∈ A'.l → x < 5 ^ P ∧ A'.hd x < 32) ∧ ∀ g, A'.val g = A.val g + w * drG P g to) ∧ Same [58, 59, 60, 61, 62, 63, 64, 65] M M') = Q
  have loop : ∀ (r p : Nat) (S : FS) (N : AM), p + r = P → RwT N a b F S → (∀ x, x ∈ S.l → x < 5 ^ P ∧ S.hd x < 32) → (∀ g, S.val g = A.val g + w * ((10 - P) * g to + sumN (fun p => g (drp to p)) p)) → Same [58, 59, 60, 61, 62, 63, 64, 65] M N → AW G d mi_Ro_drawFrom Q 23 [some (vr 56), some (vr 33), some (vi to), some (vl w), none, some (vi p)] [] N := by
    as_aux_lemma =>
      intro r
      induction r with
      | zero =>
        intro p S N hp hTN hS hval hN
        obtain rfl : p = P := by omega
        have e1 : N 33 1 = p := by rw [hN.at 33 _ (by (first | decide | (simp only [List.mem_cons, List.not_mem_nil, or_false, not_or, not_false_eq_true, and_true]; omega) | (simp [List.mem_cons]; done)))]; exact h1
        refine AW.run ck_Ro_drawFrom [23] 10 23 ?_
        simp only [wR, wB, wE0, wE1, wE2, wE3, g0, gS, s10, s11, s1S, s20, s21, s2S, kl0, kl1, kl2, kl3, sp0, sp1, sp2, sp3, cn1, cn2, cn3, cn4, cn5, cn6, jJa, lk0, lk1, jmS, jmN, s4_0, s4_1, s4_2, s4_3, s4_4, sw0, sw1, cKs, cKn, true_and, and_true, List.map_cons, List.map_nil, Nat.reduceAdd, Nat.zero_add, Int.reduceAdd, Nat.reduceEqDiff, reduceIte, Classical.not_not, b_Ro_drawFrom, shRo, shSt, e1]
        subst hQ
        (repeat' (first | omega | (with_reducible exact True.intro) | exact ⟨by omega, by omega⟩ | (with_reducible exact Or.inr trivial) | (with_reducible exact Or.inl trivial) | (with_reducible assumption) | (with_reducible exact Same.refl) | (with_reducible rfl) | (with_reducible refine And.intro ?_ ?_) | (with_reducible intro _)))
        exact ⟨S, hTN, hS, hval⟩
      | succ r ih =>
        intro p S N hp hTN hS hval hN
        have e1 : N 33 1 = P := by rw [hN.at 33 _ (by (first | decide | (simp only [List.mem_cons, List.not_mem_nil, or_false, not_or, not_false_eq_true, and_true]; omega) | (simp [List.mem_cons]; done)))]; exact h1
        have k2' := hTN.2.1
        have hdl := drp_le (s := to) (p := p)
        have hdrl : drp to p < 5 ^ P := Nat.lt_of_le_of_lt (Nat.sub_le _ _) hto
        have hp5 : (5 : Nat) ^ p ≤ 5 ^ 4 := Nat.pow_le_pow_right (by omega) (by omega)
        have hdg := dig_lt to p
        have er : (to : Int) - (dig to p : Int) * ((5 ^ p : Nat) : Int) = (drp to p : Int) := by
          unfold drp
          rw [← Int.natCast_mul]
          omega
        have hmul : (dig to p : Int) * ((5 ^ p : Nat) : Int) = ((dig to p * 5 ^ p : Nat) : Int) := (Int.natCast_mul _ _).symm
        have hv1 : S.val (fun _ => 1) = A.val (fun _ => 1) + w * ((10 - P) * 1 + sumN (fun _ => 1) p) := hval (fun _ => 1)
        have hs1 : sumN (fun _ => 1) p ≤ 1 * p := sumN_le 1 p (fun _ _ => Nat.le_refl _)
        have hle : w * ((10 - P) * 1 + sumN (fun _ => 1) p) ≤ w * 9 := Nat.mul_le_mul_left _ (by omega)
        refine AW.run ck_Ro_drawFrom [23, 72] 10 23 ?_
        simp only [wR, wB, wE0, wE1, wE2, wE3, g0, gS, s10, s11, s1S, s20, s21, s2S, kl0, kl1, kl2, kl3, sp0, sp1, sp2, sp3, cn1, cn2, cn3, cn4, cn5, cn6, jJa, lk0, lk1, jmS, jmN, s4_0, s4_1, s4_2, s4_3, s4_4, sw0, sw1, cKs, cKn, true_and, and_true, List.map_cons, List.map_nil, Nat.reduceAdd, Nat.zero_add, Int.reduceAdd, Nat.reduceEqDiff, reduceIte, Classical.not_not, b_Ro_drawFrom, shRo, shSt, e1, k2', ob]
        (repeat' (first | omega | (with_reducible exact True.intro) | exact ⟨by omega, by omega⟩ | (with_reducible exact Or.inr trivial) | (with_reducible exact Or.inl trivial) | (with_reducible assumption) | (with_reducible exact Same.refl) | (with_reducible rfl) | (with_reducible refine And.intro ?_ ?_) | (with_reducible intro _)))
        refine MS.to (c_St_strengthIn (show p < 5 by omega)) fun _ => ?_
        simp only [wR, wB, wE0, wE1, wE2, wE3, g0, gS, s10, s11, s1S, s20, s21, s2S, kl0, kl1, kl2, kl3, sp0, sp1, sp2, sp3, cn1, cn2, cn3, cn4, cn5, cn6, jJa, lk0, lk1, jmS, jmN, s4_0, s4_1, s4_2, s4_3, s4_4, sw0, sw1, cKs, cKn, true_and, and_true, List.map_cons, List.map_nil, Nat.reduceAdd, Nat.zero_add, Int.reduceAdd, Nat.reduceEqDiff, reduceIte, Classical.not_not, b_Ro_drawFrom, shRo, romP (show p < 6 by omega), er]
        (repeat' (first | omega | (with_reducible exact True.intro) | exact ⟨by omega, by omega⟩ | (with_reducible exact Or.inr trivial) | (with_reducible exact Or.inl trivial) | (with_reducible assumption) | (with_reducible exact Same.refl) | (with_reducible rfl) | (with_reducible refine And.intro ?_ ?_) | (with_reducible intro _)))
        refine (c_Fr_add (mask := 0) ob hTN.2.2.2.2 (show drp to p < 3125 by omega) hw (by omega) (by omega) (fun x hx => (hS x hx).2)).mono ?_
        rintro r' N2 okN2 ⟨rfl, u1, u2⟩
        have := ih (p + 1) (addF S (drp to p) w 0) N2 (by omega) ⟨by rw [u2.at 56 _ (by simp <;> omega)]; exact hTN.1, by rw [u2.at 56 _ (by simp <;> omega)]; exact k2', hz, hTN.2.2.2.1.eq (u2 _ (by simp <;> omega)) (u2 _ (by simp <;> omega)) (u2 _ (by simp <;> omega)) (u2 _ (by simp <;> omega)), u1⟩ (hmem S _ w hS hdrl) (fun g => by
          rw [addF_val hTN.2.2.2.2.2.2.2.2.1, hval, sumN_s, Nat.mul_add, Nat.mul_add, Nat.mul_add]; omega) (hN.trans (u2.mono (by intro x hx; simp only [List.mem_cons, List.not_mem_nil, or_false] at hx ⊢; omega)))
        simp only [wR, wB, wE0, wE1, wE2, wE3, g0, gS, s10, s11, s1S, s20, s21, s2S, kl0, kl1, kl2, kl3, sp0, sp1, sp2, sp3, cn1, cn2, cn3, cn4, cn5, cn6, jJa, lk0, lk1, jmS, jmN, s4_0, s4_1, s4_2, s4_3, s4_4, sw0, sw1, cKs, cKn, true_and, and_true, List.map_cons, List.map_nil, Nat.reduceAdd, Nat.zero_add, Int.reduceAdd, Nat.reduceEqDiff, reduceIte, Classical.not_not, b_Ro_drawFrom, ce]
        (repeat' (first | omega | (with_reducible exact True.intro) | exact ⟨by omega, by omega⟩ | (with_reducible exact Or.inr trivial) | (with_reducible exact Or.inl trivial) | (with_reducible assumption) | (with_reducible exact Same.refl) | (with_reducible rfl) | (with_reducible refine And.intro ?_ ?_) | (with_reducible intro _)))
  have ew : (w : Int) * ((10 : Int) - (P : Int)) = ((w * (10 - P) : Nat) : Int) := by
    rw [Int.natCast_mul]; congr 1; omega
  have hw10 : w * (10 - P) ≤ w * 10 := Nat.mul_le_mul_left _ (by omega)
  have hw0 : 0 < w * (10 - P) := Nat.mul_pos hw (by omega)
  refine AW.run ck_Ro_drawFrom [23] 10 0 ?_
  simp only [wR, wB, wE0, wE1, wE2, wE3, g0, gS, s10, s11, s1S, s20, s21, s2S, kl0, kl1, kl2, kl3, sp0, sp1, sp2, sp3, cn1, cn2, cn3, cn4, cn5, cn6, jJa, lk0, lk1, jmS, jmN, s4_0, s4_1, s4_2, s4_3, s4_4, sw0, sw1, cKs, cKn, true_and, and_true, List.map_cons, List.map_nil, Nat.reduceAdd, Nat.zero_add, Int.reduceAdd, Nat.reduceEqDiff, reduceIte, Classical.not_not, b_Ro_drawFrom, shRo, shSt, h1, k2, ob, ew]
  (repeat' (first | omega | (with_reducible exact True.intro) | exact ⟨by omega, by omega⟩ | (with_reducible exact Or.inr trivial) | (with_reducible exact Or.inl trivial) | (with_reducible assumption) | (with_reducible exact Same.refl) | (with_reducible rfl) | (with_reducible refine And.intro ?_ ?_) | (with_reducible intro _)))
  refine (c_Fr_add (mask := 0) ob hT.2.2.2.2 (show to < 3125 by omega) hw0 (by omega) (by omega) (fun x hx => (hA x hx).2)).mono ?_
  rintro r' N2 okN2 ⟨rfl, u1, u2⟩
  have := loop P 0 (addF A to (w * (10 - P)) 0) N2 (by omega) ⟨by rw [u2.at 56 _ (by simp <;> omega)]; exact hT.1, by rw [u2.at 56 _ (by simp <;> omega)]; exact k2, hz, hT.2.2.2.1.eq (u2 _ (by simp <;> omega)) (u2 _ (by simp <;> omega)) (u2 _ (by simp <;> omega)) (u2 _ (by simp <;> omega)), u1⟩ (hmem A _ _ hA hto) (fun g => by
    rw [addF_val hT.2.2.2.2.2.2.2.2.1]
    show _ = A.val g + w * ((10 - P) * g to + 0)
    rw [Nat.add_zero, ← Nat.mul_assoc]) (u2.mono (by intro x hx; simp only [List.mem_cons, List.not_mem_nil, or_false] at hx ⊢; omega))
  simp only [wR, wB, wE0, wE1, wE2, wE3, g0, gS, s10, s11, s1S, s20, s21, s2S, kl0, kl1, kl2, kl3, sp0, sp1, sp2, sp3, cn1, cn2, cn3, cn4, cn5, cn6, jJa, lk0, lk1, jmS, jmN, s4_0, s4_1, s4_2, s4_3, s4_4, sw0, sw1, cKs, cKn, true_and, and_true, List.map_cons, List.map_nil, Nat.reduceAdd, Nat.zero_add, Int.reduceAdd, Nat.reduceEqDiff, reduceIte, Classical.not_not, b_Ro_drawFrom]
  exact this
end FL
