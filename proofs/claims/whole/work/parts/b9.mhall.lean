section SI
/-! a hall told: the answer and the state -/
noncomputable def aHall (σ : Sg) (F : Nat) (x : Int) : Int := if 0 ≤ x ∧ x ≤ σ.tn then (match HA σ.tp x.toNat F with | Sum.inl b => -30 - ((fkd (kin σ.tp x.toNat (pls σ.tp x.toNat b.2)) b.1 : Nat) : Int) | Sum.inr g => (g.2.1.lines : Int)) else -3
noncomputable def sHall (σ : Sg) (F : Nat) (x : Int) : Sg := if 0 ≤ x ∧ x ≤ σ.tn then (match HA σ.tp x.toNat F with | Sum.inl b => mkS 0 σ.tp ((fkd (kin σ.tp x.toNat (pls σ.tp x.toNat b.2)) b.1 : Nat) : Int) ((pls σ.tp x.toNat b.2 : Nat) : Int) σ.h σ.m σ.np σ.pm σ.tr σ.im | Sum.inr g => mkS 0 σ.tp 0 (-1) g.2.1 g.2.2 0 σ.pm σ.tr σ.im) else σ
variable {t : Nat → Nat} {n F : Nat}
theorem HK0 {x : Nat} (hx : x ≤ 5) : HK ((hl0.sMust x).sLine) mo0 := by
  refine ⟨⟨by show 0 ≤ 5; omega, hx, fun p => ⟨by show 0 ≤ 9; omega, by show 0 ≤ 1; omega⟩, fun q => absurd rfl q, fun q => absurd rfl q, fun k hk => absurd hk (by show ¬ k < 0; omega), by show 0 ≤ 900; omega, by show 0 ≤ 900; omega, by show 0 + 1 ≤ 1000; omega⟩, ⟨fun p => ⟨by show 0 ≤ 1; omega, by show 0 ≤ 4; omega⟩, by show 0 ≤ 9; omega⟩, rfl⟩
theorem HA_K {k : Nat} {h : Hl} {m : Mo} (n9 : n ≤ 900) (e : HA t n F = Rz.good k h m) : HK h m := by
  unfold HA at e
  have hN := kn_n (t := t) (n := n)
  split at e
  · next q0 =>
    have h1 := nxN (Or.inl hN) (Nat.zero_le n) q0 (by omega) (by omega)
    split at e
    · next q1 =>
      have h2 := nxN (Or.inl hN) h1 q1 (by omega) (by omega)
      obtain ⟨q2, x, hx, _, e⟩ := nu_good e
      have h3 := nxN (Or.inl hN) h2 q2 (by omega) (by omega)
      split at e
      · next q3 =>
        have h4 := nxN (Or.inl hN) h3 q3 (by omega) (by omega)
        exact LNS_K (Or.inl hN) n9 F _ _ _ _ _ _ h4 (by show 0 + 1 ≤ 3 + 1; omega) (HK0 hx) e
      · exact absurd e (fun e => zbad_good e)
    · exact absurd e (fun e => zbad_good e)
  · exact absurd e (fun e => zbad_good e)
theorem sHall_ok {B : Nat} {σ : Sg} {x : Int} (ok : SgOK B σ) : SgOK B (sHall σ F x) := by
  unfold sHall
  split
  · next hx =>
    have h9 := ok.1
    obtain ⟨o1, o2, o3, o4, o5, o6, o7, o8⟩ := ok
    cases e : HA σ.tp x.toNat F with
    | inl b => exact ⟨by show 0 ≤ 900; omega, o2, o3, o4, o5, o6, o7, o8⟩
    | inr g =>
      obtain ⟨k, h, m⟩ := g
      have H := HA_K (n := x.toNat) (by omega) e
      exact ⟨by show 0 ≤ 900; omega, o2, H.1, ⟨H.2.1, by show m.hrs ≤ B; rw [H.2.2]; omega⟩, by show 0 ≤ 10; omega, fun i hi => absurd hi (by show ¬ i < 0; omega), o7, o8⟩
  · exact ok
variable {G : AG} {d : Nat} {M : AM}
/-- a plain row -/
def pln (M : AM) (z n : Int) : AM := fun x y => if x = z ∧ 0 ≤ y ∧ y < n then 0 else M x y
theorem c_Md_plain {z : Int} (hz : arT z .int) (hl : 1053 ≤ alen z) (hl2 : alen z ≤ 4000) : MS G d mi_Md_plain [vr z] M (fun r M' => r = none ∧ M' = up (pln M z 1053) z 2 1) := by
  have hia := isArr_of hz
  refine MS.by ck_Md_plain [some (vr z), none] fun _ _ => ?_
  have lp : ∀ (q i : Nat), i + q = 1053 → AW G d mi_Md_plain (fun r M' => r = none ∧ M' = up (pln M z 1053) z 2 1) 2 [some (vr z), some (vi i)] [] (pln M z i) := by
    intro q
    induction q with
    | zero =>
      intro i hi
      have e : i = 1053 := by omega
      subst e
      refine AW.run ck_Md_plain [2] 10 2 ?_
      simp only [wR, wB, wE0, wE1, wE2, wE3, g0, gS, s10, s11, s1S, s20, s21, s2S, kl0, kl1, kl2, kl3, sp0, sp1, sp2, sp3, cn1, cn2, cn3, cn4, cn5, cn6, jJa, lk0, lk1, jmS, jmN, s4_0, s4_1, s4_2, s4_3, s4_4, sw0, sw1, cKs, cKn, true_and, and_true, List.map_cons, List.map_nil, Nat.reduceAdd, Nat.zero_add, Int.reduceAdd, Nat.reduceEqDiff, reduceIte, Classical.not_not, b_Md_plain, hz, hia]
      (repeat' (first | omega | (with_reducible exact True.intro) | exact ⟨by omega, by omega⟩ | (with_reducible exact Or.inr trivial) | (with_reducible exact Or.inl trivial) | (with_reducible assumption) | (with_reducible exact Same.refl) | (with_reducible rfl) | (with_reducible refine And.intro ?_ ?_) | (with_reducible intro _)))
      rfl
    | succ q ih =>
      intro i hi
      have key : up (pln M z i) z i 0 = pln M z ((i + 1 : Nat) : Int) := by
        funext x y
        rw [up_rd]
        unfold pln
        by_cases q1 : x = z ∧ y = i
        · rw [if_pos q1, if_pos (by omega)]
        · rw [if_neg q1]
          by_cases q2 : x = z ∧ 0 ≤ y ∧ y < (i : Int)
          · rw [if_pos q2, if_pos (by omega)]
          · rw [if_neg q2, if_neg (by omega)]
      have := ih (i + 1) (by omega)
      refine AW.run ck_Md_plain [2] 10 2 ?_
      simp only [wR, wB, wE0, wE1, wE2, wE3, g0, gS, s10, s11, s1S, s20, s21, s2S, kl0, kl1, kl2, kl3, sp0, sp1, sp2, sp3, cn1, cn2, cn3, cn4, cn5, cn6, jJa, lk0, lk1, jmS, jmN, s4_0, s4_1, s4_2, s4_3, s4_4, sw0, sw1, cKs, cKn, true_and, and_true, List.map_cons, List.map_nil, Nat.reduceAdd, Nat.zero_add, Int.reduceAdd, Nat.reduceEqDiff, reduceIte, Classical.not_not, b_Md_plain, hz, hia, key, ce]
      (repeat' (first | omega | (with_reducible exact True.intro) | exact ⟨by omega, by omega⟩ | (with_reducible exact Or.inr trivial) | (with_reducible exact Or.inl trivial) | (with_reducible assumption) | (with_reducible exact Same.refl) | (with_reducible rfl) | (with_reducible refine And.intro ?_ ?_) | (with_reducible intro _)))
  have e0 : pln M z ((0 : Nat) : Int) = M := by
    funext x y
    unfold pln
    rw [if_neg (by omega)]
  have l0 := lp 1053 0 (by omega)
  rw [e0] at l0
  refine AW.run ck_Md_plain [2] 10 0 ?_
  simp only [wR, wB, wE0, wE1, wE2, wE3, g0, gS, s10, s11, s1S, s20, s21, s2S, kl0, kl1, kl2, kl3, sp0, sp1, sp2, sp3, cn1, cn2, cn3, cn4, cn5, cn6, jJa, lk0, lk1, jmS, jmN, s4_0, s4_1, s4_2, s4_3, s4_4, sw0, sw1, cKs, cKn, true_and, and_true, List.map_cons, List.map_nil, Nat.reduceAdd, Nat.zero_add, Int.reduceAdd, Nat.reduceEqDiff, reduceIte, Classical.not_not, b_Md_plain]
  exact l0
theorem MF0 : MF (up (pln M 121 1053) 121 2 1 121) hl0 mo0 0 0 := by
  rw [up_stA]
  have z0 : ∀ y : Int, 0 ≤ y → y < 1053 → y ≠ 2 → stA (pln M 121 1053 121) 2 1 y = 0 := by
    intro y h1 h2 h3
    rw [stA_ne h3]
    unfold pln
    rw [if_pos ⟨rfl, h1, h2⟩]
  refine ⟨⟨z0 _ (by omega) (by omega) (by omega), z0 _ (by omega) (by omega) (by omega), stA_eq⟩, fun p hp => absurd hp (by show ¬ p < 0; omega), fun p _ h2 => z0 _ (by omega) (by omega) (by omega), ⟨z0 _ (by omega) (by omega) (by omega), z0 _ (by omega) (by omega) (by omega), z0 _ (by omega) (by omega) (by omega)⟩, ⟨?_, fun q => absurd rfl q⟩, ⟨?_, fun q => absurd rfl q⟩, z0 _ (by omega) (by omega) (by omega)⟩
  · rw [z0 _ (by omega) (by omega) (by omega)]; rfl
  · rw [z0 _ (by omega) (by omega) (by omega)]; rfl
/-- the fresh row copied -/
def cpF (M : AM) (n : Int) : AM := fun x y => if x = 118 ∧ 0 ≤ y ∧ y < n then M 121 y else M x y
theorem LwF.ml {A : Int → Int} {l n c : Nat} {code : Nat → Int} (H : LwF A l n code c) (hc : c ≤ 900) : MLaw A l n code := by
  obtain ⟨a, b⟩ := H
  refine ⟨a, fun q => ?_⟩
  obtain ⟨f, b1, b2, b3, b4⟩ := b q
  exact ⟨f, b1, b2, by omega, b4⟩
end SI
