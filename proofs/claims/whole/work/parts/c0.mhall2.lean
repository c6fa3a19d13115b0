section SJ
variable {G : AG} {d : Nat} {M : AM} {t : Nat → Nat} {n F : Nat}
theorem c_Md_hall_no {x : Int} {B : Nat} {σ : Sg} (hd : 2 ≤ d) (ok : SgOK B σ) (hR : MR M σ) (hx : ¬ (0 ≤ x ∧ x ≤ σ.tn)) : MS G d mi_Md_hall [vr 117, vi x] M (fun r M' => r = some (vi (-3)) ∧ MR M' σ ∧ Lo M M') := by
  have h5 : M 117 5 = σ.tn := hR.1.1
  have hn := ok.1
  have h5' : up M 117 0 0 117 5 = (σ.tn : Int) := by rw [up_ne2 (by omega)]; exact h5
  refine MS.run ck_Md_hall [some (vr 117), some (vi x), none] [22] 12 fun _ _ => ?_
  simp only [wR, wB, wE0, wE1, wE2, wE3, g0, gS, s10, s11, s1S, s20, s21, s2S, kl0, kl1, kl2, kl3, sp0, sp1, sp2, sp3, cn1, cn2, cn3, cn4, cn5, cn6, jJa, lk0, lk1, jmS, jmN, s4_0, s4_1, s4_2, s4_3, s4_4, sw0, sw1, cKs, cKn, true_and, and_true, List.map_cons, List.map_nil, Nat.reduceAdd, Nat.zero_add, Int.reduceAdd, Nat.reduceEqDiff, reduceIte, Classical.not_not, b_Md_hall, shMd, h5']
  refine ⟨by omega, MS.to c_Md_within fun _ => ?_⟩
  rw [if_neg hx]
  simp only [wR, wB, wE0, wE1, wE2, wE3, g0, gS, s10, s11, s1S, s20, s21, s2S, kl0, kl1, kl2, kl3, sp0, sp1, sp2, sp3, cn1, cn2, cn3, cn4, cn5, cn6, jJa, lk0, lk1, jmS, jmN, s4_0, s4_1, s4_2, s4_3, s4_4, sw0, sw1, cKs, cKn, true_and, and_true, List.map_cons, List.map_nil, Nat.reduceAdd, Nat.zero_add, Int.reduceAdd, Nat.reduceEqDiff, reduceIte, Classical.not_not, b_Md_hall, shMd, Int.reduceEq, not_true_eq_false, not_false_eq_true, false_imp_iff, true_imp_iff, and_self]
  (repeat' (first | omega | (with_reducible exact True.intro) | exact ⟨by omega, by omega⟩ | (with_reducible exact Or.inr trivial) | (with_reducible exact Or.inl trivial) | (with_reducible assumption) | (with_reducible exact Same.refl) | (with_reducible rfl) | (with_reducible refine And.intro ?_ ?_) | (with_reducible intro _)))
  · exact hR.eq (by rw [up_ne2 (by omega)]) (by rw [up_ne2 (by omega)]) (by rw [up_ne2 (by omega)]) (fun x hx => up_z (by omega))
  · exact fun x hx => up_z (by omega)
set_option maxRecDepth 20000 in
/-- behind the reading: the row copied -/
theorem c_Md_hall_cp {Q : Option AV → AM → Prop} {a : Int} {K : AM} (hl : ∃ L : Nat, K 121 0 = (L : Int)) (hq : Q (some (vi (K 121 0))) (cpF K 1053)) : AW G d mi_Md_hall Q 159 [some (vr 117), some (vi a), none] [] K := by
  have lp : ∀ (q i : Nat), i + q = 1053 → AW G d mi_Md_hall Q 161 [some (vr 117), some (vi a), some (vi i)] [] (cpF K i) := by
    intro q
    induction q with
    | zero =>
      intro i hi
      have e : (i : Int) = 1053 := by omega
      have e0 : cpF K 1053 118 0 = K 121 0 := by unfold cpF; rw [if_pos ⟨rfl, by omega, by omega⟩]
      rw [e]
      refine AW.run ck_Md_hall [] 12 161 ?_
      simp only [wR, wB, wE0, wE1, wE2, wE3, g0, gS, s10, s11, s1S, s20, s21, s2S, kl0, kl1, kl2, kl3, sp0, sp1, sp2, sp3, cn1, cn2, cn3, cn4, cn5, cn6, jJa, lk0, lk1, jmS, jmN, s4_0, s4_1, s4_2, s4_3, s4_4, sw0, sw1, cKs, cKn, true_and, and_true, List.map_cons, List.map_nil, Nat.reduceAdd, Nat.zero_add, Int.reduceAdd, Nat.reduceEqDiff, reduceIte, Classical.not_not, b_Md_hall, shMd, e0, Int.reduceEq, not_true_eq_false, not_false_eq_true, false_imp_iff, true_imp_iff, and_self]
      (repeat' (first | omega | (with_reducible exact True.intro) | exact ⟨by omega, by omega⟩ | (with_reducible exact Or.inr trivial) | (with_reducible exact Or.inl trivial) | (with_reducible assumption) | (with_reducible exact Same.refl) | (with_reducible rfl) | (with_reducible refine And.intro ?_ ?_) | (with_reducible intro _)))
    | succ q ih =>
      intro i hi
      have e1 : cpF K i 121 i = K 121 i := by unfold cpF; rw [if_neg (by omega)]
      have key : up (cpF K i) 118 i (K 121 i) = cpF K ((i + 1 : Nat) : Int) := by
        funext x y
        rw [up_rd]
        unfold cpF
        by_cases q1 : x = 118 ∧ y = i
        · rw [if_pos q1, if_pos (by omega), q1.2]
        · rw [if_neg q1]
          by_cases q2 : x = 118 ∧ 0 ≤ y ∧ y < (i : Int)
          · rw [if_pos q2, if_pos (by omega)]
          · rw [if_neg q2, if_neg (by omega)]
      have := ih (i + 1) (by omega)
      refine AW.run ck_Md_hall [161] 12 161 ?_
      simp only [wR, wB, wE0, wE1, wE2, wE3, g0, gS, s10, s11, s1S, s20, s21, s2S, kl0, kl1, kl2, kl3, sp0, sp1, sp2, sp3, cn1, cn2, cn3, cn4, cn5, cn6, jJa, lk0, lk1, jmS, jmN, s4_0, s4_1, s4_2, s4_3, s4_4, sw0, sw1, cKs, cKn, true_and, and_true, List.map_cons, List.map_nil, Nat.reduceAdd, Nat.zero_add, Int.reduceAdd, Nat.reduceEqDiff, reduceIte, Classical.not_not, b_Md_hall, shMd, e1, key, ce]
      (repeat' (first | omega | (with_reducible exact True.intro) | exact ⟨by omega, by omega⟩ | (with_reducible exact Or.inr trivial) | (with_reducible exact Or.inl trivial) | (with_reducible assumption) | (with_reducible exact Same.refl) | (with_reducible rfl) | (with_reducible refine And.intro ?_ ?_) | (with_reducible intro _)))
  have e0 : cpF K ((0 : Nat) : Int) = K := by
    funext x y
    unfold cpF
    rw [if_neg (by omega)]
  have l0 := lp 1053 0 (by omega)
  rw [e0] at l0
  refine AW.run ck_Md_hall [161] 12 159 ?_
  simp only [wR, wB, wE0, wE1, wE2, wE3, g0, gS, s10, s11, s1S, s20, s21, s2S, kl0, kl1, kl2, kl3, sp0, sp1, sp2, sp3, cn1, cn2, cn3, cn4, cn5, cn6, jJa, lk0, lk1, jmS, jmN, s4_0, s4_1, s4_2, s4_3, s4_4, sw0, sw1, cKs, cKn, true_and, and_true, List.map_cons, List.map_nil, Nat.reduceAdd, Nat.zero_add, Int.reduceAdd, Nat.reduceEqDiff, reduceIte, Classical.not_not, b_Md_hall]
  exact l0
theorem c_Md_hall_117b {Q : Option AV → AM → Prop} {a : Int} {K : AM} {w : Nat} (hw : K 117 11 = (w : Int)) (w0 : w ≠ 0) (w9 : w ≤ 9) {p : Int} (hp : K 117 12 = p) (hq : Q (some (vi (-30 - (w : Int)))) (up (up K 117 13 w) 117 14 p)) : AW G d mi_Md_hall Q 117 [some (vr 117), some (vi a), none] [] K := by
  have x1 : up K 117 13 (w : Int) 117 11 = (w : Int) := by rw [up_ne2 (by omega)]; exact hw
  have x2 : up K 117 13 (w : Int) 117 12 = p := by rw [up_ne2 (by omega)]; exact hp
  have x3 : up (up K 117 13 (w : Int)) 117 14 p 117 11 = (w : Int) := by rw [up_ne2 (by omega)]; exact x1
  refine AW.run ck_Md_hall [159] 12 117 ?_
  simp only [wR, wB, wE0, wE1, wE2, wE3, g0, gS, s10, s11, s1S, s20, s21, s2S, kl0, kl1, kl2, kl3, sp0, sp1, sp2, sp3, cn1, cn2, cn3, cn4, cn5, cn6, jJa, lk0, lk1, jmS, jmN, s4_0, s4_1, s4_2, s4_3, s4_4, sw0, sw1, cKs, cKn, true_and, and_true, List.map_cons, List.map_nil, Nat.reduceAdd, Nat.zero_add, Int.reduceAdd, Nat.reduceEqDiff, reduceIte, Classical.not_not, b_Md_hall, shMd, hw, x1, x2, x3]
  (repeat' (first | omega | (with_reducible exact True.intro) | exact ⟨by omega, by omega⟩ | (with_reducible exact Or.inr trivial) | (with_reducible exact Or.inl trivial) | (with_reducible assumption) | (with_reducible exact Same.refl) | (with_reducible rfl) | (with_reducible refine And.intro ?_ ?_) | (with_reducible intro _)))
theorem c_Md_hall_117g {Q : Option AV → AM → Prop} {a : Int} {K : AM} (hw : K 117 11 = 0) (hl : ∃ L : Nat, K 121 0 = (L : Int)) (hq : Q (some (vi (K 121 0))) (cpF (up (up K 117 13 0) 117 14 (-1)) 1053)) : AW G d mi_Md_hall Q 117 [some (vr 117), some (vi a), none] [] K := by
  have x1 : up K 117 13 0 117 11 = 0 := by rw [up_ne2 (by omega)]; exact hw
  have x3 : up (up K 117 13 0) 117 14 (-1) 117 11 = 0 := by rw [up_ne2 (by omega)]; exact x1
  have e : up (up K 117 13 0) 117 14 (-1) 121 0 = K 121 0 := by rw [up_ne1 (by omega), up_ne1 (by omega)]
  have a159 := c_Md_hall_cp (G := G) (d := d) (Q := Q) (a := a) (K := up (up K 117 13 0) 117 14 (-1)) (by rw [e]; exact hl) (by rw [e]; exact hq)
  refine AW.run ck_Md_hall [159] 12 117 ?_
  simp only [wR, wB, wE0, wE1, wE2, wE3, g0, gS, s10, s11, s1S, s20, s21, s2S, kl0, kl1, kl2, kl3, sp0, sp1, sp2, sp3, cn1, cn2, cn3, cn4, cn5, cn6, jJa, lk0, lk1, jmS, jmN, s4_0, s4_1, s4_2, s4_3, s4_4, sw0, sw1, cKs, cKn, true_and, and_true, List.map_cons, List.map_nil, Nat.reduceAdd, Nat.zero_add, Int.reduceAdd, Nat.reduceEqDiff, reduceIte, Classical.not_not, b_Md_hall, shMd, hw, x1, x3, Int.reduceEq, not_true_eq_false, not_false_eq_true, false_imp_iff, true_imp_iff, and_self]
  exact a159
end SJ
