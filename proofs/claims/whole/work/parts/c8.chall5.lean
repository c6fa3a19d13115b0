section TG
variable {G : AG} {d : Nat} {M : AM} {F : Nat}
set_option maxRecDepth 20000 in
theorem c_H_hall {x : Int} {B : Nat} {σ : Sg} (hd : 64 ≤ d) (hF : 9010 ≤ F) (ok : SgOK B σ) (hR : CR M σ) : MS G d mi_H_hall [vr 0, vi x] M (fun r M' => r = some (vi (aHall σ F x)) ∧ CR M' (sHall σ F x) ∧ Hi M M') := by
  have hR0 := hR
  obtain ⟨z, ⟨c3, c4, hz, hCH⟩, ⟨t1, t2⟩, cf, cm, ⟨cp8, cpn, qq, cq1, cq2, cq3⟩, ct, ci, cs, cw⟩ := hR
  have h9 := ok.1
  unfold aHall sHall
  by_cases hx : 0 ≤ x ∧ x ≤ σ.tn
  case neg =>
    rw [if_neg hx, if_neg hx]
    refine MS.run ck_H_hall [some (vr 0), some (vi x), none] [12] 12 fun _ _ => ?_
    have a12 : AW G d mi_H_hall (fun r M' => r = some (vi (-3)) ∧ CR M' σ ∧ Hi M M') 12 [some (vr 0), some (vi x), none] [] M := by
      refine AW.run ck_H_hall [] 12 12 ?_
      simp only [wR, wB, wE0, wE1, wE2, wE3, g0, gS, s10, s11, s1S, s20, s21, s2S, kl0, kl1, kl2, kl3, sp0, sp1, sp2, sp3, cn1, cn2, cn3, cn4, cn5, cn6, jJa, lk0, lk1, jmS, jmN, s4_0, s4_1, s4_2, s4_3, s4_4, sw0, sw1, cKs, cKn, true_and, and_true, List.map_cons, List.map_nil, Nat.reduceAdd, Nat.zero_add, Int.reduceAdd, Nat.reduceEqDiff, reduceIte, Classical.not_not, b_H_hall, shH, Int.reduceEq, not_true_eq_false, not_false_eq_true, false_imp_iff, true_imp_iff, and_self]
      exact ⟨hR0, Hi.refl⟩
    simp only [wR, wB, wE0, wE1, wE2, wE3, g0, gS, s10, s11, s1S, s20, s21, s2S, kl0, kl1, kl2, kl3, sp0, sp1, sp2, sp3, cn1, cn2, cn3, cn4, cn5, cn6, jJa, lk0, lk1, jmS, jmN, s4_0, s4_1, s4_2, s4_3, s4_4, sw0, sw1, cKs, cKn, true_and, and_true, List.map_cons, List.map_nil, Nat.reduceAdd, Nat.zero_add, Int.reduceAdd, Nat.reduceEqDiff, reduceIte, Classical.not_not, b_H_hall, shH, t1]
    (repeat' (first | omega | (with_reducible exact True.intro) | exact ⟨by omega, by omega⟩ | (with_reducible exact Or.inr trivial) | (with_reducible exact Or.inl trivial) | (with_reducible assumption) | (with_reducible exact Same.refl) | (with_reducible rfl) | (with_reducible refine And.intro ?_ ?_) | (with_reducible intro _)))
  rw [if_pos hx, if_pos hx]
  generalize hn : x.toNat = n
  obtain rfl : x = (n : Int) := by omega
  have n9 : n ≤ 900 := by omega
  obtain ⟨y, hy⟩ : ∃ y : Int, y = 23 - z := ⟨_, rfl⟩
  have hy7 : y = 7 ∨ y = 16 := by omega
  have hHy := isO_z hy7
  have c4' : up M 0 1 0 0 4 = y := by rw [up_ne2 (by omega), c4, hy]
  have hrd := c_Rd_read (G := G) (d := d - 1) (M := up M 0 1 0) (t := σ.tp) (n := n) (F := F) (by omega) n9 (by omega) hy7 (fun k hk => by rw [up_ne1 (by omega)]; exact t2 k (by omega)) ok.2.1
  have s1 : ∀ x : Int, x ≠ 0 → up M 0 1 0 x = M x := fun x hx => up_z hx
  have s0 : ∀ y : Int, y ≠ 1 → up M 0 1 0 0 y = M 0 y := fun y hy => up_ne2 hy
  have e01 : up M 0 1 0 0 1 = 0 := up_eq _ _ _ _
  refine MS.run ck_H_hall [some (vr 0), some (vi n), none] [15, 57] 12 fun _ _ => ?_
  simp only [wR, wB, wE0, wE1, wE2, wE3, g0, gS, s10, s11, s1S, s20, s21, s2S, kl0, kl1, kl2, kl3, sp0, sp1, sp2, sp3, cn1, cn2, cn3, cn4, cn5, cn6, jJa, lk0, lk1, jmS, jmN, s4_0, s4_1, s4_2, s4_3, s4_4, sw0, sw1, cKs, cKn, true_and, and_true, List.map_cons, List.map_nil, Nat.reduceAdd, Nat.zero_add, Int.reduceAdd, Nat.reduceEqDiff, reduceIte, Classical.not_not, b_H_hall, shH, t1]
  (repeat' (first | omega | (with_reducible exact True.intro) | exact ⟨by omega, by omega⟩ | (with_reducible exact Or.inr trivial) | (with_reducible exact Or.inl trivial) | (with_reducible assumption) | (with_reducible exact Same.refl) | (with_reducible rfl) | (with_reducible refine And.intro ?_ ?_) | (with_reducible intro _)))
  refine AW.run ck_H_hall [57] 12 15 ?_
  simp only [wR, wB, wE0, wE1, wE2, wE3, g0, gS, s10, s11, s1S, s20, s21, s2S, kl0, kl1, kl2, kl3, sp0, sp1, sp2, sp3, cn1, cn2, cn3, cn4, cn5, cn6, jJa, lk0, lk1, jmS, jmN, s4_0, s4_1, s4_2, s4_3, s4_4, sw0, sw1, cKs, cKn, true_and, and_true, List.map_cons, List.map_nil, Nat.reduceAdd, Nat.zero_add, Int.reduceAdd, Nat.reduceEqDiff, reduceIte, Classical.not_not, b_H_hall, shH, c4', hHy]
  (repeat' (first | omega | (with_reducible exact True.intro) | exact ⟨by omega, by omega⟩ | (with_reducible exact Or.inr trivial) | (with_reducible exact Or.inl trivial) | (with_reducible assumption) | (with_reducible exact Same.refl) | (with_reducible rfl) | (with_reducible refine And.intro ?_ ?_) | (with_reducible intro _)))
  refine hrd.mono ?_
  rintro r K _ ⟨rfl, hp⟩
  cases e : HA σ.tp n F with
  | inl b =>
    obtain ⟨w, k⟩ := b
    rw [e] at hp
    obtain ⟨fr, b1, b2, b3, b4⟩ := hp
    have hw4 := HA_sw w k e
    have f1 : fkd (kin σ.tp n (pls σ.tp n k)) w ≠ 0 := by unfold fkd; split <;> omega
    have f2 : fkd (kin σ.tp n (pls σ.tp n k)) w ≤ 4 := by unfold fkd; split <;> omega
    dsimp only at b1 b2 ⊢
    have s2 : ∀ x : Int, x ≠ 0 → x ≠ 2 → x ≠ 4 → x ≠ 5 → x ≠ 6 → ¬ (y ≤ x ∧ x ≤ y + 8) → K x = M x := fun x h0 h1 h2 h3 h4 h5 => (fr x h1 h2 h3 h4 h5).trans (s1 x h0)
    have k0 : K 0 = up M 0 1 0 0 := fr 0 (by omega) (by omega) (by omega) (by omega) (by omega)
    generalize fkd (kin σ.tp n (pls σ.tp n k)) w = fk at *
    generalize pls σ.tp n k = fp at *
    simp only [wR, wB, wE0, wE1, wE2, wE3, g0, gS, s10, s11, s1S, s20, s21, s2S, kl0, kl1, kl2, kl3, sp0, sp1, sp2, sp3, cn1, cn2, cn3, cn4, cn5, cn6, jJa, lk0, lk1, jmS, jmN, s4_0, s4_1, s4_2, s4_3, s4_4, sw0, sw1, cKs, cKn, true_and, and_true, List.map_cons, List.map_nil, Nat.reduceAdd, Nat.zero_add, Int.reduceAdd, Nat.reduceEqDiff, reduceIte, Classical.not_not, b_H_hall, shH, b1]
    (repeat' (first | omega | (with_reducible exact True.intro) | exact ⟨by omega, by omega⟩ | (with_reducible exact Or.inr trivial) | (with_reducible exact Or.inl trivial) | (with_reducible assumption) | (with_reducible exact Same.refl) | (with_reducible rfl) | (with_reducible refine And.intro ?_ ?_) | (with_reducible intro _)))
    refine ⟨z, ⟨?_, ?_, hz, ?_⟩, ⟨?_, fun k hk => absurd hk (by show ¬ k < 0; omega)⟩, ⟨b1, b2⟩, cm.eq (s2 _ (by omega) (by omega) (by omega) (by omega) (by omega) (by omega)) (s2 _ (by omega) (by omega) (by omega) (by omega) (by omega) (by omega)), ?_, ?_, ?_, ?_, ?_⟩
    · rw [k0, s0 3 (by omega)]; exact c3
    · rw [k0, s0 4 (by omega)]; exact c4
    · exact hCH.eq (s2 _ (by omega) (by omega) (by omega) (by omega) (by omega) (by omega)) (s2 _ (by omega) (by omega) (by omega) (by omega) (by omega) (by omega)) (s2 _ (by omega) (by omega) (by omega) (by omega) (by omega) (by omega)) (s2 _ (by omega) (by omega) (by omega) (by omega) (by omega) (by omega)) (s2 _ (by omega) (by omega) (by omega) (by omega) (by omega) (by omega)) (s2 _ (by omega) (by omega) (by omega) (by omega) (by omega) (by omega))
    · rw [k0]; exact e01
    · exact Cpast.eq (σ := σ) ⟨cp8, cpn, qq, cq1, cq2, cq3⟩ (by rw [k0, s0 8 (by omega)]) (fun x hx => s2 _ (by omega) (by omega) (by omega) (by omega) (by omega) (by omega))
    · exact fun i hi => (ct i hi).eq (s2 _ (by omega) (by omega) (by omega) (by omega) (by omega) (by omega)) (s2 _ (by omega) (by omega) (by omega) (by omega) (by omega) (by omega)) (s2 _ (by omega) (by omega) (by omega) (by omega) (by omega) (by omega))
    · exact Cim.eq ci (by rw [k0, s0 12 (by omega)]) (fun x hx => s2 _ (by omega) (by omega) (by omega) (by omega) (by omega) (by omega))
    · exact cs.eq (fun x _ _ => s2 _ (by omega) (by omega) (by omega) (by omega) (by omega) (by omega))
    · exact cw.eq (fun x _ => s2 _ (by omega) (by omega) (by omega) (by omega) (by omega) (by omega))
    · exact fun x (hx : 117 ≤ x) => s2 x (by omega) (by omega) (by omega) (by omega) (by omega) (by omega)
  | inr g =>
    obtain ⟨k, h, m⟩ := g
    rw [e] at hp
    obtain ⟨fr, b1, b2, hC⟩ := hp
    have HKK := HA_K n9 e
    dsimp only at hC ⊢
    have s2 : ∀ x : Int, x ≠ 0 → x ≠ 2 → x ≠ 4 → x ≠ 5 → x ≠ 6 → ¬ (y ≤ x ∧ x ≤ y + 8) → K x = M x := fun x h0 h1 h2 h3 h4 h5 => (fr x h1 h2 h3 h4 h5).trans (s1 x h0)
    have k0 : K 0 = up M 0 1 0 0 := fr 0 (by omega) (by omega) (by omega) (by omega) (by omega)
    have k3 : K 0 3 = z := by rw [k0, s0 3 (by omega)]; exact c3
    have k4 : K 0 4 = y := by rw [k0]; exact c4'
    have k31 : up (up K 0 3 y) 0 4 z 0 3 = y := by rw [up_ne2 (by omega), up_eq]
    have hHz := isO_z hz
    have hP : h.P ≤ 5 := HKK.1.1
    have kP : up (up K 0 3 y) 0 4 z y 2 = (h.P : Int) := by rw [up_ne1 (by omega), up_ne1 (by omega)]; exact hC.1.2.2.1
    have hmo := c_Mo_begin (G := G) (d := d - 1) (M := up (up K 0 3 y) 0 4 z) (z := 25) (h := y) (P := (h.P : Int)) shH.2.2.2.1 hHy kP (by omega)
    have nm : ∀ x : Int, x ≠ 25 → x ≠ 26 → moB (up (up K 0 3 y) 0 4 z) 25 y (h.P : Int) 5 x = up (up K 0 3 y) 0 4 z x := by
      intro x h1 h2
      funext i
      unfold moB
      rw [if_neg (by omega), if_neg (by omega), if_neg (by omega), if_neg (by omega)]
    have hcm : CM (moB (up (up K 0 3 y) 0 4 z) 25 y (h.P : Int) 5) 25 h.P m := by
      obtain ⟨hC1, hC3, hC4, hCs⟩ := hC
      refine ⟨?_, ?_, ?_, fun p hp => ?_⟩
      · unfold moB
        rw [if_pos ⟨rfl, rfl⟩, up_ne1 (by omega), up_ne1 (by omega)]; exact hC4
      · unfold moB
        rw [if_neg (by omega), if_pos ⟨rfl, rfl⟩, up_ne1 (by omega), up_ne1 (by omega)]; exact hC3
      · unfold moB
        rw [if_neg (by omega), if_neg (by omega), if_pos ⟨rfl, rfl⟩, HKK.2.2]; rfl
      · unfold moB
        rw [if_neg (by omega), if_neg (by omega), if_neg (by omega), if_pos (by omega)]
        by_cases q : p < h.P
        · rw [if_pos (by omega), if_pos q, up_ne1 (by omega), up_ne1 (by omega)]; exact hCs p q
        · rw [if_neg (by omega), if_neg q]; rfl
    generalize moB (up (up K 0 3 y) 0 4 z) 25 y (h.P : Int) 5 = K2 at *
    have m3 : up (up K2 0 8 0) 33 0 1 0 3 = y := by rw [up_ne1 (by omega), up_ne2 (by omega), nm 0 (by omega) (by omega)]; exact k31
    have m0 : up (up K2 0 8 0) 33 0 1 y 0 = (h.lines : Int) := by
      rw [up_ne1 (by omega), up_ne1 (by omega), nm y (by omega) (by omega), up_ne1 (by omega), up_ne1 (by omega)]; exact hC.1.1
    have nN : ∀ x : Int, x ≠ 0 → x ≠ 25 → x ≠ 26 → x ≠ 33 → up (up K2 0 8 0) 33 0 1 x = K x := by
      intro x h0 h1 h2 h3
      rw [up_z h3, up_z h0, nm x h1 h2, up_z h0, up_z h0]
    have n0 : ∀ i : Int, i ≠ 3 → i ≠ 4 → i ≠ 8 → up (up K2 0 8 0) 33 0 1 0 i = up M 0 1 0 0 i := by
      intro i h3 h4 h8
      rw [up_ne1 (by omega), up_ne2 h8, nm 0 (by omega) (by omega), up_ne2 h4, up_ne2 h3, k0]
    have s3 : ∀ x : Int, x ≠ 0 → x ≠ 2 → x ≠ 4 → x ≠ 5 → x ≠ 6 → x ≠ 25 → x ≠ 26 → x ≠ 33 → ¬ (y ≤ x ∧ x ≤ y + 8) → up (up K2 0 8 0) 33 0 1 x = M x := fun x h0 h1 h2 h3 h4 h5 h6 h7 h8 => (nN x h0 h5 h6 h7).trans (s2 x h0 h1 h2 h3 h4 h8)
    simp only [wR, wB, wE0, wE1, wE2, wE3, g0, gS, s10, s11, s1S, s20, s21, s2S, kl0, kl1, kl2, kl3, sp0, sp1, sp2, sp3, cn1, cn2, cn3, cn4, cn5, cn6, jJa, lk0, lk1, jmS, jmN, s4_0, s4_1, s4_2, s4_3, s4_4, sw0, sw1, cKs, cKn, true_and, and_true, List.map_cons, List.map_nil, Nat.reduceAdd, Nat.zero_add, Int.reduceAdd, Nat.reduceEqDiff, reduceIte, Classical.not_not, b_H_hall, shH, b1, Int.reduceEq, not_true_eq_false, not_false_eq_true, false_imp_iff, true_imp_iff, and_self]
    refine AW.run ck_H_hall [] 12 57 ?_
    simp only [wR, wB, wE0, wE1, wE2, wE3, g0, gS, s10, s11, s1S, s20, s21, s2S, kl0, kl1, kl2, kl3, sp0, sp1, sp2, sp3, cn1, cn2, cn3, cn4, cn5, cn6, jJa, lk0, lk1, jmS, jmN, s4_0, s4_1, s4_2, s4_3, s4_4, sw0, sw1, cKs, cKn, true_and, and_true, List.map_cons, List.map_nil, Nat.reduceAdd, Nat.zero_add, Int.reduceAdd, Nat.reduceEqDiff, reduceIte, Classical.not_not, b_H_hall, shH, k3, k4, k31, hHy, hHz]
    (repeat' (first | omega | (with_reducible exact True.intro) | exact ⟨by omega, by omega⟩ | (with_reducible exact Or.inr trivial) | (with_reducible exact Or.inl trivial) | (with_reducible assumption) | (with_reducible exact Same.refl) | (with_reducible rfl) | (with_reducible refine And.intro ?_ ?_) | (with_reducible intro _)))
    refine MS.to hmo fun _ => ?_
    simp only [wR, wB, wE0, wE1, wE2, wE3, g0, gS, s10, s11, s1S, s20, s21, s2S, kl0, kl1, kl2, kl3, sp0, sp1, sp2, sp3, cn1, cn2, cn3, cn4, cn5, cn6, jJa, lk0, lk1, jmS, jmN, s4_0, s4_1, s4_2, s4_3, s4_4, sw0, sw1, cKs, cKn, true_and, and_true, List.map_cons, List.map_nil, Nat.reduceAdd, Nat.zero_add, Int.reduceAdd, Nat.reduceEqDiff, reduceIte, Classical.not_not, b_H_hall, shH, m3, m0, hHy, Int.reduceEq, not_true_eq_false, not_false_eq_true, false_imp_iff, true_imp_iff, and_self]
    (repeat' (first | omega | (with_reducible exact True.intro) | exact ⟨by omega, by omega⟩ | (with_reducible exact Or.inr trivial) | (with_reducible exact Or.inl trivial) | (with_reducible assumption) | (with_reducible exact Same.refl) | (with_reducible rfl) | (with_reducible refine And.intro ?_ ?_) | (with_reducible intro _)))
    refine ⟨y, ⟨m3, ?_, hy7, ?_⟩, ⟨?_, fun k hk => absurd hk (by show ¬ k < 0; omega)⟩, ⟨?_, ?_⟩, hcm.eq ?_ ?_, ⟨?_, by show 0 ≤ 10; omega, qq, ?_, cq2, fun i hi => absurd hi (by show ¬ i < 0; omega)⟩, ?_, ?_, Or.inl ?_, ?_⟩
    · rw [up_ne1 (by omega), up_ne2 (by omega), nm 0 (by omega) (by omega), up_eq]; omega
    · exact hC.1.eq (nN _ (by omega) (by omega) (by omega) (by omega)) (nN _ (by omega) (by omega) (by omega) (by omega)) (nN _ (by omega) (by omega) (by omega) (by omega)) (nN _ (by omega) (by omega) (by omega) (by omega)) (nN _ (by omega) (by omega) (by omega) (by omega)) (nN _ (by omega) (by omega) (by omega) (by omega))
    · rw [n0 1 (by omega) (by omega) (by omega)]; exact e01
    · rw [nN 2 (by omega) (by omega) (by omega) (by omega)]; exact b1
    · rw [nN 2 (by omega) (by omega) (by omega) (by omega)]; exact b2
    · rw [up_z (by omega), up_z (by omega)]
    · rw [up_z (by omega), up_z (by omega)]
    · rw [up_ne1 (by omega), up_eq]; rfl
    · intro i hi
      rw [s3 29 (by omega) (by omega) (by omega) (by omega) (by omega) (by omega) (by omega) (by omega) (by omega)]
      exact cq1 i hi
    · exact fun i hi => (ct i hi).eq (s3 _ (by omega) (by omega) (by omega) (by omega) (by omega) (by omega) (by omega) (by omega) (by omega)) (s3 _ (by omega) (by omega) (by omega) (by omega) (by omega) (by omega) (by omega) (by omega) (by omega)) (s3 _ (by omega) (by omega) (by omega) (by omega) (by omega) (by omega) (by omega) (by omega) (by omega))
    · exact Cim.eq ci (by rw [n0 12 (by omega) (by omega) (by omega), s0 12 (by omega)]) (fun x hx => s3 _ (by omega) (by omega) (by omega) (by omega) (by omega) (by omega) (by omega) (by omega) (by omega))
    · rw [up_eq]; omega
    · exact cw.eq (fun x _ => s3 _ (by omega) (by omega) (by omega) (by omega) (by omega) (by omega) (by omega) (by omega) (by omega))
    · exact fun x (hx : 117 ≤ x) => s3 x (by omega) (by omega) (by omega) (by omega) (by omega) (by omega) (by omega) (by omega) (by omega)
end TG
