section NE
variable {G : AG} {d : Nat} {M : AM}
theorem own_bit {W p : Nat} (hW : W < 32) (hp : p < 5) : bAnd (W : Int) (bShl 1 (p : Int)) = (if wb W p = true then ((2 ^ p : Nat) : Int) else 0) := by
  have key : ∀ (W : Fin 32) (p : Fin 5), bAnd (W.val : Int) (bShl 1 (p.val : Int)) = (if wb W.val p.val = true then ((2 ^ p.val : Nat) : Int) else 0) := by decide +kernel
  exact key ⟨W, hW⟩ ⟨p, hp⟩
theorem p2_lt {p : Nat} (hp : p < 5) : 2 ^ p < 32 := by
  have : (2 : Nat) ^ p ≤ 2 ^ 4 := Nat.pow_le_pow_right (by omega) (by omega)
  omega
theorem bits_or {a p : Nat} (ha : a < 2 ^ p) (hp : p < 5) : bOr (a : Int) ((2 ^ p : Nat) : Int) = ((a + 2 ^ p : Nat) : Int) := by
  have := p2_lt hp
  have h1 := or_new (a := a) (n := p) ha (by omega)
  rw [show bShl 1 (p : Int) = ((2 ^ p : Nat) : Int) by rw [show (1 : Int) = ((1 : Nat) : Int) from rfl, bShl_n (by omega) (by omega), Nat.one_mul]] at h1
  exact h1
set_option maxRecDepth 20000 in
theorem c_H_needed {side n : Int} {B : Nat} {σ : Sg} (hd : 20 ≤ d) (ok : SgOK B σ) (hR : CR M σ) : MS G d mi_H_needed [vr 0, vi side, vi n] M (fun r M' => r = some (vi (aNeeded σ side n)) ∧ CR M' σ ∧ Hi M M') := by
  obtain ⟨z, hs, hM, hp, hT⟩ := hR.z
  have hok := ok.2.2.1
  have hP := hok.1
  have mok := ok.2.2.2.1.1
  refine MS.by ck_H_needed [some (vr 0), some (vi side), some (vi n), none, none, none, none] fun _ _ => ?_
  generalize hQ : (fun (r : Option AV) (M' : AM) => r = some (vi (aNeeded σ side n)) ∧ CR M' σ ∧ Hi M M') = Q
  unfold aNeeded at hQ
  refine AW.run ck_H_needed [10] 10 0 ?_
  simp only [wR, wB, wE0, wE1, wE2, wE3, g0, gS, s10, s11, s1S, s20, s21, s2S, kl0, kl1, kl2, kl3, sp0, sp1, sp2, sp3, cn1, cn2, cn3, cn4, cn5, cn6, jJa, lk0, lk1, jmS, jmN, s4_0, s4_1, s4_2, s4_3, s4_4, sw0, sw1, cKs, cKn, true_and, and_true, List.map_cons, List.map_nil, Nat.reduceAdd, Nat.zero_add, Int.reduceAdd, Nat.reduceEqDiff, reduceIte, Classical.not_not, b_H_needed, shH]
  refine ⟨by omega, MS.to c_H_isSide fun _ => ?_⟩
  simp only [wR, wB, wE0, wE1, wE2, wE3, g0, gS, s10, s11, s1S, s20, s21, s2S, kl0, kl1, kl2, kl3, sp0, sp1, sp2, sp3, cn1, cn2, cn3, cn4, cn5, cn6, jJa, lk0, lk1, jmS, jmN, s4_0, s4_1, s4_2, s4_3, s4_4, sw0, sw1, cKs, cKn, true_and, and_true, List.map_cons, List.map_nil, Nat.reduceAdd, Nat.zero_add, Int.reduceAdd, Nat.reduceEqDiff, reduceIte, Classical.not_not, b_H_needed, shH]
  by_cases q : side = 0 ∨ side = 1
  · rw [if_pos q] at hQ ⊢
    obtain ⟨k, rfl, hk⟩ := side_n q
    rw [Int.toNat_natCast] at hQ
    (repeat' (first | omega | (with_reducible exact True.intro) | exact ⟨by omega, by omega⟩ | (with_reducible exact Or.inr trivial) | (with_reducible exact Or.inl trivial) | (with_reducible assumption) | (with_reducible exact Same.refl) | (with_reducible rfl) | (with_reducible refine And.intro ?_ ?_) | (with_reducible intro _)))
    by_cases q2 : 1 ≤ n ∧ n ≤ 20
    · rw [if_pos q2] at hQ
      obtain ⟨j, rfl⟩ := Int.eq_ofNat_of_zero_le (show 0 ≤ n by omega)
      rw [Int.toNat_natCast] at hQ
      have hW := sideS_lt (sd := σ.m.sd) (k := k) hP
      refine AW.run ck_H_needed [21, 48] 10 10 ?_
      simp only [wR, wB, wE0, wE1, wE2, wE3, g0, gS, s10, s11, s1S, s20, s21, s2S, kl0, kl1, kl2, kl3, sp0, sp1, sp2, sp3, cn1, cn2, cn3, cn4, cn5, cn6, jJa, lk0, lk1, jmS, jmN, s4_0, s4_1, s4_2, s4_3, s4_4, sw0, sw1, cKs, cKn, true_and, and_true, List.map_cons, List.map_nil, Nat.reduceAdd, Nat.zero_add, Int.reduceAdd, Nat.reduceEqDiff, reduceIte, Classical.not_not, b_H_needed, shH]
      (repeat' (first | omega | (with_reducible exact True.intro) | exact ⟨by omega, by omega⟩ | (with_reducible exact Or.inr trivial) | (with_reducible exact Or.inl trivial) | (with_reducible assumption) | (with_reducible exact Same.refl) | (with_reducible rfl) | (with_reducible refine And.intro ?_ ?_) | (with_reducible intro _)))
      refine (c_H_aimAtSide (d := d - 1) (by omega) ok hR hk).mono ?_
      rintro r M1 okM1 ⟨rfl, u1, u2⟩
      have hs1 := CR.cz hs u2
      have hM1 := hM.eq (u2 _ (by omega)) (u2 _ (by omega))
      simp only [wR, wB, wE0, wE1, wE2, wE3, g0, gS, s10, s11, s1S, s20, s21, s2S, kl0, kl1, kl2, kl3, sp0, sp1, sp2, sp3, cn1, cn2, cn3, cn4, cn5, cn6, jJa, lk0, lk1, jmS, jmN, s4_0, s4_1, s4_2, s4_3, s4_4, sw0, sw1, cKs, cKn, true_and, and_true, List.map_cons, List.map_nil, Nat.reduceAdd, Nat.zero_add, Int.reduceAdd, Nat.reduceEqDiff, reduceIte, Classical.not_not, b_H_needed, shH, hs1.1, hs1.z, hs1.2.2.2.2.1]
      refine ⟨by omega, (c_H_lastsFor (d := d - 1) (by omega) ok hM1 u1 sub_refl hW).mono ?_⟩
      rintro r M2 okM2 ⟨rfl, v1, v2⟩
      simp only [wR, wB, wE0, wE1, wE2, wE3, g0, gS, s10, s11, s1S, s20, s21, s2S, kl0, kl1, kl2, kl3, sp0, sp1, sp2, sp3, cn1, cn2, cn3, cn4, cn5, cn6, jJa, lk0, lk1, jmS, jmN, s4_0, s4_1, s4_2, s4_3, s4_4, sw0, sw1, cKs, cKn, true_and, and_true, List.map_cons, List.map_nil, Nat.reduceAdd, Nat.zero_add, Int.reduceAdd, Nat.reduceEqDiff, reduceIte, Classical.not_not, b_H_needed, shH]
      have fin : ∀ (N : AM), StOK N σ.h σ.m.sd σ.m.cold (sideS σ.m.sd σ.h.P k) → Same [33, 43, 44, 45, 46, 47, 48] M1 N → CR N σ ∧ Hi M N ∧ Chs N z σ ∧ CM N 25 σ.h.P σ.m := by
        intro N h1 h2
        have hsc := u2.trans (Scr.watch h2)
        exact ⟨hR.aim hsc (fun p _ => (mok.1 p).1) h1, hsc.hi, CR.cz hs hsc, hM.eq (hsc _ (by omega)) (hsc _ (by omega))⟩
      unfold nedB at hQ
      by_cases qc : lastB σ k (sideS σ.m.sd σ.h.P k) σ.h.must j = true
      · rw [if_pos qc] at hQ ⊢
        generalize hf : (fun p => decide (σ.m.sd p = k) && !lastB σ k (sideS σ.m.sd σ.h.P k &&& (31 ^^^ 2 ^ p)) σ.h.must j) = f at hQ
        have hf0 : ∀ p, (wb (sideS σ.m.sd σ.h.P k) p && f p) = (decide (p < σ.h.P) && f p) := by
          intro p
          unfold wb sideS
          rw [bitsP_bit, ← hf]
          by_cases q1 : p < σ.h.P <;> by_cases q3 : σ.m.sd p = k <;> simp [q1, q3]
        have hres : bitsP (fun p => wb (sideS σ.m.sd σ.h.P k) p && f p) 5 = bitsP f σ.h.P := by
          have e1 := bitsP_ext (f := fun p => wb (sideS σ.m.sd σ.h.P k) p && f p) (P := σ.h.P) (fun p hp => by
            simp only [hf0]; simp; intro h; omega) (5 - σ.h.P)
          rw [show σ.h.P + (5 - σ.h.P) = 5 by omega] at e1
          rw [e1]
          refine bitsP_congr _ (fun p hp => ?_)
          rw [hf0]; simp [hp]
        rw [← hres] at hQ
        have loop : ∀ (r p : Nat) (N : AM) (l6 : Option AV), p + r = 5 → StOK N σ.h σ.m.sd σ.m.cold (sideS σ.m.sd σ.h.P k) → Same [33, 43, 44, 45, 46, 47, 48] M1 N → AW G d mi_H_needed Q 54 [some (vr 0), some (vi k), some (vi j), some (vi (sideS σ.m.sd σ.h.P k)), some (vi (bitsP (fun p => wb (sideS σ.m.sd σ.h.P k) p && f p) p)), some (vi p), l6] [] N := by
          intro r
          induction r with
          | zero =>
            intro p N l6 hp' hS hN
            obtain ⟨c1, c2, -, -⟩ := fin N hS hN
            obtain rfl : p = 5 := by omega
            refine AW.run ck_H_needed [101] 10 54 ?_
            simp only [wR, wB, wE0, wE1, wE2, wE3, g0, gS, s10, s11, s1S, s20, s21, s2S, kl0, kl1, kl2, kl3, sp0, sp1, sp2, sp3, cn1, cn2, cn3, cn4, cn5, cn6, jJa, lk0, lk1, jmS, jmN, s4_0, s4_1, s4_2, s4_3, s4_4, sw0, sw1, cKs, cKn, true_and, and_true, List.map_cons, List.map_nil, Nat.reduceAdd, Nat.zero_add, Int.reduceAdd, Nat.reduceEqDiff, reduceIte, Classical.not_not, b_H_needed, nc5, up_rd, Int.reduceEq, and_false, false_and, and_self, reduceIte, not_true_eq_false, not_false_eq_true, false_imp_iff, true_imp_iff, true_or, or_true]
            subst hQ
            (repeat' (first | omega | (with_reducible exact True.intro) | exact ⟨by omega, by omega⟩ | (with_reducible exact Or.inr trivial) | (with_reducible exact Or.inl trivial) | (with_reducible assumption) | (with_reducible exact Same.refl) | (with_reducible rfl) | (with_reducible refine And.intro ?_ ?_) | (with_reducible intro _)))
          | succ r ih =>
            intro p N l6 hp' hS hN
            obtain ⟨c1, c2, hsN, hMN⟩ := fin N hS hN
            have a101 : ∀ (N : AM) (l6 : Option AV), StOK N σ.h σ.m.sd σ.m.cold (sideS σ.m.sd σ.h.P k) → Same [33, 43, 44, 45, 46, 47, 48] M1 N → AW G d mi_H_needed Q 101 [some (vr 0), some (vi k), some (vi j), some (vi (sideS σ.m.sd σ.h.P k)), some (vi (bitsP (fun p => wb (sideS σ.m.sd σ.h.P k) p && f p) (p + 1))), some (vi p), l6] [] N := by
              intro N l6 h1 h2
              have := ih (p + 1) N l6 (by omega) h1 h2
              refine AW.run ck_H_needed [54] 10 101 ?_
              simp only [wR, wB, wE0, wE1, wE2, wE3, g0, gS, s10, s11, s1S, s20, s21, s2S, kl0, kl1, kl2, kl3, sp0, sp1, sp2, sp3, cn1, cn2, cn3, cn4, cn5, cn6, jJa, lk0, lk1, jmS, jmN, s4_0, s4_1, s4_2, s4_3, s4_4, sw0, sw1, cKs, cKn, true_and, and_true, List.map_cons, List.map_nil, Nat.reduceAdd, Nat.zero_add, Int.reduceAdd, Nat.reduceEqDiff, reduceIte, Classical.not_not, b_H_needed, ce]
              (repeat' (first | omega | (with_reducible exact True.intro) | exact ⟨by omega, by omega⟩ | (with_reducible exact Or.inr trivial) | (with_reducible exact Or.inl trivial) | (with_reducible assumption) | (with_reducible exact Same.refl) | (with_reducible rfl) | (with_reducible refine And.intro ?_ ?_) | (with_reducible intro _)))
            have hbl := bitsP_lt (fun p => wb (sideS σ.m.sd σ.h.P k) p && f p) p
            have hb32 := p2_lt (p := p) (by omega)
            refine AW.run ck_H_needed [101] 10 54 ?_
            simp only [wR, wB, wE0, wE1, wE2, wE3, g0, gS, s10, s11, s1S, s20, s21, s2S, kl0, kl1, kl2, kl3, sp0, sp1, sp2, sp3, cn1, cn2, cn3, cn4, cn5, cn6, jJa, lk0, lk1, jmS, jmN, s4_0, s4_1, s4_2, s4_3, s4_4, sw0, sw1, cKs, cKn, true_and, and_true, List.map_cons, List.map_nil, Nat.reduceAdd, Nat.zero_add, Int.reduceAdd, Nat.reduceEqDiff, reduceIte, Classical.not_not, b_H_needed, shH, own_bit hW (show p < 5 by omega)]
            by_cases qw : wb (sideS σ.m.sd σ.h.P k) p = true
            · rw [if_pos qw]
              have h2p : 0 < 2 ^ p := Nat.pow_pos (by omega)
              simp only [wR, wB, wE0, wE1, wE2, wE3, g0, gS, s10, s11, s1S, s20, s21, s2S, kl0, kl1, kl2, kl3, sp0, sp1, sp2, sp3, cn1, cn2, cn3, cn4, cn5, cn6, jJa, lk0, lk1, jmS, jmN, s4_0, s4_1, s4_2, s4_3, s4_4, sw0, sw1, cKs, cKn, true_and, and_true, List.map_cons, List.map_nil, Nat.reduceAdd, Nat.zero_add, Int.reduceAdd, Nat.reduceEqDiff, reduceIte, Classical.not_not, hsN.1, hsN.z, hsN.2.2.2.2.1, bAndN_n hW hb32]
              (repeat' (first | omega | (with_reducible exact True.intro) | exact ⟨by omega, by omega⟩ | (with_reducible exact Or.inr trivial) | (with_reducible exact Or.inl trivial) | (with_reducible assumption) | (with_reducible exact Same.refl) | (with_reducible rfl) | (with_reducible refine And.intro ?_ ?_) | (with_reducible intro _)))
              refine (c_H_lastsFor (d := d - 1) (pe := sideS σ.m.sd σ.h.P k &&& (31 ^^^ 2 ^ p)) (must := σ.h.must) (by omega) ok hMN hS (sub_and sub_refl) (Nat.lt_of_le_of_lt Nat.and_le_left hW)).mono ?_
              rintro r' N2 okN2 ⟨rfl, w1, w2⟩
              simp only [wR, wB, wE0, wE1, wE2, wE3, g0, gS, s10, s11, s1S, s20, s21, s2S, kl0, kl1, kl2, kl3, sp0, sp1, sp2, sp3, cn1, cn2, cn3, cn4, cn5, cn6, jJa, lk0, lk1, jmS, jmN, s4_0, s4_1, s4_2, s4_3, s4_4, sw0, sw1, cKs, cKn, true_and, and_true, List.map_cons, List.map_nil, Nat.reduceAdd, Nat.zero_add, Int.reduceAdd, Nat.reduceEqDiff, reduceIte, Classical.not_not, b_H_needed, shH]
              have hsd : decide (σ.m.sd p = k) = true := by
                have := hf0 p
                unfold wb sideS at qw
                rw [bitsP_bit, decide_eq_true_eq] at qw
                by_cases e : σ.m.sd p = k
                · simp [e]
                · simp [e] at qw
              have hfp : f p = !lastB σ k (sideS σ.m.sd σ.h.P k &&& (31 ^^^ 2 ^ p)) σ.h.must j := by rw [← hf]; simp only [hsd, Bool.true_and]
              by_cases qc2 : lastB σ k (sideS σ.m.sd σ.h.P k &&& (31 ^^^ 2 ^ p)) σ.h.must j = true
              · rw [if_pos qc2]
                have e : bitsP (fun p => wb (sideS σ.m.sd σ.h.P k) p && f p) (p + 1) = bitsP (fun p => wb (sideS σ.m.sd σ.h.P k) p && f p) p := by
                  simp only [bitsP]
                  rw [if_neg (by rw [hfp, qc2]; simp)]
                  rfl
                have := a101 N2 (some (vi ((2 ^ p : Nat) : Int))) w1 (hN.trans w2)
                rw [e] at this
                (repeat' (first | omega | (with_reducible exact True.intro) | exact ⟨by omega, by omega⟩ | (with_reducible exact Or.inr trivial) | (with_reducible exact Or.inl trivial) | (with_reducible assumption) | (with_reducible exact Same.refl) | (with_reducible rfl) | (with_reducible refine And.intro ?_ ?_) | (with_reducible intro _)))
              · rw [if_neg qc2]
                have e : bitsP (fun p => wb (sideS σ.m.sd σ.h.P k) p && f p) (p + 1) = bitsP (fun p => wb (sideS σ.m.sd σ.h.P k) p && f p) p + 2 ^ p := by
                  simp only [bitsP]
                  rw [if_pos (by rw [hfp, qw]; simp [qc2])]
                have := a101 N2 (some (vi ((2 ^ p : Nat) : Int))) w1 (hN.trans w2)
                rw [e] at this
                simp only [wR, wB, wE0, wE1, wE2, wE3, g0, gS, s10, s11, s1S, s20, s21, s2S, kl0, kl1, kl2, kl3, sp0, sp1, sp2, sp3, cn1, cn2, cn3, cn4, cn5, cn6, jJa, lk0, lk1, jmS, jmN, s4_0, s4_1, s4_2, s4_3, s4_4, sw0, sw1, cKs, cKn, true_and, and_true, List.map_cons, List.map_nil, Nat.reduceAdd, Nat.zero_add, Int.reduceAdd, Nat.reduceEqDiff, reduceIte, Classical.not_not, bits_or hbl (show p < 5 by omega), up_rd, Int.reduceEq, and_false, false_and, and_self, reduceIte, not_true_eq_false, not_false_eq_true, false_imp_iff, true_imp_iff, true_or, or_true]
                (repeat' (first | omega | (with_reducible exact True.intro) | exact ⟨by omega, by omega⟩ | (with_reducible exact Or.inr trivial) | (with_reducible exact Or.inl trivial) | (with_reducible assumption) | (with_reducible exact Same.refl) | (with_reducible rfl) | (with_reducible refine And.intro ?_ ?_) | (with_reducible intro _)))
            · rw [if_neg qw]
              have e : bitsP (fun p => wb (sideS σ.m.sd σ.h.P k) p && f p) (p + 1) = bitsP (fun p => wb (sideS σ.m.sd σ.h.P k) p && f p) p := by
                simp only [bitsP]
                rw [if_neg (by simp [qw])]
                rfl
              have := a101 N (some (vi 0)) hS hN
              rw [e] at this
              (repeat' (first | omega | (with_reducible exact True.intro) | exact ⟨by omega, by omega⟩ | (with_reducible exact Or.inr trivial) | (with_reducible exact Or.inl trivial) | (with_reducible assumption) | (with_reducible exact Same.refl) | (with_reducible rfl) | (with_reducible refine And.intro ?_ ?_) | (with_reducible intro _)))
        have := loop 5 0 M2 none (by omega) v1 v2
        (repeat' (first | omega | (with_reducible exact True.intro) | exact ⟨by omega, by omega⟩ | (with_reducible exact Or.inr trivial) | (with_reducible exact Or.inl trivial) | (with_reducible assumption) | (with_reducible exact Same.refl) | (with_reducible rfl) | (with_reducible refine And.intro ?_ ?_) | (with_reducible intro _)))
        refine AW.run ck_H_needed [54] 10 48 ?_
        simp only [wR, wB, wE0, wE1, wE2, wE3, g0, gS, s10, s11, s1S, s20, s21, s2S, kl0, kl1, kl2, kl3, sp0, sp1, sp2, sp3, cn1, cn2, cn3, cn4, cn5, cn6, jJa, lk0, lk1, jmS, jmN, s4_0, s4_1, s4_2, s4_3, s4_4, sw0, sw1, cKs, cKn, true_and, and_true, List.map_cons, List.map_nil, Nat.reduceAdd, Nat.zero_add, Int.reduceAdd, Nat.reduceEqDiff, reduceIte, Classical.not_not, b_H_needed]
        exact this
      · rw [if_neg qc] at hQ ⊢
        obtain ⟨c1, c2, -, -⟩ := fin M2 v1 v2
        subst hQ
        (repeat' (first | omega | (with_reducible exact True.intro) | exact ⟨by omega, by omega⟩ | (with_reducible exact Or.inr trivial) | (with_reducible exact Or.inl trivial) | (with_reducible assumption) | (with_reducible exact Same.refl) | (with_reducible rfl) | (with_reducible refine And.intro ?_ ?_) | (with_reducible intro _)))
        all_goals rfl
    · rw [if_neg q2] at hQ
      have a21 : AW G d mi_H_needed Q 21 [some (vr 0), some (vi k), some (vi n), none, none, none, none] [] M := by
        refine AW.run ck_H_needed [] 10 21 ?_
        simp only [wR, wB, wE0, wE1, wE2, wE3, g0, gS, s10, s11, s1S, s20, s21, s2S, kl0, kl1, kl2, kl3, sp0, sp1, sp2, sp3, cn1, cn2, cn3, cn4, cn5, cn6, jJa, lk0, lk1, jmS, jmN, s4_0, s4_1, s4_2, s4_3, s4_4, sw0, sw1, cKs, cKn, true_and, and_true, List.map_cons, List.map_nil, Nat.reduceAdd, Nat.zero_add, Int.reduceAdd, Nat.reduceEqDiff, reduceIte, Classical.not_not, b_H_needed]
        subst hQ
        exact ⟨rfl, hR, Hi.refl⟩
      refine AW.run ck_H_needed [21, 24] 10 10 ?_
      simp only [wR, wB, wE0, wE1, wE2, wE3, g0, gS, s10, s11, s1S, s20, s21, s2S, kl0, kl1, kl2, kl3, sp0, sp1, sp2, sp3, cn1, cn2, cn3, cn4, cn5, cn6, jJa, lk0, lk1, jmS, jmN, s4_0, s4_1, s4_2, s4_3, s4_4, sw0, sw1, cKs, cKn, true_and, and_true, List.map_cons, List.map_nil, Nat.reduceAdd, Nat.zero_add, Int.reduceAdd, Nat.reduceEqDiff, reduceIte, Classical.not_not, b_H_needed, shH]
      (repeat' (first | omega | (with_reducible exact True.intro) | exact ⟨by omega, by omega⟩ | (with_reducible exact Or.inr trivial) | (with_reducible exact Or.inl trivial) | (with_reducible assumption) | (with_reducible exact Same.refl) | (with_reducible rfl) | (with_reducible refine And.intro ?_ ?_) | (with_reducible intro _)))
  · rw [if_neg q] at hQ ⊢
    subst hQ
    have := Hi.refl (M := M)
    (repeat' (first | omega | (with_reducible exact True.intro) | exact ⟨by omega, by omega⟩ | (with_reducible exact Or.inr trivial) | (with_reducible exact Or.inl trivial) | (with_reducible assumption) | (with_reducible exact Same.refl) | (with_reducible rfl) | (with_reducible refine And.intro ?_ ?_) | (with_reducible intro _)))
set_option maxRecDepth 20000 in
theorem c_Md_needed {side n : Int} {B : Nat} {σ : Sg} (hd : 30 ≤ d) (ok : SgOK B σ) (hR : MR M σ) : MS G d mi_Md_needed [vr 117, vi side, vi n] M (fun r M' => r = some (vi (aNeeded σ side n)) ∧ MR M' σ ∧ Lo M M') := by
  have hR' := hR.thr
  have hok := ok.2.2.1
  have hP := hok.1
  have mok := ok.2.2.2.1.1
  refine MS.by ck_Md_needed [some (vr 117), some (vi side), some (vi n), none, none] fun _ _ => ?_
  generalize hQ : (fun (r : Option AV) (M' : AM) => r = some (vi (aNeeded σ side n)) ∧ MR M' σ ∧ Lo M M') = Q
  refine AW.run ck_Md_needed [15] 10 0 ?_
  simp only [wR, wB, wE0, wE1, wE2, wE3, g0, gS, s10, s11, s1S, s20, s21, s2S, kl0, kl1, kl2, kl3, sp0, sp1, sp2, sp3, cn1, cn2, cn3, cn4, cn5, cn6, jJa, lk0, lk1, jmS, jmN, s4_0, s4_1, s4_2, s4_3, s4_4, sw0, sw1, cKs, cKn, true_and, and_true, List.map_cons, List.map_nil, Nat.reduceAdd, Nat.zero_add, Int.reduceAdd, Nat.reduceEqDiff, reduceIte, Classical.not_not, b_Md_needed, shMd]
  have hlo : Lo M (up M 117 0 0) := thr_lo
  generalize up M 117 0 0 = N at hR' hlo ⊢
  refine ⟨by omega, MS.to (c_Md_isSide (d := d - 1) (by omega)) fun _ => ?_⟩
  simp only [wR, wB, wE0, wE1, wE2, wE3, g0, gS, s10, s11, s1S, s20, s21, s2S, kl0, kl1, kl2, kl3, sp0, sp1, sp2, sp3, cn1, cn2, cn3, cn4, cn5, cn6, jJa, lk0, lk1, jmS, jmN, s4_0, s4_1, s4_2, s4_3, s4_4, sw0, sw1, cKs, cKn, true_and, and_true, List.map_cons, List.map_nil, Nat.reduceAdd, Nat.zero_add, Int.reduceAdd, Nat.reduceEqDiff, reduceIte, Classical.not_not, b_Md_needed, shMd]
  unfold aNeeded at hQ
  by_cases q : side = 0 ∨ side = 1
  · rw [if_pos q] at hQ ⊢
    obtain ⟨k, rfl, hk⟩ := side_n q
    rw [Int.toNat_natCast] at hQ
    (repeat' (first | omega | (with_reducible exact True.intro) | exact ⟨by omega, by omega⟩ | (with_reducible exact Or.inr trivial) | (with_reducible exact Or.inl trivial) | (with_reducible assumption) | (with_reducible exact Same.refl) | (with_reducible rfl) | (with_reducible refine And.intro ?_ ?_) | (with_reducible intro _)))
    refine AW.run ck_Md_needed [30] 10 15 ?_
    simp only [wR, wB, wE0, wE1, wE2, wE3, g0, gS, s10, s11, s1S, s20, s21, s2S, kl0, kl1, kl2, kl3, sp0, sp1, sp2, sp3, cn1, cn2, cn3, cn4, cn5, cn6, jJa, lk0, lk1, jmS, jmN, s4_0, s4_1, s4_2, s4_3, s4_4, sw0, sw1, cKs, cKn, true_and, and_true, List.map_cons, List.map_nil, Nat.reduceAdd, Nat.zero_add, Int.reduceAdd, Nat.reduceEqDiff, reduceIte, Classical.not_not, b_Md_needed, shMd]
    refine ⟨by omega, MS.to c_Md_within fun _ => ?_⟩
    simp only [wR, wB, wE0, wE1, wE2, wE3, g0, gS, s10, s11, s1S, s20, s21, s2S, kl0, kl1, kl2, kl3, sp0, sp1, sp2, sp3, cn1, cn2, cn3, cn4, cn5, cn6, jJa, lk0, lk1, jmS, jmN, s4_0, s4_1, s4_2, s4_3, s4_4, sw0, sw1, cKs, cKn, true_and, and_true, List.map_cons, List.map_nil, Nat.reduceAdd, Nat.zero_add, Int.reduceAdd, Nat.reduceEqDiff, reduceIte, Classical.not_not, b_Md_needed, shMd]
    by_cases q2 : 1 ≤ n ∧ n ≤ 20
    · rw [if_pos q2] at hQ ⊢
      obtain ⟨j, rfl⟩ := Int.eq_ofNat_of_zero_le (show 0 ≤ n by omega)
      rw [Int.toNat_natCast] at hQ
      have hW := sideS_lt (sd := σ.m.sd) (k := k) hP
      obtain ⟨hH, hm, -⟩ := hR'.past
      (repeat' (first | omega | (with_reducible exact True.intro) | exact ⟨by omega, by omega⟩ | (with_reducible exact Or.inr trivial) | (with_reducible exact Or.inl trivial) | (with_reducible assumption) | (with_reducible exact Same.refl) | (with_reducible rfl) | (with_reducible refine And.intro ?_ ?_) | (with_reducible intro _)))
      refine AW.run ck_Md_needed [54] 10 30 ?_
      simp only [wR, wB, wE0, wE1, wE2, wE3, g0, gS, s10, s11, s1S, s20, s21, s2S, kl0, kl1, kl2, kl3, sp0, sp1, sp2, sp3, cn1, cn2, cn3, cn4, cn5, cn6, jJa, lk0, lk1, jmS, jmN, s4_0, s4_1, s4_2, s4_3, s4_4, sw0, sw1, cKs, cKn, true_and, and_true, List.map_cons, List.map_nil, Nat.reduceAdd, Nat.zero_add, Int.reduceAdd, Nat.reduceEqDiff, reduceIte, Classical.not_not, b_Md_needed, shMd]
      refine ⟨by omega, MS.to (c_Md_sideOf (sd := σ.m.sd) (s := k) hH.2.1 hP (fun p hp => (hm.sd mok p hp).1)) fun _ => ?_⟩
      simp only [wR, wB, wE0, wE1, wE2, wE3, g0, gS, s10, s11, s1S, s20, s21, s2S, kl0, kl1, kl2, kl3, sp0, sp1, sp2, sp3, cn1, cn2, cn3, cn4, cn5, cn6, jJa, lk0, lk1, jmS, jmN, s4_0, s4_1, s4_2, s4_3, s4_4, sw0, sw1, cKs, cKn, true_and, and_true, List.map_cons, List.map_nil, Nat.reduceAdd, Nat.zero_add, Int.reduceAdd, Nat.reduceEqDiff, reduceIte, Classical.not_not, b_Md_needed, shMd, hH.2.2.1]
      (repeat' (first | omega | (with_reducible exact True.intro) | exact ⟨by omega, by omega⟩ | (with_reducible exact Or.inr trivial) | (with_reducible exact Or.inl trivial) | (with_reducible assumption) | (with_reducible exact Same.refl) | (with_reducible rfl) | (with_reducible refine And.intro ?_ ?_) | (with_reducible intro _)))
      refine (c_Md_canHold (d := d - 1) (side := k) (pe := sideS σ.m.sd σ.h.P k) (must := σ.h.must) (n := j) (by omega) hok mok hH hm hW (by omega)).mono ?_
      rintro r K okK ⟨rfl, u1, u2⟩
      obtain ⟨c1, c2⟩ := hR'.lay3 u1 u2
      have c3 := hlo.trans c2
      rw [show cb (cnH (okH σ.h σ.m.sd σ.m.cold k (sideS σ.m.sd σ.h.P k) σ.h.must) (nxt σ.h σ.m.sd σ.m.cold) j (cod σ.m.st σ.h.P)) = lastB σ k (sideS σ.m.sd σ.h.P k) σ.h.must j from rfl]
      simp only [wR, wB, wE0, wE1, wE2, wE3, g0, gS, s10, s11, s1S, s20, s21, s2S, kl0, kl1, kl2, kl3, sp0, sp1, sp2, sp3, cn1, cn2, cn3, cn4, cn5, cn6, jJa, lk0, lk1, jmS, jmN, s4_0, s4_1, s4_2, s4_3, s4_4, sw0, sw1, cKs, cKn, true_and, and_true, List.map_cons, List.map_nil, Nat.reduceAdd, Nat.zero_add, Int.reduceAdd, Nat.reduceEqDiff, reduceIte, Classical.not_not, b_Md_needed, shMd]
      unfold nedB at hQ
      by_cases qc : lastB σ k (sideS σ.m.sd σ.h.P k) σ.h.must j = true
      · rw [if_pos qc] at hQ ⊢
        generalize hf : (fun p => decide (σ.m.sd p = k) && !lastB σ k (sideS σ.m.sd σ.h.P k &&& (31 ^^^ 2 ^ p)) σ.h.must j) = f at hQ
        have loop : ∀ (r p : Nat) (N : AM), p + r = σ.h.P → MR N σ → Lo M N → AW G d mi_Md_needed Q 57 [some (vr 117), some (vi k), some (vi j), some (vi (bitsP f p)), some (vi p)] [] N := by
          intro r
          induction r with
          | zero =>
            intro p N hp' hN hl
            obtain ⟨hH, hm, -⟩ := hN.past
            refine AW.run ck_Md_needed [116] 10 57 ?_
            simp only [wR, wB, wE0, wE1, wE2, wE3, g0, gS, s10, s11, s1S, s20, s21, s2S, kl0, kl1, kl2, kl3, sp0, sp1, sp2, sp3, cn1, cn2, cn3, cn4, cn5, cn6, jJa, lk0, lk1, jmS, jmN, s4_0, s4_1, s4_2, s4_3, s4_4, sw0, sw1, cKs, cKn, true_and, and_true, List.map_cons, List.map_nil, Nat.reduceAdd, Nat.zero_add, Int.reduceAdd, Nat.reduceEqDiff, reduceIte, Classical.not_not, b_Md_needed, shMd, hH.2.1]
            subst hQ
            rw [show p = σ.h.P by omega]
            (repeat' (first | omega | (with_reducible exact True.intro) | exact ⟨by omega, by omega⟩ | (with_reducible exact Or.inr trivial) | (with_reducible exact Or.inl trivial) | (with_reducible assumption) | (with_reducible exact Same.refl) | (with_reducible rfl) | (with_reducible refine And.intro ?_ ?_) | (with_reducible intro _)))
          | succ r ih =>
            intro p N hp' hN hl
            obtain ⟨hH, hm, -⟩ := hN.past
            have a116 : ∀ (N : AM), MR N σ → Lo M N → AW G d mi_Md_needed Q 116 [some (vr 117), some (vi k), some (vi j), some (vi (bitsP f (p + 1))), some (vi p)] [] N := by
              intro N h1 h2
              have := ih (p + 1) N (by omega) h1 h2
              refine AW.run ck_Md_needed [57] 10 116 ?_
              simp only [wR, wB, wE0, wE1, wE2, wE3, g0, gS, s10, s11, s1S, s20, s21, s2S, kl0, kl1, kl2, kl3, sp0, sp1, sp2, sp3, cn1, cn2, cn3, cn4, cn5, cn6, jJa, lk0, lk1, jmS, jmN, s4_0, s4_1, s4_2, s4_3, s4_4, sw0, sw1, cKs, cKn, true_and, and_true, List.map_cons, List.map_nil, Nat.reduceAdd, Nat.zero_add, Int.reduceAdd, Nat.reduceEqDiff, reduceIte, Classical.not_not, b_Md_needed, ce]
              (repeat' (first | omega | (with_reducible exact True.intro) | exact ⟨by omega, by omega⟩ | (with_reducible exact Or.inr trivial) | (with_reducible exact Or.inl trivial) | (with_reducible assumption) | (with_reducible exact Same.refl) | (with_reducible rfl) | (with_reducible refine And.intro ?_ ?_) | (with_reducible intro _)))
            have hbl := bitsP_lt f p
            have hb32 := p2_lt (p := p) (by omega)
            have e19 := (hm.sd mok p (by omega)).1
            have esh : bShl 1 (p : Int) = ((2 ^ p : Nat) : Int) := by rw [show (1 : Int) = ((1 : Nat) : Int) from rfl, bShl_n (by omega) (by omega), Nat.one_mul]
            refine AW.run ck_Md_needed [116] 10 57 ?_
            simp only [wR, wB, wE0, wE1, wE2, wE3, g0, gS, s10, s11, s1S, s20, s21, s2S, kl0, kl1, kl2, kl3, sp0, sp1, sp2, sp3, cn1, cn2, cn3, cn4, cn5, cn6, jJa, lk0, lk1, jmS, jmN, s4_0, s4_1, s4_2, s4_3, s4_4, sw0, sw1, cKs, cKn, true_and, and_true, List.map_cons, List.map_nil, Nat.reduceAdd, Nat.zero_add, Int.reduceAdd, Nat.reduceEqDiff, reduceIte, Classical.not_not, b_Md_needed, shMd, hH.2.1, e19]
            by_cases qs : σ.m.sd p = k
            · (repeat' (first | omega | (with_reducible exact True.intro) | exact ⟨by omega, by omega⟩ | (with_reducible exact Or.inr trivial) | (with_reducible exact Or.inl trivial) | (with_reducible assumption) | (with_reducible exact Same.refl) | (with_reducible rfl) | (with_reducible refine And.intro ?_ ?_) | (with_reducible intro _)))
              refine MS.to (c_Md_sideOf (sd := σ.m.sd) (s := k) hH.2.1 hP (fun p hp => (hm.sd mok p hp).1)) fun _ => ?_
              rw [show bitsP (fun p => decide (σ.m.sd p = k)) σ.h.P = sideS σ.m.sd σ.h.P k from rfl]
              simp only [wR, wB, wE0, wE1, wE2, wE3, g0, gS, s10, s11, s1S, s20, s21, s2S, kl0, kl1, kl2, kl3, sp0, sp1, sp2, sp3, cn1, cn2, cn3, cn4, cn5, cn6, jJa, lk0, lk1, jmS, jmN, s4_0, s4_1, s4_2, s4_3, s4_4, sw0, sw1, cKs, cKn, true_and, and_true, List.map_cons, List.map_nil, Nat.reduceAdd, Nat.zero_add, Int.reduceAdd, Nat.reduceEqDiff, reduceIte, Classical.not_not, b_Md_needed, shMd, hH.2.2.1, esh, bAndN_n hW hb32]
              (repeat' (first | omega | (with_reducible exact True.intro) | exact ⟨by omega, by omega⟩ | (with_reducible exact Or.inr trivial) | (with_reducible exact Or.inl trivial) | (with_reducible assumption) | (with_reducible exact Same.refl) | (with_reducible rfl) | (with_reducible refine And.intro ?_ ?_) | (with_reducible intro _)))
              refine (c_Md_canHold (d := d - 1) (side := k) (pe := sideS σ.m.sd σ.h.P k &&& (31 ^^^ 2 ^ p)) (must := σ.h.must) (n := j) (by omega) hok mok hH hm (Nat.lt_of_le_of_lt Nat.and_le_left hW) (by omega)).mono ?_
              rintro r' K okK ⟨rfl, u1, u2⟩
              obtain ⟨c1, c2⟩ := hN.lay3 u1 u2
              have c3 := hl.trans c2
              rw [show cb (cnH (okH σ.h σ.m.sd σ.m.cold k (sideS σ.m.sd σ.h.P k &&& (31 ^^^ 2 ^ p)) σ.h.must) (nxt σ.h σ.m.sd σ.m.cold) j (cod σ.m.st σ.h.P)) = lastB σ k (sideS σ.m.sd σ.h.P k &&& (31 ^^^ 2 ^ p)) σ.h.must j from rfl]
              simp only [wR, wB, wE0, wE1, wE2, wE3, g0, gS, s10, s11, s1S, s20, s21, s2S, kl0, kl1, kl2, kl3, sp0, sp1, sp2, sp3, cn1, cn2, cn3, cn4, cn5, cn6, jJa, lk0, lk1, jmS, jmN, s4_0, s4_1, s4_2, s4_3, s4_4, sw0, sw1, cKs, cKn, true_and, and_true, List.map_cons, List.map_nil, Nat.reduceAdd, Nat.zero_add, Int.reduceAdd, Nat.reduceEqDiff, reduceIte, Classical.not_not, b_Md_needed, shMd]
              have hfp : f p = !lastB σ k (sideS σ.m.sd σ.h.P k &&& (31 ^^^ 2 ^ p)) σ.h.must j := by rw [← hf]; simp [qs]
              by_cases qc2 : lastB σ k (sideS σ.m.sd σ.h.P k &&& (31 ^^^ 2 ^ p)) σ.h.must j = true
              · rw [if_pos qc2]
                have e : bitsP f (p + 1) = bitsP f p := by
                  simp only [bitsP]
                  rw [if_neg (by rw [hfp, qc2]; simp)]
                  rfl
                have := a116 K c1 c3
                rw [e] at this
                (repeat' (first | omega | (with_reducible exact True.intro) | exact ⟨by omega, by omega⟩ | (with_reducible exact Or.inr trivial) | (with_reducible exact Or.inl trivial) | (with_reducible assumption) | (with_reducible exact Same.refl) | (with_reducible rfl) | (with_reducible refine And.intro ?_ ?_) | (with_reducible intro _)))
              · rw [if_neg qc2]
                have e : bitsP f (p + 1) = bitsP f p + 2 ^ p := by
                  simp only [bitsP]
                  rw [if_pos (by rw [hfp]; simp [qc2])]
                have := a116 K c1 c3
                rw [e] at this
                simp only [wR, wB, wE0, wE1, wE2, wE3, g0, gS, s10, s11, s1S, s20, s21, s2S, kl0, kl1, kl2, kl3, sp0, sp1, sp2, sp3, cn1, cn2, cn3, cn4, cn5, cn6, jJa, lk0, lk1, jmS, jmN, s4_0, s4_1, s4_2, s4_3, s4_4, sw0, sw1, cKs, cKn, true_and, and_true, List.map_cons, List.map_nil, Nat.reduceAdd, Nat.zero_add, Int.reduceAdd, Nat.reduceEqDiff, reduceIte, Classical.not_not, esh, bits_or hbl (show p < 5 by omega), up_rd, Int.reduceEq, and_false, false_and, and_self, reduceIte, not_true_eq_false, not_false_eq_true, false_imp_iff, true_imp_iff, true_or, or_true]
                (repeat' (first | omega | (with_reducible exact True.intro) | exact ⟨by omega, by omega⟩ | (with_reducible exact Or.inr trivial) | (with_reducible exact Or.inl trivial) | (with_reducible assumption) | (with_reducible exact Same.refl) | (with_reducible rfl) | (with_reducible refine And.intro ?_ ?_) | (with_reducible intro _)))
            · have e : bitsP f (p + 1) = bitsP f p := by
                simp only [bitsP]
                rw [if_neg (by rw [← hf]; simp [qs])]
                rfl
              have := a116 N hN hl
              rw [e] at this
              (repeat' (first | omega | (with_reducible exact True.intro) | exact ⟨by omega, by omega⟩ | (with_reducible exact Or.inr trivial) | (with_reducible exact Or.inl trivial) | (with_reducible assumption) | (with_reducible exact Same.refl) | (with_reducible rfl) | (with_reducible refine And.intro ?_ ?_) | (with_reducible intro _)))
        have := loop σ.h.P 0 K (by omega) c1 c3
        (repeat' (first | omega | (with_reducible exact True.intro) | exact ⟨by omega, by omega⟩ | (with_reducible exact Or.inr trivial) | (with_reducible exact Or.inl trivial) | (with_reducible assumption) | (with_reducible exact Same.refl) | (with_reducible rfl) | (with_reducible refine And.intro ?_ ?_) | (with_reducible intro _)))
        refine AW.run ck_Md_needed [57] 10 54 ?_
        simp only [wR, wB, wE0, wE1, wE2, wE3, g0, gS, s10, s11, s1S, s20, s21, s2S, kl0, kl1, kl2, kl3, sp0, sp1, sp2, sp3, cn1, cn2, cn3, cn4, cn5, cn6, jJa, lk0, lk1, jmS, jmN, s4_0, s4_1, s4_2, s4_3, s4_4, sw0, sw1, cKs, cKn, true_and, and_true, List.map_cons, List.map_nil, Nat.reduceAdd, Nat.zero_add, Int.reduceAdd, Nat.reduceEqDiff, reduceIte, Classical.not_not, b_Md_needed]
        exact this
      · rw [if_neg qc] at hQ ⊢
        subst hQ
        (repeat' (first | omega | (with_reducible exact True.intro) | exact ⟨by omega, by omega⟩ | (with_reducible exact Or.inr trivial) | (with_reducible exact Or.inl trivial) | (with_reducible assumption) | (with_reducible exact Same.refl) | (with_reducible rfl) | (with_reducible refine And.intro ?_ ?_) | (with_reducible intro _)))
        all_goals rfl
    · rw [if_neg q2] at hQ ⊢
      subst hQ
      (repeat' (first | omega | (with_reducible exact True.intro) | exact ⟨by omega, by omega⟩ | (with_reducible exact Or.inr trivial) | (with_reducible exact Or.inl trivial) | (with_reducible assumption) | (with_reducible exact Same.refl) | (with_reducible rfl) | (with_reducible refine And.intro ?_ ?_) | (with_reducible intro _)))
  · rw [if_neg q] at hQ ⊢
    subst hQ
    (repeat' (first | omega | (with_reducible exact True.intro) | exact ⟨by omega, by omega⟩ | (with_reducible exact Or.inr trivial) | (with_reducible exact Or.inl trivial) | (with_reducible assumption) | (with_reducible exact Same.refl) | (with_reducible rfl) | (with_reducible refine And.intro ?_ ?_) | (with_reducible intro _)))
end NE
