section MG
variable {G : AG} {d : Nat} {M : AM}
theorem c_Md_undo {n : Int} {B : Nat} {σ : Sg} (hd : 20 ≤ d) (ok : SgOK B σ) (hR : MR M σ) :
    MS G d mi_Md_undo [vr 117, vi n] M (fun r M' => r = some (vi (aUndo σ n)) ∧ MR M' (sUndo σ n) ∧ Lo M M') := by
  have hR' := hR.thr
  have hok := ok.2.2.1
  have hP := hok.1
  have hn10 := ok.2.2.2.2.1
  obtain ⟨hH, hm, hp⟩ := hR'.past
  refine MS.by ck_Md_undo [some (vr 117), some (vi n), none] fun _ _ => ?_
  unfold aUndo sUndo
  generalize hQ : (fun (r : Option AV) (M' : AM) => r = some (vi (if 1 ≤ n ∧ n ≤ (σ.np : Int) then (σ.np : Int) - n else -3)) ∧ MR M' (if 1 ≤ n ∧ n ≤ (σ.np : Int) then σ.to (σ.pm (σ.np - n.toNat)) (σ.np - n.toNat) σ.pm else σ) ∧ Lo M M') = Q
  refine AW.run ck_Md_undo [28, 31] 10 0 ?_
  simp only [wR, wB, wE0, wE1, wE2, wE3, g0, gS, s10, s11, s1S, s20, s21, s2S, kl0, kl1, kl2, kl3, sp0, sp1, sp2, sp3, cn1, cn2, cn3, cn4, cn5, cn6, jJa, lk0, lk1, jmS, jmN, s4_0, s4_1, s4_2, s4_3, s4_4, sw0, sw1, cKs, cKn, true_and, and_true, List.map_cons, List.map_nil, Nat.reduceAdd, Nat.zero_add, Int.reduceAdd, Nat.reduceEqDiff, reduceIte, Classical.not_not, b_Md_undo, shMd]
  have hlo : MDf M (up M 117 0 0) := thr_df
  generalize up M 117 0 0 = N at hR' hH hm hp hlo ⊢
  have a28 : ¬ (1 ≤ n ∧ n ≤ (σ.np : Int)) → AW G d mi_Md_undo Q 28 [some (vr 117), some (vi n), none] [] N := by
    intro q
    refine AW.run ck_Md_undo [] 10 28 ?_
    simp only [wR, wB, wE0, wE1, wE2, wE3, g0, gS, s10, s11, s1S, s20, s21, s2S, kl0, kl1, kl2, kl3, sp0, sp1, sp2, sp3, cn1, cn2, cn3, cn4, cn5, cn6, jJa, lk0, lk1, jmS, jmN, s4_0, s4_1, s4_2, s4_3, s4_4, sw0, sw1, cKs, cKn, true_and, and_true, List.map_cons, List.map_nil, Nat.reduceAdd, Nat.zero_add, Int.reduceAdd, Nat.reduceEqDiff, reduceIte, Classical.not_not, b_Md_undo]
    subst hQ
    rw [if_neg q, if_neg q]
    exact ⟨rfl, hR', hlo.2.1⟩
  refine ⟨by omega, MS.to c_Md_within fun _ => ?_⟩
  simp only [wR, wB, wE0, wE1, wE2, wE3, g0, gS, s10, s11, s1S, s20, s21, s2S, kl0, kl1, kl2, kl3, sp0, sp1, sp2, sp3, cn1, cn2, cn3, cn4, cn5, cn6, jJa, lk0, lk1, jmS, jmN, s4_0, s4_1, s4_2, s4_3, s4_4, sw0, sw1, cKs, cKn, true_and, and_true, List.map_cons, List.map_nil, Nat.reduceAdd, Nat.zero_add, Int.reduceAdd, Nat.reduceEqDiff, reduceIte, Classical.not_not, b_Md_undo, shMd, hp.1]
  by_cases q : 1 ≤ n ∧ n ≤ (σ.np : Int)
  · obtain ⟨k, rfl⟩ := Int.eq_ofNat_of_zero_le (show 0 ≤ n by omega)
    rw [if_pos (by omega)]
    (repeat' (first | omega | exact ⟨by omega, by omega⟩ | (with_reducible exact Or.inr trivial) | (with_reducible exact Or.inl trivial) | (with_reducible assumption) | (with_reducible exact Same.refl) | (with_reducible rfl) | (with_reducible refine And.intro ?_ ?_) | (with_reducible intro _)))
    generalize hj : σ.np - k = j
    have ei : (σ.np : Int) - (k : Int) = (j : Int) := by omega
    have fin : ∀ (r i : Nat), i + r = 12 → AW G d mi_Md_undo Q 44 [some (vr 117), some (vi k), some (vi i)] [] (cpy (up N 118 31 j) 118 (32 + 12 * (j : Int)) 118 19 i) := by
      intro r
      induction r with
      | zero =>
        intro i hi
        obtain rfl : i = 12 := by omega
        have e31 : cpy (up N 118 31 j) 118 (32 + 12 * (j : Int)) 118 19 ((12 : Nat) : Int) 118 31 = j := by rw [cpy_at (by omega), up_eq]
        refine AW.run ck_Md_undo [44] 8 44 ?_
        simp only [wR, wB, wE0, wE1, wE2, wE3, g0, gS, s10, s11, s1S, s20, s21, s2S, kl0, kl1, kl2, kl3, sp0, sp1, sp2, sp3, cn1, cn2, cn3, cn4, cn5, cn6, jJa, lk0, lk1, jmS, jmN, s4_0, s4_1, s4_2, s4_3, s4_4, sw0, sw1, cKs, cKn, true_and, and_true, List.map_cons, List.map_nil, Nat.reduceAdd, Nat.zero_add, Int.reduceAdd, Nat.reduceEqDiff, reduceIte, Classical.not_not, b_Md_undo, shMd, e31]
        (repeat' (first | omega | exact ⟨by omega, by omega⟩ | (with_reducible exact Or.inr trivial) | (with_reducible exact Or.inl trivial) | (with_reducible assumption) | (with_reducible exact Same.refl) | (with_reducible rfl) | (with_reducible refine And.intro ?_ ?_) | (with_reducible intro _)))
        subst hQ
        rw [if_pos q, if_pos q, Int.toNat_natCast, ei, hj]
        have hdf : MDf N (cpy (up N 118 31 j) 118 (32 + 12 * (j : Int)) 118 19 ((12 : Nat) : Int)) := ⟨fun x a b c e f => by funext y; rw [cpy_at (by omega), up_ne1 (by omega)], fun x hx => by funext y; rw [cpy_at (by omega), up_ne1 (by omega)], ⟨by rw [cpy_at (by omega), up_ne1 (by omega)], by rw [cpy_at (by omega), up_ne1 (by omega)], by rw [cpy_at (by omega), up_ne1 (by omega)]⟩, fun y hy => by rw [cpy_at (by omega), up_ne2 (by omega)]⟩
        refine ⟨rfl, hR.upd hP ok.im5 (hlo.trans hdf) ?_ ⟨e31, fun i hi => ?_⟩, (hlo.trans hdf).2.1⟩
        · refine (hp.2 j (by omega)).eq hP (fun y y0 y1 => ?_)
          rw [cpy_in (by omega) (by omega), up_ne2 (by omega)]
        · refine (hp.2 i (by omega)).eq hP (fun y y0 y1 => ?_)
          rw [cpy_at (by omega), up_ne2 (by omega)]
      | succ r ih =>
        intro i hi
        have key := ih (i + 1) (by omega)
        have e31 : cpy (up N 118 31 j) 118 (32 + 12 * (j : Int)) 118 19 i 118 31 = j := by rw [cpy_at (by omega), up_eq]
        have e1 : cpy (up N 118 31 j) 118 (32 + 12 * (j : Int)) 118 19 i 118 (32 + 12 * (j : Int) + (i : Int)) = up N 118 31 j 118 (32 + 12 * (j : Int) + (i : Int)) := cpy_at (by omega)
        have e2 := cpy_s (M := up N 118 31 j) (a := 118) (sp := 32 + 12 * (j : Int)) (b := 118) (dp := 19) (i := i) (by omega)
        refine AW.run ck_Md_undo [44] 8 44 ?_
        simp only [wR, wB, wE0, wE1, wE2, wE3, g0, gS, s10, s11, s1S, s20, s21, s2S, kl0, kl1, kl2, kl3, sp0, sp1, sp2, sp3, cn1, cn2, cn3, cn4, cn5, cn6, jJa, lk0, lk1, jmS, jmN, s4_0, s4_1, s4_2, s4_3, s4_4, sw0, sw1, cKs, cKn, true_and, and_true, List.map_cons, List.map_nil, Nat.reduceAdd, Nat.zero_add, Int.reduceAdd, Nat.reduceEqDiff, reduceIte, Classical.not_not, b_Md_undo, shMd, e31, e1, e2, ce]
        (repeat' (first | omega | exact ⟨by omega, by omega⟩ | (with_reducible exact Or.inr trivial) | (with_reducible exact Or.inl trivial) | (with_reducible assumption) | (with_reducible exact Same.refl) | (with_reducible rfl) | (with_reducible refine And.intro ?_ ?_) | (with_reducible intro _)))
    refine AW.run ck_Md_undo [44] 10 31 ?_
    simp only [wR, wB, wE0, wE1, wE2, wE3, g0, gS, s10, s11, s1S, s20, s21, s2S, kl0, kl1, kl2, kl3, sp0, sp1, sp2, sp3, cn1, cn2, cn3, cn4, cn5, cn6, jJa, lk0, lk1, jmS, jmN, s4_0, s4_1, s4_2, s4_3, s4_4, sw0, sw1, cKs, cKn, true_and, and_true, List.map_cons, List.map_nil, Nat.reduceAdd, Nat.zero_add, Int.reduceAdd, Nat.reduceEqDiff, reduceIte, Classical.not_not, b_Md_undo, shMd, hp.1]
    rw [ei]
    have := fin 12 0 (by omega)
    rw [show ((0 : Nat) : Int) = 0 from rfl, cpy_0] at this
    (repeat' (first | omega | exact ⟨by omega, by omega⟩ | (with_reducible exact Or.inr trivial) | (with_reducible exact Or.inl trivial) | (with_reducible assumption) | (with_reducible exact Same.refl) | (with_reducible rfl) | (with_reducible refine And.intro ?_ ?_) | (with_reducible intro _)))
  · by_cases q2 : 1 ≤ n ∧ n ≤ 10
    · rw [if_pos q2]
      (repeat' (first | omega | exact ⟨by omega, by omega⟩ | (with_reducible exact Or.inr trivial) | (with_reducible exact Or.inl trivial) | (with_reducible assumption) | (with_reducible exact Same.refl) | (with_reducible rfl) | (with_reducible refine And.intro ?_ ?_) | (with_reducible intro _)))
      exact a28 q
    · rw [if_neg q2]
      (repeat' (first | omega | exact ⟨by omega, by omega⟩ | (with_reducible exact Or.inr trivial) | (with_reducible exact Or.inl trivial) | (with_reducible assumption) | (with_reducible exact Same.refl) | (with_reducible rfl) | (with_reducible refine And.intro ?_ ?_) | (with_reducible intro _)))
      exact a28 q
theorem c_Md_noTray {t : Int} {σ : Sg} (hd : 1 ≤ d) (hR : MR M σ) : MS G d mi_Md_noTray [vr 117, vi t] M (fun r M' => r = some (vi (aTr σ t)) ∧ M' = M) := by
  refine MS.run ck_Md_noTray [some (vr 117), some (vi t)] [] 10 fun _ _ => ?_
  simp only [wR, wB, wE0, wE1, wE2, wE3, g0, gS, s10, s11, s1S, s20, s21, s2S, kl0, kl1, kl2, kl3, sp0, sp1, sp2, sp3, cn1, cn2, cn3, cn4, cn5, cn6, jJa, lk0, lk1, jmS, jmN, s4_0, s4_1, s4_2, s4_3, s4_4, sw0, sw1, cKs, cKn, true_and, and_true, List.map_cons, List.map_nil, Nat.reduceAdd, Nat.zero_add, Int.reduceAdd, Nat.reduceEqDiff, reduceIte, Classical.not_not, b_Md_noTray, shMd]
  refine ⟨by omega, MS.to c_Md_within fun _ => ?_⟩
  unfold aTr
  by_cases q : 0 ≤ t ∧ t < 4
  · obtain ⟨i, rfl⟩ := Int.eq_ofNat_of_zero_le q.1
    have hi : i < 4 := by omega
    have h1 := (hR.2.2.2.2.2.1 i hi).1
    rw [if_pos (show 0 ≤ (i : Int) ∧ (i : Int) ≤ 3 by omega), if_pos q, Int.toNat_natCast]
    by_cases q2 : (σ.tr i).1 = -1
    · rw [if_pos q2]
      simp only [wR, wB, wE0, wE1, wE2, wE3, g0, gS, s10, s11, s1S, s20, s21, s2S, kl0, kl1, kl2, kl3, sp0, sp1, sp2, sp3, cn1, cn2, cn3, cn4, cn5, cn6, jJa, lk0, lk1, jmS, jmN, s4_0, s4_1, s4_2, s4_3, s4_4, sw0, sw1, cKs, cKn, true_and, and_true, List.map_cons, List.map_nil, Nat.reduceAdd, Nat.zero_add, Int.reduceAdd, Nat.reduceEqDiff, reduceIte, Classical.not_not, b_Md_noTray, shMd, h1]
      (repeat' (first | omega | (with_reducible exact True.intro) | exact ⟨by omega, by omega⟩ | (with_reducible exact Or.inr trivial) | (with_reducible exact Or.inl trivial) | (with_reducible assumption) | (with_reducible exact Same.refl) | (with_reducible rfl) | (with_reducible refine And.intro ?_ ?_) | (with_reducible intro _)))
    · rw [if_neg q2]
      simp only [wR, wB, wE0, wE1, wE2, wE3, g0, gS, s10, s11, s1S, s20, s21, s2S, kl0, kl1, kl2, kl3, sp0, sp1, sp2, sp3, cn1, cn2, cn3, cn4, cn5, cn6, jJa, lk0, lk1, jmS, jmN, s4_0, s4_1, s4_2, s4_3, s4_4, sw0, sw1, cKs, cKn, true_and, and_true, List.map_cons, List.map_nil, Nat.reduceAdd, Nat.zero_add, Int.reduceAdd, Nat.reduceEqDiff, reduceIte, Classical.not_not, b_Md_noTray, shMd, h1]
      (repeat' (first | omega | (with_reducible exact True.intro) | exact ⟨by omega, by omega⟩ | (with_reducible exact Or.inr trivial) | (with_reducible exact Or.inl trivial) | (with_reducible assumption) | (with_reducible exact Same.refl) | (with_reducible rfl) | (with_reducible refine And.intro ?_ ?_) | (with_reducible intro _)))
  · rw [if_neg (show ¬ (0 ≤ t ∧ t ≤ 3) by omega), if_neg q]
    simp only [wR, wB, wE0, wE1, wE2, wE3, g0, gS, s10, s11, s1S, s20, s21, s2S, kl0, kl1, kl2, kl3, sp0, sp1, sp2, sp3, cn1, cn2, cn3, cn4, cn5, cn6, jJa, lk0, lk1, jmS, jmN, s4_0, s4_1, s4_2, s4_3, s4_4, sw0, sw1, cKs, cKn, true_and, and_true, List.map_cons, List.map_nil, Nat.reduceAdd, Nat.zero_add, Int.reduceAdd, Nat.reduceEqDiff, reduceIte, Classical.not_not, b_Md_noTray, shMd, up_rd, Int.reduceEq, and_false, false_and, and_self, reduceIte, not_true_eq_false, not_false_eq_true, false_imp_iff, true_imp_iff, true_or, or_true]
/-- deeds told in a row -/
theorem c_Md_toldRow {i B : Nat} {σ : Sg} (hd : 20 ≤ d) (hi : i < 4) (hB : B + 40 < 1000000000) (ok : SgOK B σ) (hne : (σ.tr i).1 ≠ -1) (hH : MH (M 118) σ.h) (hm : MRow (fun y => M 118 (19 + y)) σ.h.P σ.m) (h136 : M 136 i = (σ.tr i).2.1) (h137 : ∀ k : Nat, k < (σ.tr i).2.1 → M 137 (40 * (i : Int) + k) = (σ.tr i).2.2 k) :
    MS G d mi_Md_toldRow [vr 117, vi i] M (fun r M' => r = some (vi (trT σ i).1) ∧ MRow (fun y => M' 118 (19 + y)) σ.h.P (trT σ i).2.2 ∧ M' 117 19 = (trT σ i).2.1 ∧ Same [117, 118, 122, 123] M M' ∧ (∀ y : Int, y ≠ 19 → M' 117 y = M 117 y) ∧ ∀ y : Int, (y < 19 ∨ 30 < y) → M' 118 y = M 118 y) := by
  have hok := ok.2.2.1
  have hP := hok.1
  have mok := ok.2.2.2.1
  have hn40 := (ok.2.2.2.2.2.2.1 i hi).2.2
  have hTT : trT σ i = tellD σ.h (σ.tr i).2.2 (σ.tr i).2.1 0 σ.m := rfl
  generalize hT : trT σ i = T at hTT ⊢
  generalize hv : (σ.tr i).2.2 = v at hTT h137
  generalize hn : (σ.tr i).2.1 = n at hTT h136 h137 hn40
  refine MS.by ck_Md_toldRow [some (vr 117), some (vi i), none] fun _ _ => ?_
  generalize hQ : (fun (r : Option AV) (M' : AM) => r = some (vi T.1) ∧ MRow (fun y => M' 118 (19 + y)) σ.h.P T.2.2 ∧ M' 117 19 = T.2.1 ∧ Same [117, 118, 122, 123] M M' ∧ (∀ y : Int, y ≠ 19 → M' 117 y = M 117 y) ∧ ∀ y : Int, (y < 19 ∨ 30 < y) → M' 118 y = M 118 y) = Q
  have loop : ∀ (r k : Nat) (m' : Mo) (N : AM), k + r = n → MoB (B + k) m' → MRow (fun y => N 118 (19 + y)) σ.h.P m' → N 117 19 = 0 → Same [117, 118, 122, 123] M N → (∀ y : Int, y ≠ 19 → N 117 y = M 117 y) → (∀ y : Int, (y < 19 ∨ 30 < y) → N 118 y = M 118 y) → tellD σ.h v r k m' = T → AW G d mi_Md_toldRow Q 7 [some (vr 117), some (vi i), some (vi k)] [] N := by
    intro r
    induction r with
    | zero =>
      intro k m' N hk hb hmr hw hs hf1 hf2 he
      refine AW.run ck_Md_toldRow [7] 10 7 ?_
      simp only [wR, wB, wE0, wE1, wE2, wE3, g0, gS, s10, s11, s1S, s20, s21, s2S, kl0, kl1, kl2, kl3, sp0, sp1, sp2, sp3, cn1, cn2, cn3, cn4, cn5, cn6, jJa, lk0, lk1, jmS, jmN, s4_0, s4_1, s4_2, s4_3, s4_4, sw0, sw1, cKs, cKn, true_and, and_true, List.map_cons, List.map_nil, Nat.reduceAdd, Nat.zero_add, Int.reduceAdd, Nat.reduceEqDiff, reduceIte, Classical.not_not, b_Md_toldRow, shMd, hs.at 136 _ (by (first | decide | (simp only [List.mem_cons, List.not_mem_nil, or_false, not_or, not_false_eq_true, and_true]; omega) | (simp [List.mem_cons]; done))), h136]
      subst hQ
      rw [← he]
      simp only [tellD]
      (repeat' (first | omega | exact ⟨by omega, by omega⟩ | (with_reducible exact Or.inr trivial) | (with_reducible exact Or.inl trivial) | (with_reducible assumption) | (with_reducible exact Same.refl) | (with_reducible rfl) | (with_reducible refine And.intro ?_ ?_) | (with_reducible intro _)))
      rw [show n = k by omega]
    | succ r ih =>
      intro k m' N hk hb hmr hw hs hf1 hf2 he
      have hHN : MH (N 118) σ.h := hH.eq hP (fun y hy => hf2 y (by omega))
      have e137 : N 137 (40 * (i : Int) + k) = v k := by rw [hs.at 137 _ (by (first | decide | (simp only [List.mem_cons, List.not_mem_nil, or_false, not_or, not_false_eq_true, and_true]; omega) | (simp [List.mem_cons]; done)))]; exact h137 k (by omega)
      refine AW.run ck_Md_toldRow [7, 45] 10 7 ?_
      simp only [wR, wB, wE0, wE1, wE2, wE3, g0, gS, s10, s11, s1S, s20, s21, s2S, kl0, kl1, kl2, kl3, sp0, sp1, sp2, sp3, cn1, cn2, cn3, cn4, cn5, cn6, jJa, lk0, lk1, jmS, jmN, s4_0, s4_1, s4_2, s4_3, s4_4, sw0, sw1, cKs, cKn, true_and, and_true, List.map_cons, List.map_nil, Nat.reduceAdd, Nat.zero_add, Int.reduceAdd, Nat.reduceEqDiff, reduceIte, Classical.not_not, b_Md_toldRow, shMd, hs.at 136 _ (by (first | decide | (simp only [List.mem_cons, List.not_mem_nil, or_false, not_or, not_false_eq_true, and_true]; omega) | (simp [List.mem_cons]; done))), h136, e137]
      (repeat' (first | omega | exact ⟨by omega, by omega⟩ | (with_reducible exact Or.inr trivial) | (with_reducible exact Or.inl trivial) | (with_reducible assumption) | (with_reducible exact Same.refl) | (with_reducible rfl) | (with_reducible refine And.intro ?_ ?_) | (with_reducible intro _)))
      refine MS.to (c_Md_whyNot (d := d - 1) (by omega) hHN.2.1 hP (hmr.st hb.1)) fun _ => ?_
      simp only [wR, wB, wE0, wE1, wE2, wE3, g0, gS, s10, s11, s1S, s20, s21, s2S, kl0, kl1, kl2, kl3, sp0, sp1, sp2, sp3, cn1, cn2, cn3, cn4, cn5, cn6, jJa, lk0, lk1, jmS, jmN, s4_0, s4_1, s4_2, s4_3, s4_4, sw0, sw1, cKs, cKn, true_and, and_true, List.map_cons, List.map_nil, Nat.reduceAdd, Nat.zero_add, Int.reduceAdd, Nat.reduceEqDiff, reduceIte, Classical.not_not, b_Md_toldRow, shMd, up_rd, Int.reduceEq, and_false, false_and, and_self, reduceIte, not_true_eq_false, not_false_eq_true, false_imp_iff, true_imp_iff, true_or, or_true]
      simp only [tellD] at he
      have hf1' : ∀ y : Int, y ≠ 19 → up N 117 19 (whyD σ.h.P m' (v k)) 117 y = M 117 y := fun y hy => by rw [up_ne2 hy]; exact hf1 y hy
      have e118 : up N 117 19 (whyD σ.h.P m' (v k)) 118 = N 118 := by funext y; exact up_ne1 (by omega)
      by_cases q : whyD σ.h.P m' (v k) = 0
      · rw [if_pos q] at he
        have hv0 : 0 ≤ v k ∧ v k < 70 := by
          unfold whyD at q
          by_cases a : 0 ≤ v k ∧ v k ≤ 31
          · omega
          · rw [if_neg a] at q
            by_cases b : 40 ≤ v k ∧ v k ≤ 59
            · omega
            · rw [if_neg b] at q
              by_cases c : 60 ≤ v k ∧ v k ≤ 69
              · omega
              · rw [if_neg c] at q; omega
        obtain ⟨w, hw'⟩ := Int.eq_ofNat_of_zero_le hv0.1
        have ew : w3 (v k) = w := by rw [hw']; exact w3_id ⟨by omega, by omega⟩
        (repeat' (first | omega | exact ⟨by omega, by omega⟩ | (with_reducible exact Or.inr trivial) | (with_reducible exact Or.inl trivial) | (with_reducible assumption) | (with_reducible exact Same.refl) | (with_reducible rfl) | (with_reducible refine And.intro ?_ ?_) | (with_reducible intro _)))
        generalize hK : up N 117 19 (whyD σ.h.P m' (v k)) = K at hf1' e118 ⊢
        have k137 : K 137 (40 * (i : Int) + k) = v k := by rw [← hK, up_ne1 (by omega)]; exact e137
        have k19 : K 117 19 = 0 := by rw [← hK, up_eq]; exact q
        have hsK : Same [117, 118, 122, 123] M K := by rw [← hK]; exact hs.up (by simp)
        refine AW.run ck_Md_toldRow [7] 10 45 ?_
        simp only [wR, wB, wE0, wE1, wE2, wE3, g0, gS, s10, s11, s1S, s20, s21, s2S, kl0, kl1, kl2, kl3, sp0, sp1, sp2, sp3, cn1, cn2, cn3, cn4, cn5, cn6, jJa, lk0, lk1, jmS, jmN, s4_0, s4_1, s4_2, s4_3, s4_4, sw0, sw1, cKs, cKn, true_and, and_true, List.map_cons, List.map_nil, Nat.reduceAdd, Nat.zero_add, Int.reduceAdd, Nat.reduceEqDiff, reduceIte, Classical.not_not, b_Md_toldRow, shMd, k137, ew]
        (repeat' (first | omega | exact ⟨by omega, by omega⟩ | (with_reducible exact Or.inr trivial) | (with_reducible exact Or.inl trivial) | (with_reducible assumption) | (with_reducible exact Same.refl) | (with_reducible rfl) | (with_reducible refine And.intro ?_ ?_) | (with_reducible intro _)))
        have hbb := hb.2
        rw [hw']
        refine (c_Md_does (M := K) (v := w) (d := d - 1) (m := m') (by omega) hok hb.1 (by rw [e118]; exact hHN) (by rw [e118]; exact hmr) (by rw [← hw']; exact q) (by omega)).mono ?_
        rintro r' M1 okM1 ⟨rfl, t1, t2⟩
        rw [← hw'] at t1
        simp only [wR, wB, wE0, wE1, wE2, wE3, g0, gS, s10, s11, s1S, s20, s21, s2S, kl0, kl1, kl2, kl3, sp0, sp1, sp2, sp3, cn1, cn2, cn3, cn4, cn5, cn6, jJa, lk0, lk1, jmS, jmN, s4_0, s4_1, s4_2, s4_3, s4_4, sw0, sw1, cKs, cKn, true_and, and_true, List.map_cons, List.map_nil, Nat.reduceAdd, Nat.zero_add, Int.reduceAdd, Nat.reduceEqDiff, reduceIte, Classical.not_not, b_Md_toldRow, ce]
        (repeat' (first | omega | exact ⟨by omega, by omega⟩ | (with_reducible exact Or.inr trivial) | (with_reducible exact Or.inl trivial) | (with_reducible assumption) | (with_reducible exact Same.refl) | (with_reducible rfl) | (with_reducible refine And.intro ?_ ?_) | (with_reducible intro _)))
        refine ih (k + 1) _ M1 (by omega) (doD_ok hb) t1 (by rw [t2.1.at 117 _ (by (first | decide | (simp only [List.mem_cons, List.not_mem_nil, or_false, not_or, not_false_eq_true, and_true]; omega) | (simp [List.mem_cons]; done)))]; exact k19) (hsK.trans (t2.1.mono (by simp))) (fun y hy => by rw [t2.1.at 117 _ (by (first | decide | (simp only [List.mem_cons, List.not_mem_nil, or_false, not_or, not_false_eq_true, and_true]; omega) | (simp [List.mem_cons]; done)))]; exact hf1' y hy) (fun y hy => by rw [t2.2 y hy, e118]; exact hf2 y hy) he
      · rw [if_neg q] at he
        (repeat' (first | omega | exact ⟨by omega, by omega⟩ | (with_reducible exact Or.inr trivial) | (with_reducible exact Or.inl trivial) | (with_reducible assumption) | (with_reducible exact Same.refl) | (with_reducible rfl) | (with_reducible refine And.intro ?_ ?_) | (with_reducible intro _)))
        subst hQ
        rw [← he]
        refine ⟨rfl, by rw [e118]; exact hmr, by rw [up_eq], hs.up (by simp), hf1', fun y hy => by rw [e118]; exact hf2 y hy⟩
  refine AW.run ck_Md_toldRow [7] 10 0 ?_
  simp only [wR, wB, wE0, wE1, wE2, wE3, g0, gS, s10, s11, s1S, s20, s21, s2S, kl0, kl1, kl2, kl3, sp0, sp1, sp2, sp3, cn1, cn2, cn3, cn4, cn5, cn6, jJa, lk0, lk1, jmS, jmN, s4_0, s4_1, s4_2, s4_3, s4_4, sw0, sw1, cKs, cKn, true_and, and_true, List.map_cons, List.map_nil, Nat.reduceAdd, Nat.zero_add, Int.reduceAdd, Nat.reduceEqDiff, reduceIte, Classical.not_not, b_Md_toldRow, shMd]
  refine loop n 0 σ.m _ (by omega) mok ?_ (by rw [up_eq]) (Same.refl.up (by simp)) (fun y hy => up_ne2 hy) (fun y hy => up_ne1 (by omega)) hTT.symm
  have : up M 117 19 0 118 = M 118 := by funext y; exact up_ne1 (by omega)
  rw [this]
  exact hm
end MG
