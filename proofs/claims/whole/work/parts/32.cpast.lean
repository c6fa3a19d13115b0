/-! what is kept of the past -/
def pushN (np : Nat) : Nat := if np = 10 then 10 else np + 1
def pushM (np : Nat) (pm : Nat → Mo) (m : Mo) : Nat → Mo := if np = 10 then (fun i => if i = 9 then m else pm (i + 1)) else (fun i => if i = np then m else pm i)
def PastOK (M : AM) (P np : Nat) (pm : Nat → Mo) : Prop := M 0 8 = np ∧ np ≤ 10 ∧ ∃ q : Nat → Int, (∀ i : Nat, i < 10 → M 29 i = q i ∧ isO (q i) 4 ∧ 67 ≤ q i ∧ q i ≤ 85) ∧ (∀ i j : Nat, i < 10 → j < 10 → q i = q j → i = j) ∧ ∀ i : Nat, i < np → CM M (q i) P (pm i)
theorem Cpast.ok {M : AM} {σ : Sg} (h : Cpast M σ) : PastOK M σ.h.P σ.np σ.pm := h
theorem moC_CM {M : AM} {z o : Int} {P : Nat} {m : Mo} (h : CM M o P m) : CM (moC M z o) z P m := by
  obtain ⟨a, b, c, e⟩ := h
  refine ⟨?_, ?_, ?_, fun p hp => ?_⟩
  · unfold moC; rw [if_pos (by omega)]; exact a
  · unfold moC; rw [if_pos (by omega)]; exact b
  · unfold moC; rw [if_pos (by omega)]; exact c
  · unfold moC; rw [if_neg (by omega), if_pos (by omega)]; exact e p hp
theorem moC_same {M : AM} {z o : Int} : Same [z, z + 1] M (moC M z o) := by
  intro x hx
  simp only [List.mem_cons, List.not_mem_nil, or_false, not_or] at hx
  funext y
  unfold moC
  rw [if_neg (by omega), if_neg (by omega)]
/-- only the past has changed -/
def FrP (M N : AM) : Prop := (∀ x : Int, x ≠ 0 → x ≠ 29 → ¬ (67 ≤ x ∧ x ≤ 86) → N x = M x) ∧ ∀ y : Int, y ≠ 8 → N 0 y = M 0 y
theorem q_odd {z : Int} (h : isO z 4) (h1 : 67 ≤ z) (h2 : z ≤ 85) : ∃ k : Nat, z = 67 + 2 * (k : Int) ∧ k < 10 := by
  rcases isO_Mo h with rfl | rfl | rfl | rfl | rfl | rfl | rfl | rfl | rfl | rfl | rfl | rfl | rfl | rfl
  all_goals first | omega | exact ⟨0, by omega, by omega⟩ | exact ⟨1, by omega, by omega⟩ | exact ⟨2, by omega, by omega⟩ | exact ⟨3, by omega, by omega⟩ | exact ⟨4, by omega, by omega⟩ | exact ⟨5, by omega, by omega⟩ | exact ⟨6, by omega, by omega⟩ | exact ⟨7, by omega, by omega⟩ | exact ⟨8, by omega, by omega⟩ | exact ⟨9, by omega, by omega⟩
theorem l29 : alen 29 = 10 := (arT_of (k := 29) (n := 10) rfl rfl).2
theorem l30 : alen 30 = 4 := (arT_of (k := 30) (n := 4) rfl rfl).2
theorem l31 : alen 31 = 2 := (arT_of (k := 31) (n := 2) rfl rfl).2
theorem l32 : alen 32 = 2 := (arT_of (k := 32) (n := 2) rfl rfl).2
section CP
variable {G : AG} {d : Nat} {M : AM}
set_option maxRecDepth 20000 in
theorem c_H_keepPast {P np : Nat} {pm : Nat → Mo} {m : Mo} (hd : 3 ≤ d) (hp : PastOK M P np pm) (hm : CM M 27 P m) :
    MS G d mi_H_keepPast [vr 0, vr 27] M (fun r M' => r = none ∧ PastOK M' P (pushN np) (pushM np pm m) ∧ FrP M M') := by
  obtain ⟨h8, hn, q, hq, hqi, hc⟩ := hp
  refine MS.by ck_H_keepPast [some (vr 0), some (vr 27), none, none] fun _ _ => ?_
  generalize hQ : (fun (r : Option AV) (M' : AM) => r = none ∧ PastOK M' P (pushN np) (pushM np pm m) ∧ FrP M M') = Q
  have a59 : ∀ (N : AM) (k : Nat) (q' : Nat → Int) (pm' : Nat → Mo) (l2 l3 : Option AV), k < 10 → N 0 8 = k → (∀ i : Nat, i < 10 → N 29 i = q' i ∧ isO (q' i) 4 ∧ 67 ≤ q' i ∧ q' i ≤ 85) → (∀ i j : Nat, i < 10 → j < 10 → q' i = q' j → i = j) → (∀ i : Nat, i < k → CM N (q' i) P (pm' i)) → FrP M N → pushN np = k + 1 → pushM np pm m = (fun i => if i = k then m else pm' i) → AW G d mi_H_keepPast Q 59 [some (vr 0), some (vr 27), l2, l3] [] N := by
    intro N k q' pm' l2 l3 hk n8 nq nqi nc fr e1 e2
    obtain ⟨c1, c2, c3, c4⟩ := nq k hk
    have hm27 : CM N 27 P m := hm.eq (fr.1 27 (by omega) (by omega) (by omega)) (fr.1 28 (by omega) (by omega) (by omega))
    refine AW.run ck_H_keepPast [] 10 59 ?_
    simp only [wR, wB, wE0, wE1, wE2, wE3, g0, gS, s10, s11, s1S, s20, s21, s2S, kl0, kl1, kl2, kl3, sp0, sp1, sp2, sp3, cn1, cn2, cn3, cn4, cn5, cn6, jJa, lk0, lk1, jmS, jmN, s4_0, s4_1, s4_2, s4_3, s4_4, sw0, sw1, cKs, cKn, true_and, and_true, List.map_cons, List.map_nil, Nat.reduceAdd, Nat.zero_add, Int.reduceAdd, Nat.reduceEqDiff, reduceIte, Classical.not_not, b_H_keepPast, shH, shR0, n8, c1, c2, l29]
    refine ⟨by omega, by omega, MS.to (c_Mo_copy (by omega) c2 shO0.2.2.2.2.2.2.2.2.2.1) fun _ => ?_⟩
    have hsm := moC_same (M := N) (z := q' k) (o := 27)
    have e0 : ∀ y, moC N (q' k) 27 0 y = N 0 y := fun y => hsm.at 0 y (by (first | decide | (simp only [List.mem_cons, List.not_mem_nil, or_false, not_or, not_false_eq_true, and_true]; omega) | (simp [List.mem_cons]; done)))
    simp only [wR, wB, wE0, wE1, wE2, wE3, g0, gS, s10, s11, s1S, s20, s21, s2S, kl0, kl1, kl2, kl3, sp0, sp1, sp2, sp3, cn1, cn2, cn3, cn4, cn5, cn6, jJa, lk0, lk1, jmS, jmN, s4_0, s4_1, s4_2, s4_3, s4_4, sw0, sw1, cKs, cKn, true_and, and_true, List.map_cons, List.map_nil, Nat.reduceAdd, Nat.zero_add, Int.reduceAdd, Nat.reduceEqDiff, reduceIte, Classical.not_not, b_H_keepPast, shH, e0, n8]
    refine ⟨⟨by omega, by omega⟩, ?_⟩
    subst hQ
    refine ⟨rfl, ⟨?_, ?_, q', fun i hi => ⟨?_, (nq i hi).2⟩, nqi, fun i hi => ?_⟩, fun x h1 h2 h3 => ?_, fun y hy => ?_⟩
    · rw [up_eq, e1]; rfl
    · rw [e1]; omega
    · rw [up_ne1 (by omega), hsm.at 29 _ (by (first | decide | (simp only [List.mem_cons, List.not_mem_nil, or_false, not_or, not_false_eq_true, and_true]; omega) | (simp [List.mem_cons]; done)))]; exact (nq i hi).1
    · rw [e2]
      have hup : ∀ w : Int, w ≠ 0 → up (moC N (q' k) 27) 0 8 ((k : Int) + 1) w = moC N (q' k) 27 w := fun w hw => by funext y; exact up_ne1 hw
      by_cases qk : i = k
      · subst qk
        show CM _ _ P (if i = i then m else pm' i)
        rw [if_pos rfl]
        exact (moC_CM hm27).eq (hup _ (by omega)) (hup _ (by omega))
      · simp only [if_neg qk]
        have hi10 : i < 10 := by omega
        obtain ⟨d1, d2, d3, d4⟩ := nq i hi10
        have hne : q' i ≠ q' k := fun e => qk (nqi i k hi10 hk e)
        obtain ⟨a, ea, -⟩ := q_odd c2 c3 c4
        obtain ⟨b, eb, -⟩ := q_odd d2 d3 d4
        refine (nc i (by omega)).eq ?_ ?_
        · rw [hup _ (by omega), hsm _ (by (first | decide | (simp only [List.mem_cons, List.not_mem_nil, or_false, not_or, not_false_eq_true, and_true]; omega) | (simp [List.mem_cons]; done)))]
        · rw [hup _ (by omega), hsm _ (by (first | decide | (simp only [List.mem_cons, List.not_mem_nil, or_false, not_or, not_false_eq_true, and_true]; omega) | (simp [List.mem_cons]; done)))]
    · funext y
      obtain ⟨a, ea, ha⟩ := q_odd c2 c3 c4
      rw [up_ne1 h1, hsm x (by (first | decide | (simp only [List.mem_cons, List.not_mem_nil, or_false, not_or, not_false_eq_true, and_true]; omega) | (simp [List.mem_cons]; done))), fr.1 x h1 h2 h3]
    · rw [up_ne2 hy, e0, fr.2 y hy]
  have l18 : np = 10 → ∀ (k i : Nat) (N : AM), 1 ≤ i → i + k = 10 → (∀ j : Nat, j < 10 → N 29 j = if j + 1 < i then q (j + 1) else q j) → (∀ x : Int, x ≠ 29 → N x = M x) → AW G d mi_H_keepPast Q 18 [some (vr 0), some (vr 27), some (vr (q 0)), some (vi i)] [] N := by
    intro h10 k
    induction k with
    | zero =>
      intro i N hi1 hi hN hfr
      obtain rfl : i = 10 := by omega
      refine AW.run ck_H_keepPast [59] 10 18 ?_
      simp only [wR, wB, wE0, wE1, wE2, wE3, g0, gS, s10, s11, s1S, s20, s21, s2S, kl0, kl1, kl2, kl3, sp0, sp1, sp2, sp3, cn1, cn2, cn3, cn4, cn5, cn6, jJa, lk0, lk1, jmS, jmN, s4_0, s4_1, s4_2, s4_3, s4_4, sw0, sw1, cKs, cKn, true_and, and_true, List.map_cons, List.map_nil, Nat.reduceAdd, Nat.zero_add, Int.reduceAdd, Nat.reduceEqDiff, reduceIte, Classical.not_not, b_H_keepPast, shH, shR0, (hq 0 (by omega)).2.1, l29]
      (repeat' (first | omega | exact ⟨by omega, by omega⟩ | (with_reducible exact Or.inr trivial) | (with_reducible exact Or.inl trivial) | (with_reducible assumption) | (with_reducible exact Same.refl) | (with_reducible rfl) | (with_reducible refine And.intro ?_ ?_) | (with_reducible intro _)))
      have e0 : ∀ y, N 0 y = M 0 y := fun y => by rw [hfr 0 (by omega)]
      refine a59 _ 9 (fun j => if j = 9 then q 0 else q (j + 1)) (fun j => pm (j + 1)) _ _ (by omega) (by rw [up_eq]; rfl) ?_ ?_ ?_ ?_ ?_ ?_
      · intro j hj
        by_cases q9 : j = 9
        · subst q9
          rw [up_ne1 (by omega), show ((9 : Nat) : Int) = 9 from rfl, up_eq, if_pos rfl]
          exact ⟨rfl, (hq 0 (by omega)).2⟩
        · rw [up_ne1 (by omega), up_ne2 (by omega), hN j hj, if_pos (by omega), if_neg q9]
          exact ⟨rfl, (hq (j + 1) (by omega)).2⟩
      · intro a b ha hb e
        by_cases qa : a = 9 <;> by_cases qb : b = 9
        · omega
        · simp only [if_pos qa, if_neg qb] at e
          have := hqi _ _ (by omega) (by omega) e
          omega
        · simp only [if_neg qa, if_pos qb] at e
          have := hqi _ _ (by omega) (by omega) e
          omega
        · simp only [if_neg qa, if_neg qb] at e
          have := hqi _ _ (by omega) (by omega) e
          omega
      · intro j hj
        have hj9 : j ≠ 9 := by omega
        simp only [if_neg hj9]
        have hqq := hq (j + 1) (by omega)
        refine (hc (j + 1) (by omega)).eq ?_ ?_
        · funext y; rw [up_ne1 (by omega), up_ne1 (by omega), hfr _ (by omega)]
        · funext y; rw [up_ne1 (by omega), up_ne1 (by omega), hfr _ (by omega)]
      · refine ⟨fun x h1 h2 h3 => ?_, fun y hy => ?_⟩
        · funext y; rw [up_ne1 h1, up_ne1 h2, hfr x h2]
        · rw [up_ne2 hy, up_ne1 (by omega), e0]
      · unfold pushN; rw [if_pos h10]
      · unfold pushM; rw [if_pos h10]
    | succ k ih =>
      intro i N hi1 hi hN hfr
      have ei := hN i (by omega)
      rw [if_neg (by omega)] at ei
      refine AW.run ck_H_keepPast [18] 10 18 ?_
      simp only [wR, wB, wE0, wE1, wE2, wE3, g0, gS, s10, s11, s1S, s20, s21, s2S, kl0, kl1, kl2, kl3, sp0, sp1, sp2, sp3, cn1, cn2, cn3, cn4, cn5, cn6, jJa, lk0, lk1, jmS, jmN, s4_0, s4_1, s4_2, s4_3, s4_4, sw0, sw1, cKs, cKn, true_and, and_true, List.map_cons, List.map_nil, Nat.reduceAdd, Nat.zero_add, Int.reduceAdd, Nat.reduceEqDiff, reduceIte, Classical.not_not, b_H_keepPast, shH, shR0, ei, (hq i (by omega)).2.1, l29]
      (repeat' (first | omega | exact ⟨by omega, by omega⟩ | (with_reducible exact Or.inr trivial) | (with_reducible exact Or.inl trivial) | (with_reducible assumption) | (with_reducible exact Same.refl) | (with_reducible rfl) | (with_reducible refine And.intro ?_ ?_) | (with_reducible intro _)))
      refine ih (i + 1) _ (by omega) (by omega) (fun j hj => ?_) (fun x hx => ?_)
      · by_cases qj : j = i - 1
        · subst qj
          rw [show ((i - 1 : Nat) : Int) = (i : Int) - 1 by omega, up_eq, if_pos (by omega), show i - 1 + 1 = i by omega]
        · rw [up_ne2 (by omega), hN j hj]
          by_cases ql : j + 1 < i
          · rw [if_pos ql, if_pos (by omega)]
          · rw [if_neg ql, if_neg (by omega)]
      · funext y; rw [up_ne1 hx, hfr x hx]
  refine AW.run ck_H_keepPast [18, 59] 10 0 ?_
  have q0 : M 29 0 = q 0 := (hq 0 (by omega)).1
  have q67 := (hq 0 (by omega)).2.2.1
  simp only [wR, wB, wE0, wE1, wE2, wE3, g0, gS, s10, s11, s1S, s20, s21, s2S, kl0, kl1, kl2, kl3, sp0, sp1, sp2, sp3, cn1, cn2, cn3, cn4, cn5, cn6, jJa, lk0, lk1, jmS, jmN, s4_0, s4_1, s4_2, s4_3, s4_4, sw0, sw1, cKs, cKn, true_and, and_true, List.map_cons, List.map_nil, Nat.reduceAdd, Nat.zero_add, Int.reduceAdd, Nat.reduceEqDiff, reduceIte, Classical.not_not, b_H_keepPast, shH, shR0, h8, q0, l29]
  (repeat' (first | omega | exact ⟨by omega, by omega⟩ | (with_reducible exact Or.inr trivial) | (with_reducible exact Or.inl trivial) | (with_reducible assumption) | (with_reducible exact Same.refl) | (with_reducible rfl) | (with_reducible refine And.intro ?_ ?_) | (with_reducible intro _)))
  · exact a59 M np q pm _ _ (by omega) h8 hq hqi hc ⟨fun _ _ _ _ => rfl, fun _ _ => rfl⟩ (by unfold pushN; rw [if_neg (by omega)]) (by unfold pushM; rw [if_neg (by omega)])
  · refine l18 (by omega) 9 1 M (by omega) (by omega) (fun j hj => ?_) (fun _ _ => rfl)
    rw [if_neg (by omega)]
    exact (hq j hj).1
/-- of a tray that can't be used -/
def aTr (σ : Sg) (t : Int) : Int := if 0 ≤ t ∧ t < 4 then (if (σ.tr t.toNat).1 = -1 then -6 else 0) else -2
theorem aTr_0 {σ : Sg} {t : Int} (h : aTr σ t = 0) : ∃ i : Nat, t = i ∧ i < 4 ∧ (σ.tr i).1 ≠ -1 := by
  unfold aTr at h
  by_cases q : 0 ≤ t ∧ t < 4
  · rw [if_pos q] at h
    refine ⟨t.toNat, by omega, by omega, fun e => ?_⟩
    rw [if_pos e] at h
    omega
  · rw [if_neg q] at h; omega
theorem tr_O (i : Nat) (h : i < 4) : isO (87 + 2 * (i : Int)) 11 := by
  match i, h with
  | 0, _ => exact isO_of (k := 87) rfl rfl
  | 1, _ => exact isO_of (k := 89) rfl rfl
  | 2, _ => exact isO_of (k := 91) rfl rfl
  | 3, _ => exact isO_of (k := 93) rfl rfl
theorem c_H_refusedTray {t : Int} {σ : Sg} (hd : 1 ≤ d) (hT : ∀ i : Nat, i < 4 → Ctr M i (σ.tr i)) : MS G d mi_H_refusedTray [vr 0, vi t] M (fun r M' => r = some (vi (aTr σ t)) ∧ M' = M) := by
  refine MS.run ck_H_refusedTray [some (vr 0), some (vi t)] [] 10 fun _ _ => ?_
  simp only [wR, wB, wE0, wE1, wE2, wE3, g0, gS, s10, s11, s1S, s20, s21, s2S, kl0, kl1, kl2, kl3, sp0, sp1, sp2, sp3, cn1, cn2, cn3, cn4, cn5, cn6, jJa, lk0, lk1, jmS, jmN, s4_0, s4_1, s4_2, s4_3, s4_4, sw0, sw1, cKs, cKn, true_and, and_true, List.map_cons, List.map_nil, Nat.reduceAdd, Nat.zero_add, Int.reduceAdd, Nat.reduceEqDiff, reduceIte, Classical.not_not, b_H_refusedTray, shH]
  refine ⟨by omega, MS.to c_H_isTray fun _ => ?_⟩
  unfold aTr
  by_cases q : 0 ≤ t ∧ t < 4
  · obtain ⟨i, rfl⟩ := Int.eq_ofNat_of_zero_le q.1
    have hi : i < 4 := by omega
    obtain ⟨t1, t2, t3, t4⟩ := hT i hi
    have ho := tr_O i hi
    rw [if_pos q, if_pos q]
    rw [Int.toNat_natCast]
    by_cases q2 : (σ.tr i).1 = -1
    · rw [if_pos q2] at t2 ⊢
      simp only [wR, wB, wE0, wE1, wE2, wE3, g0, gS, s10, s11, s1S, s20, s21, s2S, kl0, kl1, kl2, kl3, sp0, sp1, sp2, sp3, cn1, cn2, cn3, cn4, cn5, cn6, jJa, lk0, lk1, jmS, jmN, s4_0, s4_1, s4_2, s4_3, s4_4, sw0, sw1, cKs, cKn, true_and, and_true, List.map_cons, List.map_nil, Nat.reduceAdd, Nat.zero_add, Int.reduceAdd, Nat.reduceEqDiff, reduceIte, Classical.not_not, b_H_refusedTray, shH, shR0, l30, t1, ho, t2]
      (repeat' (first | omega | (with_reducible exact True.intro) | exact ⟨by omega, by omega⟩ | (with_reducible exact Or.inr trivial) | (with_reducible exact Or.inl trivial) | (with_reducible assumption) | (with_reducible exact Same.refl) | (with_reducible rfl) | (with_reducible refine And.intro ?_ ?_) | (with_reducible intro _)))
    · rw [if_neg q2] at t2 ⊢
      simp only [wR, wB, wE0, wE1, wE2, wE3, g0, gS, s10, s11, s1S, s20, s21, s2S, kl0, kl1, kl2, kl3, sp0, sp1, sp2, sp3, cn1, cn2, cn3, cn4, cn5, cn6, jJa, lk0, lk1, jmS, jmN, s4_0, s4_1, s4_2, s4_3, s4_4, sw0, sw1, cKs, cKn, true_and, and_true, List.map_cons, List.map_nil, Nat.reduceAdd, Nat.zero_add, Int.reduceAdd, Nat.reduceEqDiff, reduceIte, Classical.not_not, b_H_refusedTray, shH, shR0, l30, t1, ho, t2]
      (repeat' (first | omega | (with_reducible exact True.intro) | exact ⟨by omega, by omega⟩ | (with_reducible exact Or.inr trivial) | (with_reducible exact Or.inl trivial) | (with_reducible assumption) | (with_reducible exact Same.refl) | (with_reducible rfl) | (with_reducible refine And.intro ?_ ?_) | (with_reducible intro _)))
  · rw [if_neg q, if_neg q]
    simp only [wR, wB, wE0, wE1, wE2, wE3, g0, gS, s10, s11, s1S, s20, s21, s2S, kl0, kl1, kl2, kl3, sp0, sp1, sp2, sp3, cn1, cn2, cn3, cn4, cn5, cn6, jJa, lk0, lk1, jmS, jmN, s4_0, s4_1, s4_2, s4_3, s4_4, sw0, sw1, cKs, cKn, true_and, and_true, List.map_cons, List.map_nil, Nat.reduceAdd, Nat.zero_add, Int.reduceAdd, Nat.reduceEqDiff, reduceIte, Classical.not_not, b_H_refusedTray, shH, up_rd, Int.reduceEq, and_false, false_and, and_self, reduceIte, not_true_eq_false, not_false_eq_true, false_imp_iff, true_imp_iff, true_or, or_true]
end CP
