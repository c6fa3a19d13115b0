/-! seen, seenBy, surely of the model -/
theorem okP_ev {P s set : Nat} : okP P (2 ^ P - 1) s set = decide (set &&& (31 ^^^ ablS P s) = 0) := by
  have := okP_all (h := (P, 0, 0, fun _ => 0, fun _ => 0, (0, fun _ => 0), 0, fun _ => 0)) (sd := fun _ => 0) (cold := 0)
  have e := congrFun (congrFun this s) set
  unfold okA at e
  simp only [Bool.not_false, Bool.true_or, Bool.and_true] at e
  exact e
theorem okSn_P {h : Hl} {told : Nat → Int} {i s set : Nat} : okSn h told i s set = (okP h.P (2 ^ h.P - 1) s set && decide (told i = -1 ∨ told i = (pop set : Int))) := by
  unfold okSn
  rw [okP_ev]
def onM (M : AM) (okI : Nat → Nat → Nat → Bool) (nx : Nat → Nat → Nat) (l : List Nat) (n k : Nat) : Prop := ∀ i, k ≤ i → i ≤ n → ∀ s, s ∈ l → M 133 (3125 * (i : Int) + (s : Int)) = Wy okI nx (n - i) i s
section MS2
variable {G : AG} {d : Nat} {M : AM}
theorem c_Md_noSeen {t : Int} {B : Nat} {σ : Sg} (hd : 8 ≤ d) (ok : SgOK B σ) (hR : MR M σ) : MS G d mi_Md_noSeen [vr 117, vi t] M (fun r M' => r = some (vi (aRN σ t 8 (-1) 5)) ∧ M' = M) := by
  refine MS.by ck_Md_noSeen [some (vr 117), some (vi t), none, none] fun _ _ => ?_
  generalize hQ : (fun (r : Option AV) (M' : AM) => r = some (vi (aRN σ t 8 (-1) 5)) ∧ M' = M) = Q
  refine AW.run ck_Md_noSeen [12] 10 0 ?_
  simp only [wR, wB, wE0, wE1, wE2, wE3, g0, gS, s10, s11, s1S, s20, s21, s2S, kl0, kl1, kl2, kl3, sp0, sp1, sp2, sp3, cn1, cn2, cn3, cn4, cn5, cn6, jJa, lk0, lk1, jmS, jmN, s4_0, s4_1, s4_2, s4_3, s4_4, sw0, sw1, cKs, cKn, true_and, and_true, List.map_cons, List.map_nil, Nat.reduceAdd, Nat.zero_add, Int.reduceAdd, Nat.reduceEqDiff, reduceIte, Classical.not_not, b_Md_noSeen, shMd]
  refine ⟨by omega, MS.to (c_Md_noTray (d := d - 1) (by omega) hR) fun _ => ?_⟩
  simp only [wR, wB, wE0, wE1, wE2, wE3, g0, gS, s10, s11, s1S, s20, s21, s2S, kl0, kl1, kl2, kl3, sp0, sp1, sp2, sp3, cn1, cn2, cn3, cn4, cn5, cn6, jJa, lk0, lk1, jmS, jmN, s4_0, s4_1, s4_2, s4_3, s4_4, sw0, sw1, cKs, cKn, true_and, and_true, List.map_cons, List.map_nil, Nat.reduceAdd, Nat.zero_add, Int.reduceAdd, Nat.reduceEqDiff, reduceIte, Classical.not_not, b_Md_noSeen, shMd]
  unfold aRN at hQ
  by_cases q : aTr σ t = 0
  · obtain ⟨i, rfl, hi, hne⟩ := aTr_0 q
    obtain ⟨t1, t2⟩ := (hR.2.2.2.2.2.1 i hi).2 hne
    have ht40 := (ok.2.2.2.2.2.2.1 i hi).2.2
    rw [if_pos q, Int.toNat_natCast] at hQ
    (repeat' (first | omega | exact ⟨by omega, by omega⟩ | (with_reducible exact Or.inr trivial) | (with_reducible exact Or.inl trivial) | (with_reducible assumption) | (with_reducible exact Same.refl) | (with_reducible rfl) | (with_reducible refine And.intro ?_ ?_) | (with_reducible intro _)))
    refine AW.run ck_Md_noSeen [32] 10 12 ?_
    simp only [wR, wB, wE0, wE1, wE2, wE3, g0, gS, s10, s11, s1S, s20, s21, s2S, kl0, kl1, kl2, kl3, sp0, sp1, sp2, sp3, cn1, cn2, cn3, cn4, cn5, cn6, jJa, lk0, lk1, jmS, jmN, s4_0, s4_1, s4_2, s4_3, s4_4, sw0, sw1, cKs, cKn, true_and, and_true, List.map_cons, List.map_nil, Nat.reduceAdd, Nat.zero_add, Int.reduceAdd, Nat.reduceEqDiff, reduceIte, Classical.not_not, b_Md_noSeen, shMd, t1]
    (repeat' (first | omega | exact ⟨by omega, by omega⟩ | (with_reducible exact Or.inr trivial) | (with_reducible exact Or.inl trivial) | (with_reducible assumption) | (with_reducible exact Same.refl) | (with_reducible rfl) | (with_reducible refine And.intro ?_ ?_) | (with_reducible intro _)))
    refine MS.to c_Md_within fun _ => ?_
    by_cases qn : ((σ.tr i).2.1 : Int) < 1 ∨ 8 < ((σ.tr i).2.1 : Int)
    · rw [if_neg (by omega)]
      rw [if_pos qn] at hQ
      simp only [wR, wB, wE0, wE1, wE2, wE3, g0, gS, s10, s11, s1S, s20, s21, s2S, kl0, kl1, kl2, kl3, sp0, sp1, sp2, sp3, cn1, cn2, cn3, cn4, cn5, cn6, jJa, lk0, lk1, jmS, jmN, s4_0, s4_1, s4_2, s4_3, s4_4, sw0, sw1, cKs, cKn, true_and, and_true, List.map_cons, List.map_nil, Nat.reduceAdd, Nat.zero_add, Int.reduceAdd, Nat.reduceEqDiff, reduceIte, Classical.not_not, b_Md_noSeen, shMd, up_rd, Int.reduceEq, and_false, false_and, and_self, reduceIte, not_true_eq_false, not_false_eq_true, false_imp_iff, true_imp_iff, true_or, or_true]
      subst hQ
      exact ⟨rfl, rfl⟩
    · rw [if_pos (by omega)]
      rw [if_neg qn] at hQ
      simp only [wR, wB, wE0, wE1, wE2, wE3, g0, gS, s10, s11, s1S, s20, s21, s2S, kl0, kl1, kl2, kl3, sp0, sp1, sp2, sp3, cn1, cn2, cn3, cn4, cn5, cn6, jJa, lk0, lk1, jmS, jmN, s4_0, s4_1, s4_2, s4_3, s4_4, sw0, sw1, cKs, cKn, true_and, and_true, List.map_cons, List.map_nil, Nat.reduceAdd, Nat.zero_add, Int.reduceAdd, Nat.reduceEqDiff, reduceIte, Classical.not_not, b_Md_noSeen, shMd, up_rd, Int.reduceEq, and_false, false_and, and_self, reduceIte, not_true_eq_false, not_false_eq_true, false_imp_iff, true_imp_iff, true_or, or_true]
      have loop : ∀ (r k : Nat), k + r = (σ.tr i).2.1 → (∀ j, j < k → -1 ≤ (σ.tr i).2.2 j ∧ (σ.tr i).2.2 j ≤ 5) → AW G d mi_Md_noSeen Q 34 [some (vr 117), some (vi i), some (vi (aTr σ i)), some (vi k)] [] M := by
        intro r
        induction r with
        | zero =>
          intro k hk hall
          refine AW.run ck_Md_noSeen [70] 10 34 ?_
          simp only [wR, wB, wE0, wE1, wE2, wE3, g0, gS, s10, s11, s1S, s20, s21, s2S, kl0, kl1, kl2, kl3, sp0, sp1, sp2, sp3, cn1, cn2, cn3, cn4, cn5, cn6, jJa, lk0, lk1, jmS, jmN, s4_0, s4_1, s4_2, s4_3, s4_4, sw0, sw1, cKs, cKn, true_and, and_true, List.map_cons, List.map_nil, Nat.reduceAdd, Nat.zero_add, Int.reduceAdd, Nat.reduceEqDiff, reduceIte, Classical.not_not, b_Md_noSeen, shMd, t1]
          rw [if_pos (fun j hj => hall j (by omega))] at hQ
          subst hQ
          (repeat' (first | omega | exact ⟨by omega, by omega⟩ | (with_reducible exact Or.inr trivial) | (with_reducible exact Or.inl trivial) | (with_reducible assumption) | (with_reducible exact Same.refl) | (with_reducible rfl) | (with_reducible refine And.intro ?_ ?_) | (with_reducible intro _)))
        | succ r ih =>
          intro k hk hall
          refine AW.run ck_Md_noSeen [70] 10 34 ?_
          simp only [wR, wB, wE0, wE1, wE2, wE3, g0, gS, s10, s11, s1S, s20, s21, s2S, kl0, kl1, kl2, kl3, sp0, sp1, sp2, sp3, cn1, cn2, cn3, cn4, cn5, cn6, jJa, lk0, lk1, jmS, jmN, s4_0, s4_1, s4_2, s4_3, s4_4, sw0, sw1, cKs, cKn, true_and, and_true, List.map_cons, List.map_nil, Nat.reduceAdd, Nat.zero_add, Int.reduceAdd, Nat.reduceEqDiff, reduceIte, Classical.not_not, b_Md_noSeen, shMd, t1, t2 k (by omega)]
          (repeat' (first | omega | exact ⟨by omega, by omega⟩ | (with_reducible exact Or.inr trivial) | (with_reducible exact Or.inl trivial) | (with_reducible assumption) | (with_reducible exact Same.refl) | (with_reducible rfl) | (with_reducible refine And.intro ?_ ?_) | (with_reducible intro _)))
          refine MS.to c_Md_within fun _ => ?_
          by_cases qk : -1 ≤ (σ.tr i).2.2 k ∧ (σ.tr i).2.2 k ≤ 5
          · rw [if_pos qk]
            simp only [wR, wB, wE0, wE1, wE2, wE3, g0, gS, s10, s11, s1S, s20, s21, s2S, kl0, kl1, kl2, kl3, sp0, sp1, sp2, sp3, cn1, cn2, cn3, cn4, cn5, cn6, jJa, lk0, lk1, jmS, jmN, s4_0, s4_1, s4_2, s4_3, s4_4, sw0, sw1, cKs, cKn, true_and, and_true, List.map_cons, List.map_nil, Nat.reduceAdd, Nat.zero_add, Int.reduceAdd, Nat.reduceEqDiff, reduceIte, Classical.not_not, b_Md_noSeen, shMd, up_rd, Int.reduceEq, and_false, false_and, and_self, reduceIte, not_true_eq_false, not_false_eq_true, false_imp_iff, true_imp_iff, true_or, or_true]
            refine AW.run ck_Md_noSeen [34] 10 70 ?_
            simp only [wR, wB, wE0, wE1, wE2, wE3, g0, gS, s10, s11, s1S, s20, s21, s2S, kl0, kl1, kl2, kl3, sp0, sp1, sp2, sp3, cn1, cn2, cn3, cn4, cn5, cn6, jJa, lk0, lk1, jmS, jmN, s4_0, s4_1, s4_2, s4_3, s4_4, sw0, sw1, cKs, cKn, true_and, and_true, List.map_cons, List.map_nil, Nat.reduceAdd, Nat.zero_add, Int.reduceAdd, Nat.reduceEqDiff, reduceIte, Classical.not_not, b_Md_noSeen, ce]
            (repeat' (first | omega | exact ⟨by omega, by omega⟩ | (with_reducible exact Or.inr trivial) | (with_reducible exact Or.inl trivial) | (with_reducible assumption) | (with_reducible exact Same.refl) | (with_reducible rfl) | (with_reducible refine And.intro ?_ ?_) | (with_reducible intro _)))
            exact ih (k + 1) (by omega) (fun j hj => by
              by_cases e : j = k
              · rw [e]; exact qk
              · exact hall j (by omega))
          · rw [if_neg qk]
            simp only [wR, wB, wE0, wE1, wE2, wE3, g0, gS, s10, s11, s1S, s20, s21, s2S, kl0, kl1, kl2, kl3, sp0, sp1, sp2, sp3, cn1, cn2, cn3, cn4, cn5, cn6, jJa, lk0, lk1, jmS, jmN, s4_0, s4_1, s4_2, s4_3, s4_4, sw0, sw1, cKs, cKn, true_and, and_true, List.map_cons, List.map_nil, Nat.reduceAdd, Nat.zero_add, Int.reduceAdd, Nat.reduceEqDiff, reduceIte, Classical.not_not, b_Md_noSeen, shMd, up_rd, Int.reduceEq, and_false, false_and, and_self, reduceIte, not_true_eq_false, not_false_eq_true, false_imp_iff, true_imp_iff, true_or, or_true]
            rw [if_neg (fun h => qk (h k (by omega)))] at hQ
            subst hQ
            exact ⟨rfl, rfl⟩
      refine AW.run ck_Md_noSeen [34] 10 32 ?_
      simp only [wR, wB, wE0, wE1, wE2, wE3, g0, gS, s10, s11, s1S, s20, s21, s2S, kl0, kl1, kl2, kl3, sp0, sp1, sp2, sp3, cn1, cn2, cn3, cn4, cn5, cn6, jJa, lk0, lk1, jmS, jmN, s4_0, s4_1, s4_2, s4_3, s4_4, sw0, sw1, cKs, cKn, true_and, and_true, List.map_cons, List.map_nil, Nat.reduceAdd, Nat.zero_add, Int.reduceAdd, Nat.reduceEqDiff, reduceIte, Classical.not_not, b_Md_noSeen]
      exact loop (σ.tr i).2.1 0 (by omega) (fun j hj => absurd hj (by omega))
  · rw [if_neg q] at hQ
    (repeat' (first | omega | exact ⟨by omega, by omega⟩ | (with_reducible exact Or.inr trivial) | (with_reducible exact Or.inl trivial) | (with_reducible assumption) | (with_reducible exact Same.refl) | (with_reducible rfl) | (with_reducible refine And.intro ?_ ?_) | (with_reducible intro _)))
    subst hQ
    exact ⟨rfl, rfl⟩
theorem c_Md_canBe {h : Hl} {sd : Nat → Nat} {cold s0 j i s set but : Nat} {l : List Nat} {told : Nat → Int} (hd : 2 ≤ d) (hL : LSt M h sd cold (2 ^ h.P - 1) s0 l) (hs : s ∈ l) (hset : set < 32) (hb : but < 32) (hj : j < 4) (hi : i < 40) (ht : M 137 (40 * (j : Int) + (i : Int)) = told i) :
    MS G d mi_Md_canBe [vr 117, vi j, vi i, vi s, vi set, vi but] M (fun r M' => r = some (vi (if okB (okSn h told) but i s set = true then 1 else 0)) ∧ M' = M) := by
  have hs3 := hL.1.2.2.2.2 s hs
  have e1 := (hL.2.2.2 s hs set hset).1
  refine MS.by ck_Md_canBe [some (vr 117), some (vi j), some (vi i), some (vi s), some (vi set), some (vi but)] fun _ _ => ?_
  generalize hQ : (fun (r : Option AV) (M' : AM) => r = some (vi (if okB (okSn h told) but i s set = true then 1 else 0)) ∧ M' = M) = Q
  have a70 : okB (okSn h told) but i s set = false → AW G d mi_Md_canBe Q 70 [some (vr 117), some (vi j), some (vi i), some (vi s), some (vi set), some (vi but)] [] M := by
    intro e
    refine AW.run ck_Md_canBe [] 10 70 ?_
    simp only [wR, wB, wE0, wE1, wE2, wE3, g0, gS, s10, s11, s1S, s20, s21, s2S, kl0, kl1, kl2, kl3, sp0, sp1, sp2, sp3, cn1, cn2, cn3, cn4, cn5, cn6, jJa, lk0, lk1, jmS, jmN, s4_0, s4_1, s4_2, s4_3, s4_4, sw0, sw1, cKs, cKn, true_and, and_true, List.map_cons, List.map_nil, Nat.reduceAdd, Nat.zero_add, Int.reduceAdd, Nat.reduceEqDiff, reduceIte, Classical.not_not, b_Md_canBe]
    subst hQ
    rw [if_neg (by rw [e]; decide)]
    (repeat' (first | omega | (with_reducible exact True.intro) | exact ⟨by omega, by omega⟩ | (with_reducible exact Or.inr trivial) | (with_reducible exact Or.inl trivial) | (with_reducible assumption) | (with_reducible exact Same.refl) | (with_reducible rfl) | (with_reducible refine And.intro ?_ ?_) | (with_reducible intro _)))
  have a66 : okB (okSn h told) but i s set = true → AW G d mi_Md_canBe Q 66 [some (vr 117), some (vi j), some (vi i), some (vi s), some (vi set), some (vi but)] [] M := by
    intro e
    refine AW.run ck_Md_canBe [] 10 66 ?_
    simp only [wR, wB, wE0, wE1, wE2, wE3, g0, gS, s10, s11, s1S, s20, s21, s2S, kl0, kl1, kl2, kl3, sp0, sp1, sp2, sp3, cn1, cn2, cn3, cn4, cn5, cn6, jJa, lk0, lk1, jmS, jmN, s4_0, s4_1, s4_2, s4_3, s4_4, sw0, sw1, cKs, cKn, true_and, and_true, List.map_cons, List.map_nil, Nat.reduceAdd, Nat.zero_add, Int.reduceAdd, Nat.reduceEqDiff, reduceIte, Classical.not_not, b_Md_canBe]
    subst hQ
    rw [if_pos e]
    (repeat' (first | omega | (with_reducible exact True.intro) | exact ⟨by omega, by omega⟩ | (with_reducible exact Or.inr trivial) | (with_reducible exact Or.inl trivial) | (with_reducible assumption) | (with_reducible exact Same.refl) | (with_reducible rfl) | (with_reducible refine And.intro ?_ ?_) | (with_reducible intro _)))
  refine AW.run ck_Md_canBe [66, 70] 10 0 ?_
  simp only [wR, wB, wE0, wE1, wE2, wE3, g0, gS, s10, s11, s1S, s20, s21, s2S, kl0, kl1, kl2, kl3, sp0, sp1, sp2, sp3, cn1, cn2, cn3, cn4, cn5, cn6, jJa, lk0, lk1, jmS, jmN, s4_0, s4_1, s4_2, s4_3, s4_4, sw0, sw1, cKs, cKn, true_and, and_true, List.map_cons, List.map_nil, Nat.reduceAdd, Nat.zero_add, Int.reduceAdd, Nat.reduceEqDiff, reduceIte, Classical.not_not, b_Md_canBe, shMd, e1]
  by_cases q : okP h.P (2 ^ h.P - 1) s set = true
  · rw [if_pos q]
    (repeat' (first | omega | (with_reducible exact True.intro) | exact ⟨by omega, by omega⟩ | (with_reducible exact Or.inr trivial) | (with_reducible exact Or.inl trivial) | (with_reducible assumption) | (with_reducible exact Same.refl) | (with_reducible rfl) | (with_reducible refine And.intro ?_ ?_) | (with_reducible intro _)))
    refine MS.to (c_Md_isIn (a := set) (k := but) (by omega) (by omega)) fun _ => ?_
    by_cases q2 : set / 2 ^ but % 2 = 1
    · rw [q2]
      have := a70 (by unfold okB; simp [q2])
      simp only [wR, wB, wE0, wE1, wE2, wE3, g0, gS, s10, s11, s1S, s20, s21, s2S, kl0, kl1, kl2, kl3, sp0, sp1, sp2, sp3, cn1, cn2, cn3, cn4, cn5, cn6, jJa, lk0, lk1, jmS, jmN, s4_0, s4_1, s4_2, s4_3, s4_4, sw0, sw1, cKs, cKn, true_and, and_true, List.map_cons, List.map_nil, Nat.reduceAdd, Nat.zero_add, Int.reduceAdd, Nat.reduceEqDiff, reduceIte, Classical.not_not, b_Md_canBe, shMd, nc1, Int.reduceEq, not_true_eq_false, not_false_eq_true, false_imp_iff, true_imp_iff, and_self]
      exact this
    · have q2' : set / 2 ^ but % 2 = 0 := by have := Nat.mod_two_eq_zero_or_one (set / 2 ^ but); omega
      rw [q2']
      simp only [wR, wB, wE0, wE1, wE2, wE3, g0, gS, s10, s11, s1S, s20, s21, s2S, kl0, kl1, kl2, kl3, sp0, sp1, sp2, sp3, cn1, cn2, cn3, cn4, cn5, cn6, jJa, lk0, lk1, jmS, jmN, s4_0, s4_1, s4_2, s4_3, s4_4, sw0, sw1, cKs, cKn, true_and, and_true, List.map_cons, List.map_nil, Nat.reduceAdd, Nat.zero_add, Int.reduceAdd, Nat.reduceEqDiff, reduceIte, Classical.not_not, b_Md_canBe, shMd, nc0, ht, cmp3_eq, Int.reduceEq, not_true_eq_false, not_false_eq_true, false_imp_iff, true_imp_iff, and_self]
      by_cases q3 : told i = -1
      · have := a66 (okB_iff.mpr ⟨by rw [okSn_P, q]; simp [q3], q2⟩)
        (repeat' (first | omega | (with_reducible exact True.intro) | exact ⟨by omega, by omega⟩ | (with_reducible exact Or.inr trivial) | (with_reducible exact Or.inl trivial) | (with_reducible assumption) | (with_reducible exact Same.refl) | (with_reducible rfl) | (with_reducible refine And.intro ?_ ?_) | (with_reducible intro _)))
      · (repeat' (first | omega | (with_reducible exact True.intro) | exact ⟨by omega, by omega⟩ | (with_reducible exact Or.inr trivial) | (with_reducible exact Or.inl trivial) | (with_reducible assumption) | (with_reducible exact Same.refl) | (with_reducible rfl) | (with_reducible refine And.intro ?_ ?_) | (with_reducible intro _)))
        refine MS.to (c_Md_bitsOf hset) fun _ => ?_
        simp only [wR, wB, wE0, wE1, wE2, wE3, g0, gS, s10, s11, s1S, s20, s21, s2S, kl0, kl1, kl2, kl3, sp0, sp1, sp2, sp3, cn1, cn2, cn3, cn4, cn5, cn6, jJa, lk0, lk1, jmS, jmN, s4_0, s4_1, s4_2, s4_3, s4_4, sw0, sw1, cKs, cKn, true_and, and_true, List.map_cons, List.map_nil, Nat.reduceAdd, Nat.zero_add, Int.reduceAdd, Nat.reduceEqDiff, reduceIte, Classical.not_not, b_Md_canBe, cmp3_eq]
        by_cases q4 : told i = (pop set : Int)
        · have := a66 (okB_iff.mpr ⟨by rw [okSn_P, q]; simp [q4], q2⟩)
          (repeat' (first | omega | (with_reducible exact True.intro) | exact ⟨by omega, by omega⟩ | (with_reducible exact Or.inr trivial) | (with_reducible exact Or.inl trivial) | (with_reducible assumption) | (with_reducible exact Same.refl) | (with_reducible rfl) | (with_reducible refine And.intro ?_ ?_) | (with_reducible intro _)))
        · have := a70 (by unfold okB; rw [okSn_P]; simp [q3, q4])
          (repeat' (first | omega | (with_reducible exact True.intro) | exact ⟨by omega, by omega⟩ | (with_reducible exact Or.inr trivial) | (with_reducible exact Or.inl trivial) | (with_reducible assumption) | (with_reducible exact Same.refl) | (with_reducible rfl) | (with_reducible refine And.intro ?_ ?_) | (with_reducible intro _)))
  · rw [if_neg q]
    have := a70 (by unfold okB; rw [okSn_P]; simp [q])
    (repeat' (first | omega | (with_reducible exact True.intro) | exact ⟨by omega, by omega⟩ | (with_reducible exact Or.inr trivial) | (with_reducible exact Or.inl trivial) | (with_reducible assumption) | (with_reducible exact Same.refl) | (with_reducible rfl) | (with_reducible refine And.intro ?_ ?_) | (with_reducible intro _)))
set_option maxRecDepth 20000 in
theorem c_Md_laysSeen {h : Hl} {m : Mo} {j n but : Nat} {l : List Nat} {told : Nat → Int} (hd : 10 ≤ d) (hok : HlOK h) (mok : MoOK m) (hH : MH (M 118) h) (hm : MRow (fun y => M 118 (19 + y)) h.P m) (hL : LSt M h m.sd m.cold (2 ^ h.P - 1) (cod m.st h.P) l) (hb : but < 32) (hj : j < 4) (hn : n ≤ 8) (hn1 : M 136 j = n) (ht : ∀ i : Nat, i < n → M 137 (40 * (j : Int) + (i : Int)) = told i) :
    MS G d mi_Md_laysSeen [vr 117, vi j, vi but] M (fun r M' => r = some (vl (Wy (okB (okSn h told) but) (nxt h m.sd m.cold) n 0 (cod m.st h.P))) ∧ onM M' (okB (okSn h told) but) (nxt h m.sd m.cold) l n 0 ∧ Same [133] M M') := by
  have hP := hok.1
  have hnd := hL.1.2.2.2.1
  have hl3 := hL.1.2.2.2.2
  have hlen := len_lt hnd hl3
  have hsin : cod m.st h.P ∈ l := (hL.2.1.2 _).mpr Rc.refl
  have hs0 := hl3 _ hsin
  have hcl : ∀ t set, t ∈ l → set < 32 → okP h.P (2 ^ h.P - 1) t set = true → nxt h m.sd m.cold t set ∈ l := hL.cl
  refine MS.by ck_Md_laysSeen [some (vr 117), some (vi j), some (vi but), none, none, none, none, none, none] fun _ _ => ?_
  generalize hokI : okB (okSn h told) but = okI
  have hokP : ∀ i s y, okI i s y = true → okP h.P (2 ^ h.P - 1) s y = true := by
    intro i s y e
    rw [← hokI] at e
    have := (okB_iff.mp e).1
    rw [okSn_P, Bool.and_eq_true] at this
    exact this.1
  generalize hnxf : nxt h m.sd m.cold = nxf at hcl
  generalize hQ : (fun (r : Option AV) (M' : AM) => r = some (vl (Wy okI nxf n 0 (cod m.st h.P))) ∧ onM M' okI nxf l n 0 ∧ Same [133] M M') = Q
  have keep : ∀ K : AM, Same [133] M K → LSt K h m.sd m.cold (2 ^ h.P - 1) (cod m.st h.P) l ∧ K 118 = M 118 ∧ K 136 = M 136 ∧ K 137 = M 137 := fun K hK => ⟨hL.far (hK.at 117 _ (by (first | decide | (simp only [List.mem_cons, List.not_mem_nil, or_false, not_or, not_false_eq_true, and_true]; omega) | (simp [List.mem_cons]; done)))) (fun x hx => hK x (by (first | decide | (simp only [List.mem_cons, List.not_mem_nil, or_false, not_or, not_false_eq_true, and_true]; omega) | (simp [List.mem_cons]; done)))), hK 118 (by (first | decide | (simp only [List.mem_cons, List.not_mem_nil, or_false, not_or, not_false_eq_true, and_true]; omega) | (simp [List.mem_cons]; done))), hK 136 (by (first | decide | (simp only [List.mem_cons, List.not_mem_nil, or_false, not_or, not_false_eq_true, and_true]; omega) | (simp [List.mem_cons]; done))), hK 137 (by (first | decide | (simp only [List.mem_cons, List.not_mem_nil, or_false, not_or, not_false_eq_true, and_true]; omega) | (simp [List.mem_cons]; done)))⟩
  have l49 : ∀ (k : Nat) (K : AM) (l5 l6 l8 : Option AV), k ≤ n → Same [133] M K → onM K okI nxf l n k → AW G d mi_Md_laysSeen Q 49 [some (vr 117), some (vi j), some (vi but), some (vi n), some (vi ((k : Int) - 1)), l5, l6, none, l8] [] K := by
    as_aux_lemma =>
      intro k
      induction k with
      | zero =>
        intro K l5 l6 l8 hk hK hon
        obtain ⟨k1, k2, k3, k4⟩ := keep K hK
        have e133 : K 133 (cod m.st h.P : Nat) = Wy okI nxf n 0 (cod m.st h.P) := by
          have := hon 0 (by omega) (by omega) _ hsin
          rw [Nat.sub_zero] at this
          simpa using this
        have hwl := Wy_le (okI := okI) (nx := nxf) n 0 (cod m.st h.P)
        refine AW.run ck_Md_laysSeen [57] 10 49 ?_
        simp only [wR, wB, wE0, wE1, wE2, wE3, g0, gS, s10, s11, s1S, s20, s21, s2S, kl0, kl1, kl2, kl3, sp0, sp1, sp2, sp3, cn1, cn2, cn3, cn4, cn5, cn6, jJa, lk0, lk1, jmS, jmN, s4_0, s4_1, s4_2, s4_3, s4_4, sw0, sw1, cKs, cKn, true_and, and_true, List.map_cons, List.map_nil, Nat.reduceAdd, Nat.zero_add, Int.reduceAdd, Nat.reduceEqDiff, reduceIte, Classical.not_not, b_Md_laysSeen, shMd]
        (repeat' (first | omega | (with_reducible exact True.intro) | exact ⟨by omega, by omega⟩ | (with_reducible exact Or.inr trivial) | (with_reducible exact Or.inl trivial) | (with_reducible assumption) | (with_reducible exact Same.refl) | (with_reducible rfl) | (with_reducible refine And.intro ?_ ?_) | (with_reducible intro _)))
        refine MS.to (c_Md_standNow (by rw [k2]; exact hH.2.1) hP (by rw [k2]; exact hm.st mok)) fun _ => ?_
        simp only [wR, wB, wE0, wE1, wE2, wE3, g0, gS, s10, s11, s1S, s20, s21, s2S, kl0, kl1, kl2, kl3, sp0, sp1, sp2, sp3, cn1, cn2, cn3, cn4, cn5, cn6, jJa, lk0, lk1, jmS, jmN, s4_0, s4_1, s4_2, s4_3, s4_4, sw0, sw1, cKs, cKn, true_and, and_true, List.map_cons, List.map_nil, Nat.reduceAdd, Nat.zero_add, Int.reduceAdd, Nat.reduceEqDiff, reduceIte, Classical.not_not, b_Md_laysSeen, shMd, e133]
        subst hQ
        (repeat' (first | omega | (with_reducible exact True.intro) | exact ⟨by omega, by omega⟩ | (with_reducible exact Or.inr trivial) | (with_reducible exact Or.inl trivial) | (with_reducible assumption) | (with_reducible exact Same.refl) | (with_reducible rfl) | (with_reducible refine And.intro ?_ ?_) | (with_reducible intro _)))
      | succ i ih =>
        intro K0 l5 l6 l8 hk hK0 hon0
        have hi8 : i < 8 := by omega
        have l57 : ∀ (r k : Nat) (K : AM) (l6 l8 : Option AV), k + r = l.length → Same [133] M K → onM K okI nxf l n (i + 1) → (∀ j', j' < k → K 133 (3125 * (i : Int) + (l.getD j' 0 : Nat)) = Wy okI nxf (n - i) i (l.getD j' 0)) → AW G d mi_Md_laysSeen Q 57 [some (vr 117), some (vi j), some (vi but), some (vi n), some (vi i), some (vi k), l6, none, l8] [] K := by
          intro r
          induction r with
          | zero =>
            intro k K l6 l8 hkl hK hon hdone
            obtain ⟨k1, k2, k3, k4⟩ := keep K hK
            have e27 := k1.1.1
            have := ih K (some (vi k)) l6 l8 (by omega) hK (fun i' h1 h2 s hs => by
              by_cases e : i' = i
              · subst e
                obtain ⟨j', hj', ej⟩ := mem_getD hs
                have := hdone j' (by omega)
                rw [ej] at this
                exact this
              · exact hon i' (by omega) h2 s hs)
            rw [show (i : Int) - 1 = (i : Int) + -1 by omega] at this
            refine AW.run ck_Md_laysSeen [49, 72] 10 57 ?_
            simp only [wR, wB, wE0, wE1, wE2, wE3, g0, gS, s10, s11, s1S, s20, s21, s2S, kl0, kl1, kl2, kl3, sp0, sp1, sp2, sp3, cn1, cn2, cn3, cn4, cn5, cn6, jJa, lk0, lk1, jmS, jmN, s4_0, s4_1, s4_2, s4_3, s4_4, sw0, sw1, cKs, cKn, true_and, and_true, List.map_cons, List.map_nil, Nat.reduceAdd, Nat.zero_add, Int.reduceAdd, Nat.reduceEqDiff, reduceIte, Classical.not_not, b_Md_laysSeen, shMd, e27]
            (repeat' (first | omega | (with_reducible exact True.intro) | exact ⟨by omega, by omega⟩ | (with_reducible exact Or.inr trivial) | (with_reducible exact Or.inl trivial) | (with_reducible assumption) | (with_reducible exact Same.refl) | (with_reducible rfl) | (with_reducible refine And.intro ?_ ?_) | (with_reducible intro _)))
          | succ r ihk =>
            intro k K l6 l8 hkl hK hon hdone
            obtain ⟨k1, k2, k3, k4⟩ := keep K hK
            have e27 := k1.1.1
            have hkl' : k < l.length := by omega
            have hsk := getD_mem hkl'
            have eK : K 125 (k : Int) = ((l.getD k 0 : Nat) : Int) := k1.1.2.1 k hkl'
            have hne : ∀ j', j' < k → l.getD j' 0 ≠ l.getD k 0 := fun j' hj' e => by have := getD_inj hnd (by omega) hkl' e; omega
            have ek137 : K 137 (40 * (j : Int) + (i : Int)) = told i := by rw [k4]; exact ht i (by omega)
            generalize hsk' : l.getD k 0 = sk at hsk eK hne
            have hsk3 := hl3 sk hsk
            have l72 : ∀ (r set : Nat), set + r = 32 → AW G d mi_Md_laysSeen Q 72 [some (vr 117), some (vi j), some (vi but), some (vi n), some (vi i), some (vi k), some (vl (stp' (okI i) nxf (Wy okI nxf (n - (i + 1)) (i + 1)) sk set)), none, some (vi set)] [] K := by
              intro r
              induction r with
              | zero =>
                intro set hset
                have eW : stp' (okI i) nxf (Wy okI nxf (n - (i + 1)) (i + 1)) sk set = Wy okI nxf (n - i) i sk := by
                  rw [show set = 32 by omega, show n - i = (n - (i + 1)) + 1 by omega]; rfl
                have hwl := Wy_le (okI := okI) (nx := nxf) (n - i) i sk
                have h8 : (32 : Nat) ^ (n - i) ≤ 32 ^ 8 := Nat.pow_le_pow_right (by omega) (by omega)
                rw [eW]
                have := ihk (k + 1) (up K 133 (3125 * (i : Int) + (sk : Int)) (Wy okI nxf (n - i) i sk)) (some (vl (Wy okI nxf (n - i) i sk))) (some (vi set)) (by omega) (hK.up (by simp)) (fun i' h1 h2 s hs => by
                  have := hl3 s hs
                  rw [up_ne2 (by omega)]; exact hon i' h1 h2 s hs) (fun j' hj' => by
                  by_cases e : j' = k
                  · subst e; rw [hsk', up_eq]
                  · have h3 := hl3 _ (getD_mem (show j' < l.length by omega))
                    have := hne j' (by omega)
                    rw [up_ne2 (by omega)]; exact hdone j' (by omega))
                refine AW.run ck_Md_laysSeen [57, 136] 10 72 ?_
                simp only [wR, wB, wE0, wE1, wE2, wE3, g0, gS, s10, s11, s1S, s20, s21, s2S, kl0, kl1, kl2, kl3, sp0, sp1, sp2, sp3, cn1, cn2, cn3, cn4, cn5, cn6, jJa, lk0, lk1, jmS, jmN, s4_0, s4_1, s4_2, s4_3, s4_4, sw0, sw1, cKs, cKn, true_and, and_true, List.map_cons, List.map_nil, Nat.reduceAdd, Nat.zero_add, Int.reduceAdd, Nat.reduceEqDiff, reduceIte, Classical.not_not, b_Md_laysSeen, shMd, eK, ce]
                (repeat' (first | omega | (with_reducible exact True.intro) | exact ⟨by omega, by omega⟩ | (with_reducible exact Or.inr trivial) | (with_reducible exact Or.inl trivial) | (with_reducible assumption) | (with_reducible exact Same.refl) | (with_reducible rfl) | (with_reducible refine And.intro ?_ ?_) | (with_reducible intro _)))
              | succ r ihr =>
                intro set hset
                have hst : stp' (okI i) nxf (Wy okI nxf (n - (i + 1)) (i + 1)) sk (set + 1) = stp' (okI i) nxf (Wy okI nxf (n - (i + 1)) (i + 1)) sk set + (if okI i sk set = true then Wy okI nxf (n - (i + 1)) (i + 1) (nxf sk set) else 0) := rfl
                have hsl := stp'_le (ok := okI i) (nx := nxf) (g := Wy okI nxf (n - (i + 1)) (i + 1)) (s := sk) (32 ^ 8) (fun x => Nat.le_trans (Wy_le _ _ _) (Nat.pow_le_pow_right (by omega) (by omega))) (set + 1)
                have a136 : ∀ v : Int, v = (stp' (okI i) nxf (Wy okI nxf (n - (i + 1)) (i + 1)) sk (set + 1) : Nat) → AW G d mi_Md_laysSeen Q 136 [some (vr 117), some (vi j), some (vi but), some (vi n), some (vi i), some (vi k), some (vl v), none, some (vi set)] [] K := by
                  intro v hv
                  subst hv
                  have := ihr (set + 1) (by omega)
                  refine AW.run ck_Md_laysSeen [72] 10 136 ?_
                  simp only [wR, wB, wE0, wE1, wE2, wE3, g0, gS, s10, s11, s1S, s20, s21, s2S, kl0, kl1, kl2, kl3, sp0, sp1, sp2, sp3, cn1, cn2, cn3, cn4, cn5, cn6, jJa, lk0, lk1, jmS, jmN, s4_0, s4_1, s4_2, s4_3, s4_4, sw0, sw1, cKs, cKn, true_and, and_true, List.map_cons, List.map_nil, Nat.reduceAdd, Nat.zero_add, Int.reduceAdd, Nat.reduceEqDiff, reduceIte, Classical.not_not, b_Md_laysSeen, ce]
                  (repeat' (first | omega | (with_reducible exact True.intro) | exact ⟨by omega, by omega⟩ | (with_reducible exact Or.inr trivial) | (with_reducible exact Or.inl trivial) | (with_reducible assumption) | (with_reducible exact Same.refl) | (with_reducible rfl) | (with_reducible refine And.intro ?_ ?_) | (with_reducible intro _)))
                refine AW.run ck_Md_laysSeen [136, 142] 10 72 ?_
                simp only [wR, wB, wE0, wE1, wE2, wE3, g0, gS, s10, s11, s1S, s20, s21, s2S, kl0, kl1, kl2, kl3, sp0, sp1, sp2, sp3, cn1, cn2, cn3, cn4, cn5, cn6, jJa, lk0, lk1, jmS, jmN, s4_0, s4_1, s4_2, s4_3, s4_4, sw0, sw1, cKs, cKn, true_and, and_true, List.map_cons, List.map_nil, Nat.reduceAdd, Nat.zero_add, Int.reduceAdd, Nat.reduceEqDiff, reduceIte, Classical.not_not, b_Md_laysSeen, shMd, eK]
                (repeat' (first | omega | (with_reducible exact True.intro) | exact ⟨by omega, by omega⟩ | (with_reducible exact Or.inr trivial) | (with_reducible exact Or.inl trivial) | (with_reducible assumption) | (with_reducible exact Same.refl) | (with_reducible rfl) | (with_reducible refine And.intro ?_ ?_) | (with_reducible intro _)))
                refine MS.to (c_Md_canBe (d := d - 1) (told := told) (by omega) k1 hsk (by omega) hb hj (by omega) ek137) fun _ => ?_
                rw [hokI]
                simp only [wR, wB, wE0, wE1, wE2, wE3, g0, gS, s10, s11, s1S, s20, s21, s2S, kl0, kl1, kl2, kl3, sp0, sp1, sp2, sp3, cn1, cn2, cn3, cn4, cn5, cn6, jJa, lk0, lk1, jmS, jmN, s4_0, s4_1, s4_2, s4_3, s4_4, sw0, sw1, cKs, cKn, true_and, and_true, List.map_cons, List.map_nil, Nat.reduceAdd, Nat.zero_add, Int.reduceAdd, Nat.reduceEqDiff, reduceIte, Classical.not_not, b_Md_laysSeen, shMd, eK]
                by_cases q : okI i sk set = true
                · rw [if_pos q]
                  rw [if_pos q] at hst
                  have e126 := (k1.2.2.2 sk hsk set (by omega)).1
                  rw [if_pos (hokP _ _ _ q), hnxf] at e126
                  have htm := hcl sk set hsk (by omega) (hokP _ _ _ q)
                  have ht3 := hl3 _ htm
                  have e133 := hon (i + 1) (by omega) (by omega) _ htm
                  have e133' : K 133 (3125 * ((i : Int) + 1) + (nxf sk set : Int)) = Wy okI nxf (n - (i + 1)) (i + 1) (nxf sk set) := e133
                  have := a136 (((stp' (okI i) nxf (Wy okI nxf (n - (i + 1)) (i + 1)) sk set : Nat) : Int) + ((Wy okI nxf (n - (i + 1)) (i + 1) (nxf sk set) : Nat) : Int)) (by rw [hst]; rfl)
                  simp only [wR, wB, wE0, wE1, wE2, wE3, g0, gS, s10, s11, s1S, s20, s21, s2S, kl0, kl1, kl2, kl3, sp0, sp1, sp2, sp3, cn1, cn2, cn3, cn4, cn5, cn6, jJa, lk0, lk1, jmS, jmN, s4_0, s4_1, s4_2, s4_3, s4_4, sw0, sw1, cKs, cKn, true_and, and_true, List.map_cons, List.map_nil, Nat.reduceAdd, Nat.zero_add, Int.reduceAdd, Nat.reduceEqDiff, reduceIte, Classical.not_not, e126, e133', Int.reduceEq, not_true_eq_false, not_false_eq_true, false_imp_iff, true_imp_iff, and_self]
                  (repeat' (first | omega | (with_reducible exact True.intro) | exact ⟨by omega, by omega⟩ | (with_reducible exact Or.inr trivial) | (with_reducible exact Or.inl trivial) | (with_reducible assumption) | (with_reducible exact Same.refl) | (with_reducible rfl) | (with_reducible refine And.intro ?_ ?_) | (with_reducible intro _)))
                · rw [if_neg q]
                  rw [if_neg q, Nat.add_zero] at hst
                  have := a136 _ (by rw [hst])
                  (repeat' (first | omega | (with_reducible exact True.intro) | exact ⟨by omega, by omega⟩ | (with_reducible exact Or.inr trivial) | (with_reducible exact Or.inl trivial) | (with_reducible assumption) | (with_reducible exact Same.refl) | (with_reducible rfl) | (with_reducible refine And.intro ?_ ?_) | (with_reducible intro _)))
            have := l72 32 0 (by omega)
            refine AW.run ck_Md_laysSeen [72, 169] 10 57 ?_
            simp only [wR, wB, wE0, wE1, wE2, wE3, g0, gS, s10, s11, s1S, s20, s21, s2S, kl0, kl1, kl2, kl3, sp0, sp1, sp2, sp3, cn1, cn2, cn3, cn4, cn5, cn6, jJa, lk0, lk1, jmS, jmN, s4_0, s4_1, s4_2, s4_3, s4_4, sw0, sw1, cKs, cKn, true_and, and_true, List.map_cons, List.map_nil, Nat.reduceAdd, Nat.zero_add, Int.reduceAdd, Nat.reduceEqDiff, reduceIte, Classical.not_not, b_Md_laysSeen, shMd, e27]
            (repeat' (first | omega | (with_reducible exact True.intro) | exact ⟨by omega, by omega⟩ | (with_reducible exact Or.inr trivial) | (with_reducible exact Or.inl trivial) | (with_reducible assumption) | (with_reducible exact Same.refl) | (with_reducible rfl) | (with_reducible refine And.intro ?_ ?_) | (with_reducible intro _)))
            all_goals exact this
        have := l57 l.length 0 K0 l6 l8 (by omega) hK0 hon0 (fun j' hj' => absurd hj' (by omega))
        refine AW.run ck_Md_laysSeen [57, 175] 10 49 ?_
        simp only [wR, wB, wE0, wE1, wE2, wE3, g0, gS, s10, s11, s1S, s20, s21, s2S, kl0, kl1, kl2, kl3, sp0, sp1, sp2, sp3, cn1, cn2, cn3, cn4, cn5, cn6, jJa, lk0, lk1, jmS, jmN, s4_0, s4_1, s4_2, s4_3, s4_4, sw0, sw1, cKs, cKn, true_and, and_true, List.map_cons, List.map_nil, Nat.reduceAdd, Nat.zero_add, Int.reduceAdd, Nat.reduceEqDiff, reduceIte, Classical.not_not, b_Md_laysSeen, shMd]
        rw [show ((i + 1 : Nat) : Int) - 1 = (i : Int) by omega]
        (repeat' (first | omega | (with_reducible exact True.intro) | exact ⟨by omega, by omega⟩ | (with_reducible exact Or.inr trivial) | (with_reducible exact Or.inl trivial) | (with_reducible assumption) | (with_reducible exact Same.refl) | (with_reducible rfl) | (with_reducible refine And.intro ?_ ?_) | (with_reducible intro _)))
  have l10 : ∀ (r k : Nat) (K : AM), k + r = l.length → Same [133] M K → (∀ j', j' < k → K 133 (3125 * (n : Int) + (l.getD j' 0 : Nat)) = 1) → AW G d mi_Md_laysSeen Q 10 [some (vr 117), some (vi j), some (vi but), some (vi n), some (vi k), none, none, none, none] [] K := by
    as_aux_lemma =>
      intro r
      induction r with
      | zero =>
        intro k K hkl hK hdone
        obtain ⟨k1, k2, k3, k4⟩ := keep K hK
        have e27 := k1.1.1
        have := l49 n K none none none (Nat.le_refl _) hK (fun i h1 h2 s hs => by
          obtain rfl : i = n := by omega
          obtain ⟨j', hj', ej⟩ := mem_getD hs
          have := hdone j' (by omega)
          rw [ej] at this
          rw [Nat.sub_self]
          exact this)
        refine AW.run ck_Md_laysSeen [10, 49] 10 10 ?_
        simp only [wR, wB, wE0, wE1, wE2, wE3, g0, gS, s10, s11, s1S, s20, s21, s2S, kl0, kl1, kl2, kl3, sp0, sp1, sp2, sp3, cn1, cn2, cn3, cn4, cn5, cn6, jJa, lk0, lk1, jmS, jmN, s4_0, s4_1, s4_2, s4_3, s4_4, sw0, sw1, cKs, cKn, true_and, and_true, List.map_cons, List.map_nil, Nat.reduceAdd, Nat.zero_add, Int.reduceAdd, Nat.reduceEqDiff, reduceIte, Classical.not_not, b_Md_laysSeen, shMd, e27]
        (repeat' (first | omega | (with_reducible exact True.intro) | exact ⟨by omega, by omega⟩ | (with_reducible exact Or.inr trivial) | (with_reducible exact Or.inl trivial) | (with_reducible assumption) | (with_reducible exact Same.refl) | (with_reducible rfl) | (with_reducible refine And.intro ?_ ?_) | (with_reducible intro _)))
      | succ r ih =>
        intro k K hkl hK hdone
        obtain ⟨k1, k2, k3, k4⟩ := keep K hK
        have e27 := k1.1.1
        have hkl' : k < l.length := by omega
        have eK : K 125 (k : Int) = ((l.getD k 0 : Nat) : Int) := k1.1.2.1 k hkl'
        have hs3 := hl3 _ (getD_mem hkl')
        have := ih (k + 1) (up K 133 (3125 * (n : Int) + (l.getD k 0 : Nat)) 1) (by omega) (hK.up (by simp)) (fun j' hj' => by
          by_cases e : j' = k
          · subst e; rw [up_eq]
          · have : l.getD j' 0 ≠ l.getD k 0 := fun e' => e (getD_inj hnd (by omega) hkl' e')
            rw [up_ne2 (by omega)]; exact hdone j' (by omega))
        refine AW.run ck_Md_laysSeen [10, 44] 10 10 ?_
        simp only [wR, wB, wE0, wE1, wE2, wE3, g0, gS, s10, s11, s1S, s20, s21, s2S, kl0, kl1, kl2, kl3, sp0, sp1, sp2, sp3, cn1, cn2, cn3, cn4, cn5, cn6, jJa, lk0, lk1, jmS, jmN, s4_0, s4_1, s4_2, s4_3, s4_4, sw0, sw1, cKs, cKn, true_and, and_true, List.map_cons, List.map_nil, Nat.reduceAdd, Nat.zero_add, Int.reduceAdd, Nat.reduceEqDiff, reduceIte, Classical.not_not, b_Md_laysSeen, shMd, e27, eK, ce]
        (repeat' (first | omega | (with_reducible exact True.intro) | exact ⟨by omega, by omega⟩ | (with_reducible exact Or.inr trivial) | (with_reducible exact Or.inl trivial) | (with_reducible assumption) | (with_reducible exact Same.refl) | (with_reducible rfl) | (with_reducible refine And.intro ?_ ?_) | (with_reducible intro _)))
  have := l10 l.length 0 M (by omega) Same.refl (fun j' hj' => absurd hj' (by omega))
  refine AW.run ck_Md_laysSeen [10] 10 0 ?_
  simp only [wR, wB, wE0, wE1, wE2, wE3, g0, gS, s10, s11, s1S, s20, s21, s2S, kl0, kl1, kl2, kl3, sp0, sp1, sp2, sp3, cn1, cn2, cn3, cn4, cn5, cn6, jJa, lk0, lk1, jmS, jmN, s4_0, s4_1, s4_2, s4_3, s4_4, sw0, sw1, cKs, cKn, true_and, and_true, List.map_cons, List.map_nil, Nat.reduceAdd, Nat.zero_add, Int.reduceAdd, Nat.reduceEqDiff, reduceIte, Classical.not_not, b_Md_laysSeen, shMd, hn1]
  (repeat' (first | omega | (with_reducible exact True.intro) | exact ⟨by omega, by omega⟩ | (with_reducible exact Or.inr trivial) | (with_reducible exact Or.inl trivial) | (with_reducible assumption) | (with_reducible exact Same.refl) | (with_reducible rfl) | (with_reducible refine And.intro ?_ ?_) | (with_reducible intro _)))
end MS2
