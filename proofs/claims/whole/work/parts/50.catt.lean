/-- of the colds that may be, at most how many bring the same -/
def codA (σ : Sg) (set c : Nat) : Nat := cod (fun p => tired σ.h σ.m.sd c set p (σ.m.st p)) σ.h.P
def alkC (cand : Nat) (code : Nat → Nat) : Nat → Nat
  | 0 => 0
  | i + 1 => if wb cand i = true then max (alkC cand code i) (cntP (fun j => wb cand j && decide (code j = code i)) (i + 1)) else alkC cand code i
theorem alkC_le {cand : Nat} {code : Nat → Nat} : ∀ i, alkC cand code i ≤ i
  | 0 => Nat.le_refl _
  | i + 1 => by
    have ih := alkC_le (cand := cand) (code := code) i
    have := cntP_le (fun j => wb cand j && decide (code j = code i)) (i + 1)
    simp only [alkC]
    split <;> omega
/-- the first set of the least -/
def attL (f : Nat → Nat) (can : Nat → Bool) : Nat → Int × Nat
  | 0 => (-1, 1000000)
  | n + 1 => if can n = true ∧ f n < (attL f can n).2 then ((n : Int), f n) else attL f can n
theorem attL_in {f : Nat → Nat} {can : Nat → Bool} (hf : ∀ n, f n ≤ 1000000) : ∀ n, -1 ≤ (attL f can n).1 ∧ (attL f can n).1 < (n : Int) ∧ (attL f can n).2 ≤ 1000000
  | 0 => by simp [attL]
  | n + 1 => by
    have ih := attL_in (f := f) (can := can) hf n
    simp only [attL]
    split
    · have := hf n
      refine ⟨?_, ?_, ?_⟩ <;> simp only <;> omega
    · omega
def aAtt (σ : Sg) (i p : Nat) : Int := if coldsN σ i p = 0 then -1 else (attL (fun set => alkC (coldsN σ i p) (codA σ set) 10) (fun set => decide (set &&& (31 ^^^ ablM σ.h.P σ.m.st) = 0)) 32).1
def aAttempt (σ : Sg) (t p : Int) : Int := if aRT σ t p = 0 then aAtt σ t.toNat p.toNat else aRT σ t p
section CC3
variable {G : AG} {d : Nat} {M : AM}
theorem c_H_mostAlike {z : Int} {cand set B : Nat} {σ : Sg} (hd : 10 ≤ d) (ok : SgOK B σ) (hs : Chs M z σ) (hM : CM M 25 σ.h.P σ.m) (hc : cand < 1024) (hset : set < 32) :
    MS G d mi_H_mostAlike [vr 0, vi cand, vi set] M (fun r M' => r = some (vi (alkC cand (codA σ set) 10)) ∧ Same [57, z + 7, z + 8] M M') := by
  have hz := hs.z
  have hzz := hs.2.2.1
  have hok := ok.2.2.1
  have mok := ok.2.2.2.1.1
  refine MS.by ck_H_mostAlike [some (vr 0), some (vi cand), some (vi set), none, none, none, none, none] fun _ _ => ?_
  generalize hQ : (fun (r : Option AV) (M' : AM) => r = some (vi (alkC cand (codA σ set) 10)) ∧ Same [57, z + 7, z + 8] M M') = Q
  generalize hcode : codA σ set = code
  have hbit : ∀ i : Nat, i < 10 → bAnd (bShr (cand : Int) (i : Int)) 1 = ((cand / 2 ^ i % 2 : Nat) : Int) := fun i hi => bit_n (by omega) (by omega)
  have hb2 : ∀ i : Nat, cand / 2 ^ i % 2 < 2 := fun i => Nat.mod_lt _ (by omega)
  have loop : ∀ (r i : Nat) (N : AM) (l6 l7 : Option AV), i + r = 10 → Same [57, z + 7, z + 8] M N → (∀ j : Nat, j < i → wb cand j = true → N 57 j = code j) → AW G d mi_H_mostAlike Q 14 [some (vr 0), some (vi cand), some (vi set), some (vr 57), some (vi (alkC cand code i)), some (vi i), l6, l7] [] N := by
    intro r
    induction r with
    | zero =>
      intro i N l6 l7 hi hN hcd
      obtain rfl : i = 10 := by omega
      refine AW.run ck_H_mostAlike [62, 114] 10 14 ?_
      simp only [wR, wB, wE0, wE1, wE2, wE3, g0, gS, s10, s11, s1S, s20, s21, s2S, kl0, kl1, kl2, kl3, sp0, sp1, sp2, sp3, cn1, cn2, cn3, cn4, cn5, cn6, jJa, lk0, lk1, jmS, jmN, s4_0, s4_1, s4_2, s4_3, s4_4, sw0, sw1, cKs, cKn, true_and, and_true, List.map_cons, List.map_nil, Nat.reduceAdd, Nat.zero_add, Int.reduceAdd, Nat.reduceEqDiff, reduceIte, Classical.not_not, b_H_mostAlike, shH, shRo, shI1]
      subst hQ
      (repeat' (first | omega | exact ⟨by omega, by omega⟩ | (with_reducible exact Or.inr trivial) | (with_reducible exact Or.inl trivial) | (with_reducible assumption) | (with_reducible exact Same.refl) | (with_reducible rfl) | (with_reducible refine And.intro ?_ ?_) | (with_reducible intro _)))
      rw [← hcode]
    | succ r ih =>
      intro i N l6 l7 hi hN hcd
      have a114 : ∀ (K : AM) (x : Nat) (l6 l7 : Option AV), x = alkC cand code (i + 1) → Same [57, z + 7, z + 8] M K → (∀ j : Nat, j < i + 1 → wb cand j = true → K 57 j = code j) → AW G d mi_H_mostAlike Q 114 [some (vr 0), some (vi cand), some (vi set), some (vr 57), some (vi x), some (vi i), l6, l7] [] K := by
        intro K x l6 l7 hx hK hcd'
        refine AW.run ck_H_mostAlike [14] 10 114 ?_
        simp only [wR, wB, wE0, wE1, wE2, wE3, g0, gS, s10, s11, s1S, s20, s21, s2S, kl0, kl1, kl2, kl3, sp0, sp1, sp2, sp3, cn1, cn2, cn3, cn4, cn5, cn6, jJa, lk0, lk1, jmS, jmN, s4_0, s4_1, s4_2, s4_3, s4_4, sw0, sw1, cKs, cKn, true_and, and_true, List.map_cons, List.map_nil, Nat.reduceAdd, Nat.zero_add, Int.reduceAdd, Nat.reduceEqDiff, reduceIte, Classical.not_not, b_H_mostAlike, ce]
        (repeat' (first | omega | exact ⟨by omega, by omega⟩ | (with_reducible exact Or.inr trivial) | (with_reducible exact Or.inl trivial) | (with_reducible assumption) | (with_reducible exact Same.refl) | (with_reducible rfl) | (with_reducible refine And.intro ?_ ?_) | (with_reducible intro _)))
        rw [hx]
        exact ih (i + 1) K _ _ (by omega) hK hcd'
      have hw : wb cand i = true ↔ cand / 2 ^ i % 2 = 1 := wb_iff
      have hbi := hb2 i
      refine AW.run ck_H_mostAlike [62, 114] 10 14 ?_
      simp only [wR, wB, wE0, wE1, wE2, wE3, g0, gS, s10, s11, s1S, s20, s21, s2S, kl0, kl1, kl2, kl3, sp0, sp1, sp2, sp3, cn1, cn2, cn3, cn4, cn5, cn6, jJa, lk0, lk1, jmS, jmN, s4_0, s4_1, s4_2, s4_3, s4_4, sw0, sw1, cKs, cKn, true_and, and_true, List.map_cons, List.map_nil, Nat.reduceAdd, Nat.zero_add, Int.reduceAdd, Nat.reduceEqDiff, reduceIte, Classical.not_not, b_H_mostAlike, shH, shRo, shI1, hbit i (by omega), hs.1, hN.at 0 3 (by (first | decide | (simp only [List.mem_cons, List.not_mem_nil, or_false, not_or, not_false_eq_true, and_true]; omega) | (simp [List.mem_cons]; done))), hz]
      (repeat' (first | omega | exact ⟨by omega, by omega⟩ | (with_reducible exact Or.inr trivial) | (with_reducible exact Or.inl trivial) | (with_reducible assumption) | (with_reducible exact Same.refl) | (with_reducible rfl) | (with_reducible refine And.intro ?_ ?_) | (with_reducible intro _)))
      · exact a114 N (alkC cand code i) _ _ (by simp only [alkC]; rw [if_neg (by rw [hw]; omega)]) hN (fun j hj hwj => by
          by_cases e : j = i
          · subst e; rw [hw] at hwj; omega
          · exact hcd j (by omega) hwj)
      · refine (c_Ha_codeAfter (d := d - 1) (by omega) hz o25 hok (hs.2.2.2.same hN (by (first | decide | (simp only [List.mem_cons, List.not_mem_nil, or_false, not_or, not_false_eq_true, and_true]; omega) | (simp [List.mem_cons]; done))) (by (first | decide | (simp only [List.mem_cons, List.not_mem_nil, or_false, not_or, not_false_eq_true, and_true]; omega) | (simp [List.mem_cons]; done))) (by (first | decide | (simp only [List.mem_cons, List.not_mem_nil, or_false, not_or, not_false_eq_true, and_true]; omega) | (simp [List.mem_cons]; done))) (by (first | decide | (simp only [List.mem_cons, List.not_mem_nil, or_false, not_or, not_false_eq_true, and_true]; omega) | (simp [List.mem_cons]; done))) (by (first | decide | (simp only [List.mem_cons, List.not_mem_nil, or_false, not_or, not_false_eq_true, and_true]; omega) | (simp [List.mem_cons]; done))) (by (first | decide | (simp only [List.mem_cons, List.not_mem_nil, or_false, not_or, not_false_eq_true, and_true]; omega) | (simp [List.mem_cons]; done)))) mok (hM.same hN (by (first | decide | (simp only [List.mem_cons, List.not_mem_nil, or_false, not_or, not_false_eq_true, and_true]; omega) | (simp [List.mem_cons]; done))) (by (first | decide | (simp only [List.mem_cons, List.not_mem_nil, or_false, not_or, not_false_eq_true, and_true]; omega) | (simp [List.mem_cons]; done)))) hset (by omega)).mono ?_
        rintro r' M1 okM1 ⟨rfl, u1⟩
        have eci : cod (fun p => tired σ.h σ.m.sd i set p (σ.m.st p)) σ.h.P = code i := by rw [← hcode]; rfl
        rw [eci]
        have hwi : wb cand i = true := hw.mpr (by omega)
        simp only [wR, wB, wE0, wE1, wE2, wE3, g0, gS, s10, s11, s1S, s20, s21, s2S, kl0, kl1, kl2, kl3, sp0, sp1, sp2, sp3, cn1, cn2, cn3, cn4, cn5, cn6, jJa, lk0, lk1, jmS, jmN, s4_0, s4_1, s4_2, s4_3, s4_4, sw0, sw1, cKs, cKn, true_and, and_true, List.map_cons, List.map_nil, Nat.reduceAdd, Nat.zero_add, Int.reduceAdd, Nat.reduceEqDiff, reduceIte, Classical.not_not, b_H_mostAlike, shRo]
        have hK : Same [57, z + 7, z + 8] M (up M1 57 i (code i)) := (hN.trans (u1.mono (by simp))).up (by simp)
        have hK57 : ∀ j : Nat, j < i + 1 → wb cand j = true → up M1 57 i (code i) 57 j = code j := fun j hj hwj => by
          by_cases e : j = i
          · subst e; rw [up_eq]
          · rw [up_ne2 (by omega), u1.at 57 _ (by (first | decide | (simp only [List.mem_cons, List.not_mem_nil, or_false, not_or, not_false_eq_true, and_true]; omega) | (simp [List.mem_cons]; done)))]; exact hcd j (by omega) hwj
        have hKi : up M1 57 i (code i) 57 i = code i := by rw [up_eq]
        (repeat' (first | omega | exact ⟨by omega, by omega⟩ | (with_reducible exact Or.inr trivial) | (with_reducible exact Or.inl trivial) | (with_reducible assumption) | (with_reducible exact Same.refl) | (with_reducible rfl) | (with_reducible refine And.intro ?_ ?_) | (with_reducible intro _)))
        generalize up M1 57 i (code i) = K at hK hK57 hKi ⊢
        have inner : ∀ (r j : Nat), j + r = i + 1 → AW G d mi_H_mostAlike Q 62 [some (vr 0), some (vi cand), some (vi set), some (vr 57), some (vi (alkC cand code i)), some (vi i), some (vi (cntP (fun j => wb cand j && decide (code j = code i)) j)), some (vi j)] [] K := by
          intro r
          induction r with
          | zero =>
            intro j hj
            obtain rfl : j = i + 1 := by omega
            have hl1 := alkC_le (cand := cand) (code := code) i
            have hl2 := cntP_le (fun j => wb cand j && decide (code j = code i)) (i + 1)
            have em : max (alkC cand code i) (cntP (fun j => wb cand j && decide (code j = code i)) (i + 1)) = alkC cand code (i + 1) := by simp only [alkC]; rw [if_pos hwi]
            refine AW.run ck_H_mostAlike [96, 114] 10 62 ?_
            simp only [wR, wB, wE0, wE1, wE2, wE3, g0, gS, s10, s11, s1S, s20, s21, s2S, kl0, kl1, kl2, kl3, sp0, sp1, sp2, sp3, cn1, cn2, cn3, cn4, cn5, cn6, jJa, lk0, lk1, jmS, jmN, s4_0, s4_1, s4_2, s4_3, s4_4, sw0, sw1, cKs, cKn, true_and, and_true, List.map_cons, List.map_nil, Nat.reduceAdd, Nat.zero_add, Int.reduceAdd, Nat.reduceEqDiff, reduceIte, Classical.not_not, b_H_mostAlike]
            (repeat' (first | omega | exact ⟨by omega, by omega⟩ | (with_reducible exact Or.inr trivial) | (with_reducible exact Or.inl trivial) | (with_reducible assumption) | (with_reducible exact Same.refl) | (with_reducible rfl) | (with_reducible refine And.intro ?_ ?_) | (with_reducible intro _)))
            generalize alkC cand code i = a at em hl1 ⊢
            generalize cntP (fun j => wb cand j && decide (code j = code i)) (i + 1) = b at em hl2 ⊢
            have := a114 K (max a b) (some (vi b)) (some (vi ((i + 1 : Nat) : Int))) em hK hK57
            by_cases q : b ≤ a
            · rw [Nat.max_eq_left q] at this
              first
                | rw [if_pos (by omega)]; exact this
                | rw [if_neg (by omega)]; exact this
            · rw [Nat.max_eq_right (by omega)] at this
              first
                | rw [if_pos (by omega)]; exact this
                | rw [if_neg (by omega)]; exact this
          | succ r ih2 =>
            intro j hj
            have hl2 := cntP_le (fun j => wb cand j && decide (code j = code i)) j
            have hbj := hb2 j
            have hwj : wb cand j = true ↔ cand / 2 ^ j % 2 = 1 := wb_iff
            have a96 : ∀ x : Nat, x = cntP (fun j => wb cand j && decide (code j = code i)) (j + 1) → AW G d mi_H_mostAlike Q 96 [some (vr 0), some (vi cand), some (vi set), some (vr 57), some (vi (alkC cand code i)), some (vi i), some (vi x), some (vi j)] [] K := by
              intro x hx
              refine AW.run ck_H_mostAlike [62] 10 96 ?_
              simp only [wR, wB, wE0, wE1, wE2, wE3, g0, gS, s10, s11, s1S, s20, s21, s2S, kl0, kl1, kl2, kl3, sp0, sp1, sp2, sp3, cn1, cn2, cn3, cn4, cn5, cn6, jJa, lk0, lk1, jmS, jmN, s4_0, s4_1, s4_2, s4_3, s4_4, sw0, sw1, cKs, cKn, true_and, and_true, List.map_cons, List.map_nil, Nat.reduceAdd, Nat.zero_add, Int.reduceAdd, Nat.reduceEqDiff, reduceIte, Classical.not_not, b_H_mostAlike, ce]
              (repeat' (first | omega | exact ⟨by omega, by omega⟩ | (with_reducible exact Or.inr trivial) | (with_reducible exact Or.inl trivial) | (with_reducible assumption) | (with_reducible exact Same.refl) | (with_reducible rfl) | (with_reducible refine And.intro ?_ ?_) | (with_reducible intro _)))
              rw [hx]
              exact ih2 (j + 1) (by omega)
            refine AW.run ck_H_mostAlike [96, 105] 10 62 ?_
            simp only [wR, wB, wE0, wE1, wE2, wE3, g0, gS, s10, s11, s1S, s20, s21, s2S, kl0, kl1, kl2, kl3, sp0, sp1, sp2, sp3, cn1, cn2, cn3, cn4, cn5, cn6, jJa, lk0, lk1, jmS, jmN, s4_0, s4_1, s4_2, s4_3, s4_4, sw0, sw1, cKs, cKn, true_and, and_true, List.map_cons, List.map_nil, Nat.reduceAdd, Nat.zero_add, Int.reduceAdd, Nat.reduceEqDiff, reduceIte, Classical.not_not, b_H_mostAlike, shRo, hbit j (by omega), hKi]
            have e1 : ¬ (wb cand j = true ∧ code j = code i) → cntP (fun j => wb cand j && decide (code j = code i)) (j + 1) = cntP (fun j => wb cand j && decide (code j = code i)) j := by
              intro h
              simp only [cntP]
              rw [if_neg (by rw [Bool.and_eq_true, decide_eq_true_eq]; exact h)]; rfl
            have e2 : (wb cand j = true ∧ code j = code i) → cntP (fun j => wb cand j && decide (code j = code i)) (j + 1) = cntP (fun j => wb cand j && decide (code j = code i)) j + 1 := by
              intro h
              simp only [cntP]
              rw [if_pos (by rw [Bool.and_eq_true, decide_eq_true_eq]; exact h)]
            by_cases qj : wb cand j = true
            · have := hK57 j (by omega) qj
              rw [this]
              have hq := hwj.mp qj
              by_cases qc : code j = code i
              · have := a96 _ (e2 ⟨qj, qc⟩).symm
                rw [show ((cntP (fun j => wb cand j && decide (code j = code i)) j + 1 : Nat) : Int) = (cntP (fun j => wb cand j && decide (code j = code i)) j : Int) + 1 by omega] at this
                (repeat' (first | omega | exact ⟨by omega, by omega⟩ | (with_reducible exact Or.inr trivial) | (with_reducible exact Or.inl trivial) | (with_reducible assumption) | (with_reducible exact Same.refl) | (with_reducible rfl) | (with_reducible refine And.intro ?_ ?_) | (with_reducible intro _)))
              · have := a96 _ (e1 (fun h => qc h.2)).symm
                (repeat' (first | omega | exact ⟨by omega, by omega⟩ | (with_reducible exact Or.inr trivial) | (with_reducible exact Or.inl trivial) | (with_reducible assumption) | (with_reducible exact Same.refl) | (with_reducible rfl) | (with_reducible refine And.intro ?_ ?_) | (with_reducible intro _)))
            · have := a96 _ (e1 (fun h => qj h.1)).symm
              rw [hwj] at qj
              (repeat' (first | omega | exact ⟨by omega, by omega⟩ | (with_reducible exact Or.inr trivial) | (with_reducible exact Or.inl trivial) | (with_reducible assumption) | (with_reducible exact Same.refl) | (with_reducible rfl) | (with_reducible refine And.intro ?_ ?_) | (with_reducible intro _)))
        exact inner (i + 1) 0 (by omega)
  refine AW.run ck_H_mostAlike [14] 10 0 ?_
  simp only [wR, wB, wE0, wE1, wE2, wE3, g0, gS, s10, s11, s1S, s20, s21, s2S, kl0, kl1, kl2, kl3, sp0, sp1, sp2, sp3, cn1, cn2, cn3, cn4, cn5, cn6, jJa, lk0, lk1, jmS, jmN, s4_0, s4_1, s4_2, s4_3, s4_4, sw0, sw1, cKs, cKn, true_and, and_true, List.map_cons, List.map_nil, Nat.reduceAdd, Nat.zero_add, Int.reduceAdd, Nat.reduceEqDiff, reduceIte, Classical.not_not, b_H_mostAlike, shH, shRo]
  exact ⟨by omega, loop 10 0 M _ _ (by omega) Same.refl (fun j hj => absurd hj (by omega))⟩
theorem CR.q57 {M N : AM} {z : Int} {σ : Sg} (h : CR M σ) (hz : z = 7 ∨ z = 16) (hs : Same [57, z + 7, z + 8] M N) : CR N σ ∧ Hi M N := by
  have hsc : Scr M N := hs.scr (by intro x hx; simp only [List.mem_cons, List.not_mem_nil, or_false] at hx; omega)
  exact ⟨h.scr hsc (h.inv.eq (fun x h1 h2 => hs x (by (first | decide | (simp only [List.mem_cons, List.not_mem_nil, or_false, not_or, not_false_eq_true, and_true]; omega) | (simp [List.mem_cons]; done))))), hsc.hi⟩
theorem c_H_attempt {t p : Int} {B : Nat} {σ : Sg} (hd : 20 ≤ d) (ok : SgOK B σ) (hR : CR M σ) : MS G d mi_H_attempt [vr 0, vi t, vi p] M (fun r M' => r = some (vi (aAttempt σ t p)) ∧ CR M' σ ∧ Hi M M') := by
  obtain ⟨z, hs, hM, hpp, hT⟩ := hR.z
  have hzz := hs.2.2.1
  have hP := ok.2.2.1.1
  refine MS.by ck_H_attempt [some (vr 0), some (vi t), some (vi p), none, none, none, none, none, none, none] fun _ _ => ?_
  generalize hQ : (fun (r : Option AV) (M' : AM) => r = some (vi (aAttempt σ t p)) ∧ CR M' σ ∧ Hi M M') = Q
  refine AW.run ck_H_attempt [13] 10 0 ?_
  simp only [wR, wB, wE0, wE1, wE2, wE3, g0, gS, s10, s11, s1S, s20, s21, s2S, kl0, kl1, kl2, kl3, sp0, sp1, sp2, sp3, cn1, cn2, cn3, cn4, cn5, cn6, jJa, lk0, lk1, jmS, jmN, s4_0, s4_1, s4_2, s4_3, s4_4, sw0, sw1, cKs, cKn, true_and, and_true, List.map_cons, List.map_nil, Nat.reduceAdd, Nat.zero_add, Int.reduceAdd, Nat.reduceEqDiff, reduceIte, Classical.not_not, b_H_attempt, shH]
  refine ⟨by omega, MS.to (c_H_refusedTired (d := d - 1) (by omega) ok hR) fun _ => ?_⟩
  simp only [wR, wB, wE0, wE1, wE2, wE3, g0, gS, s10, s11, s1S, s20, s21, s2S, kl0, kl1, kl2, kl3, sp0, sp1, sp2, sp3, cn1, cn2, cn3, cn4, cn5, cn6, jJa, lk0, lk1, jmS, jmN, s4_0, s4_1, s4_2, s4_3, s4_4, sw0, sw1, cKs, cKn, true_and, and_true, List.map_cons, List.map_nil, Nat.reduceAdd, Nat.zero_add, Int.reduceAdd, Nat.reduceEqDiff, reduceIte, Classical.not_not, b_H_attempt, shH]
  by_cases q : aRT σ t p = 0
  · have q' := q
    have ea : aAttempt σ t p = aAtt σ t.toNat p.toNat := by unfold aAttempt; rw [if_pos q]
    rw [ea] at hQ
    unfold aRT at q
    by_cases hp : 0 ≤ p ∧ p < (σ.h.P : Int)
    · rw [if_pos hp] at q
      obtain ⟨i, rfl, hi, hne, -⟩ := aRN_0 q
      obtain ⟨n, rfl⟩ := Int.eq_ofNat_of_zero_le hp.1
      rw [Int.toNat_natCast, Int.toNat_natCast] at hQ
      have t1 := (hT i hi).1
      have ho := tr_O i hi
      (repeat' (first | omega | exact ⟨by omega, by omega⟩ | (with_reducible exact Or.inr trivial) | (with_reducible exact Or.inl trivial) | (with_reducible assumption) | (with_reducible exact Same.refl) | (with_reducible rfl) | (with_reducible refine And.intro ?_ ?_) | (with_reducible intro _)))
      refine AW.run ck_H_attempt [33] 10 13 ?_
      simp only [wR, wB, wE0, wE1, wE2, wE3, g0, gS, s10, s11, s1S, s20, s21, s2S, kl0, kl1, kl2, kl3, sp0, sp1, sp2, sp3, cn1, cn2, cn3, cn4, cn5, cn6, jJa, lk0, lk1, jmS, jmN, s4_0, s4_1, s4_2, s4_3, s4_4, sw0, sw1, cKs, cKn, true_and, and_true, List.map_cons, List.map_nil, Nat.reduceAdd, Nat.zero_add, Int.reduceAdd, Nat.reduceEqDiff, reduceIte, Classical.not_not, b_H_attempt, shH, shR0, l30, t1, ho]
      (repeat' (first | omega | exact ⟨by omega, by omega⟩ | (with_reducible exact Or.inr trivial) | (with_reducible exact Or.inl trivial) | (with_reducible assumption) | (with_reducible exact Same.refl) | (with_reducible rfl) | (with_reducible refine And.intro ?_ ?_) | (with_reducible intro _)))
      refine (c_H_coldsBy (d := d - 1) (by omega) ok hs hM hi (hT i hi) hne (by omega)).mono ?_
      rintro r M1 okM1 ⟨rfl, u1⟩
      simp only [wR, wB, wE0, wE1, wE2, wE3, g0, gS, s10, s11, s1S, s20, s21, s2S, kl0, kl1, kl2, kl3, sp0, sp1, sp2, sp3, cn1, cn2, cn3, cn4, cn5, cn6, jJa, lk0, lk1, jmS, jmN, s4_0, s4_1, s4_2, s4_3, s4_4, sw0, sw1, cKs, cKn, true_and, and_true, List.map_cons, List.map_nil, Nat.reduceAdd, Nat.zero_add, Int.reduceAdd, Nat.reduceEqDiff, reduceIte, Classical.not_not, b_H_attempt, shH]
      have hs1 : Chs M1 z σ := hs.eq (fun x hx => u1 x (by (first | decide | (simp only [List.mem_cons, List.not_mem_nil, or_false, not_or, not_false_eq_true, and_true]; omega) | (simp [List.mem_cons]; done))))
      have hM1 : CM M1 25 σ.h.P σ.m := hM.eq (u1 _ (by (first | decide | (simp only [List.mem_cons, List.not_mem_nil, or_false, not_or, not_false_eq_true, and_true]; omega) | (simp [List.mem_cons]; done)))) (u1 _ (by (first | decide | (simp only [List.mem_cons, List.not_mem_nil, or_false, not_or, not_false_eq_true, and_true]; omega) | (simp [List.mem_cons]; done))))
      have hcl : coldsN σ i n < 2 ^ 10 := bitsP_lt _ _
      unfold aAtt at hQ
      generalize hcn : coldsN σ i n = cand at hcl hQ ⊢
      by_cases qc : cand = 0
      · rw [if_pos qc] at hQ
        (repeat' (first | omega | exact ⟨by omega, by omega⟩ | (with_reducible exact Or.inr trivial) | (with_reducible exact Or.inl trivial) | (with_reducible assumption) | (with_reducible exact Same.refl) | (with_reducible rfl) | (with_reducible refine And.intro ?_ ?_) | (with_reducible intro _)))
        subst hQ
        exact ⟨rfl, hR.z78 hzz u1⟩
      · rw [if_neg qc] at hQ
        (repeat' (first | omega | exact ⟨by omega, by omega⟩ | (with_reducible exact Or.inr trivial) | (with_reducible exact Or.inl trivial) | (with_reducible assumption) | (with_reducible exact Same.refl) | (with_reducible rfl) | (with_reducible refine And.intro ?_ ?_) | (with_reducible intro _)))
        have hf : ∀ s, alkC cand (codA σ s) 10 ≤ 1000000 := fun s => by have := alkC_le (cand := cand) (code := codA σ s) 10; omega
        have hab := ablM_lt (st := σ.m.st) hP
        generalize hff : (fun set => alkC cand (codA σ set) 10) = f at hQ
        generalize hcan : (fun set => decide (set &&& (31 ^^^ ablM σ.h.P σ.m.st) = 0)) = can at hQ
        have hfle : ∀ s, f s ≤ 1000000 := fun s => by rw [← hff]; exact hf s
        refine AW.run ck_H_attempt [53] 10 33 ?_
        simp only [wR, wB, wE0, wE1, wE2, wE3, g0, gS, s10, s11, s1S, s20, s21, s2S, kl0, kl1, kl2, kl3, sp0, sp1, sp2, sp3, cn1, cn2, cn3, cn4, cn5, cn6, jJa, lk0, lk1, jmS, jmN, s4_0, s4_1, s4_2, s4_3, s4_4, sw0, sw1, cKs, cKn, true_and, and_true, List.map_cons, List.map_nil, Nat.reduceAdd, Nat.zero_add, Int.reduceAdd, Nat.reduceEqDiff, reduceIte, Classical.not_not, b_H_attempt, shH]
        refine ⟨by omega, MS.to (c_Mo_able o25) fun _ => ?_⟩
        rw [hM1.able hP]
        simp only [wR, wB, wE0, wE1, wE2, wE3, g0, gS, s10, s11, s1S, s20, s21, s2S, kl0, kl1, kl2, kl3, sp0, sp1, sp2, sp3, cn1, cn2, cn3, cn4, cn5, cn6, jJa, lk0, lk1, jmS, jmN, s4_0, s4_1, s4_2, s4_3, s4_4, sw0, sw1, cKs, cKn, true_and, and_true, List.map_cons, List.map_nil, Nat.reduceAdd, Nat.zero_add, Int.reduceAdd, Nat.reduceEqDiff, reduceIte, Classical.not_not, b_H_attempt]
        have loop : ∀ (r s : Nat) (N : AM) (l9 : Option AV), s + r = 32 → Same [57, z + 7, z + 8] M1 N → AW G d mi_H_attempt Q 53 [some (vr 0), some (vi i), some (vi n), some (vi (aRT σ i n)), some (vi cand), some (vi (ablM σ.h.P σ.m.st)), some (vi (attL f can s).1), some (vi (attL f can s).2), some (vi s), l9] [] N := by
          intro r
          induction r with
          | zero =>
            intro s N l9 hs' hN
            obtain rfl : s = 32 := by omega
            refine AW.run ck_H_attempt [95] 10 53 ?_
            simp only [wR, wB, wE0, wE1, wE2, wE3, g0, gS, s10, s11, s1S, s20, s21, s2S, kl0, kl1, kl2, kl3, sp0, sp1, sp2, sp3, cn1, cn2, cn3, cn4, cn5, cn6, jJa, lk0, lk1, jmS, jmN, s4_0, s4_1, s4_2, s4_3, s4_4, sw0, sw1, cKs, cKn, true_and, and_true, List.map_cons, List.map_nil, Nat.reduceAdd, Nat.zero_add, Int.reduceAdd, Nat.reduceEqDiff, reduceIte, Classical.not_not, b_H_attempt]
            subst hQ
            have := hR.q57 hzz ((u1.mono (by simp)).trans hN)
            have h1 := this.1
            have h2 := this.2
            (repeat' (first | omega | exact ⟨by omega, by omega⟩ | (with_reducible exact Or.inr trivial) | (with_reducible exact Or.inl trivial) | (with_reducible assumption) | (with_reducible exact Same.refl) | (with_reducible rfl) | (with_reducible refine And.intro ?_ ?_) | (with_reducible intro _)))
          | succ r ih =>
            intro s N l9 hs' hN
            have hat := attL_in (f := f) (can := can) hfle s
            have hcs : can s = decide (s &&& (31 ^^^ ablM σ.h.P σ.m.st) = 0) := by rw [← hcan]
            have a95 : ∀ (K : AM) (x y : Int) (l9 : Option AV), x = (attL f can (s + 1)).1 → y = (attL f can (s + 1)).2 → Same [57, z + 7, z + 8] M1 K → AW G d mi_H_attempt Q 95 [some (vr 0), some (vi i), some (vi n), some (vi (aRT σ i n)), some (vi cand), some (vi (ablM σ.h.P σ.m.st)), some (vi x), some (vi y), some (vi s), l9] [] K := by
              intro K x y l9 hx hy hK
              refine AW.run ck_H_attempt [53] 10 95 ?_
              simp only [wR, wB, wE0, wE1, wE2, wE3, g0, gS, s10, s11, s1S, s20, s21, s2S, kl0, kl1, kl2, kl3, sp0, sp1, sp2, sp3, cn1, cn2, cn3, cn4, cn5, cn6, jJa, lk0, lk1, jmS, jmN, s4_0, s4_1, s4_2, s4_3, s4_4, sw0, sw1, cKs, cKn, true_and, and_true, List.map_cons, List.map_nil, Nat.reduceAdd, Nat.zero_add, Int.reduceAdd, Nat.reduceEqDiff, reduceIte, Classical.not_not, b_H_attempt, ce]
              (repeat' (first | omega | exact ⟨by omega, by omega⟩ | (with_reducible exact Or.inr trivial) | (with_reducible exact Or.inl trivial) | (with_reducible assumption) | (with_reducible exact Same.refl) | (with_reducible rfl) | (with_reducible refine And.intro ?_ ?_) | (with_reducible intro _)))
              rw [hx, hy]
              exact ih (s + 1) K _ (by omega) hK
            refine AW.run ck_H_attempt [95] 10 53 ?_
            simp only [wR, wB, wE0, wE1, wE2, wE3, g0, gS, s10, s11, s1S, s20, s21, s2S, kl0, kl1, kl2, kl3, sp0, sp1, sp2, sp3, cn1, cn2, cn3, cn4, cn5, cn6, jJa, lk0, lk1, jmS, jmN, s4_0, s4_1, s4_2, s4_3, s4_4, sw0, sw1, cKs, cKn, true_and, and_true, List.map_cons, List.map_nil, Nat.reduceAdd, Nat.zero_add, Int.reduceAdd, Nat.reduceEqDiff, reduceIte, Classical.not_not, b_H_attempt, shH, bAndN_n (show s < 32 by omega) hab]
            by_cases qs : s &&& (31 ^^^ ablM σ.h.P σ.m.st) = 0
            · (repeat' (first | omega | exact ⟨by omega, by omega⟩ | (with_reducible exact Or.inr trivial) | (with_reducible exact Or.inl trivial) | (with_reducible assumption) | (with_reducible exact Same.refl) | (with_reducible rfl) | (with_reducible refine And.intro ?_ ?_) | (with_reducible intro _)))
              refine (c_H_mostAlike (d := d - 1) (by omega) ok (hs1.eq (fun x hx => hN x (by (first | decide | (simp only [List.mem_cons, List.not_mem_nil, or_false, not_or, not_false_eq_true, and_true]; omega) | (simp [List.mem_cons]; done))))) (hM1.eq (hN _ (by (first | decide | (simp only [List.mem_cons, List.not_mem_nil, or_false, not_or, not_false_eq_true, and_true]; omega) | (simp [List.mem_cons]; done)))) (hN _ (by (first | decide | (simp only [List.mem_cons, List.not_mem_nil, or_false, not_or, not_false_eq_true, and_true]; omega) | (simp [List.mem_cons]; done))))) hcl (by omega)).mono ?_
              rintro r' M2 okM2 ⟨rfl, u2⟩
              have ef : alkC cand (codA σ s) 10 = f s := by rw [← hff]
              rw [ef]
              have hfs := hfle s
              simp only [wR, wB, wE0, wE1, wE2, wE3, g0, gS, s10, s11, s1S, s20, s21, s2S, kl0, kl1, kl2, kl3, sp0, sp1, sp2, sp3, cn1, cn2, cn3, cn4, cn5, cn6, jJa, lk0, lk1, jmS, jmN, s4_0, s4_1, s4_2, s4_3, s4_4, sw0, sw1, cKs, cKn, true_and, and_true, List.map_cons, List.map_nil, Nat.reduceAdd, Nat.zero_add, Int.reduceAdd, Nat.reduceEqDiff, reduceIte, Classical.not_not, b_H_attempt, shH]
              by_cases ql : f s < (attL f can s).2
              · have e : attL f can (s + 1) = ((s : Int), f s) := by simp only [attL]; rw [if_pos ⟨by rw [hcs, decide_eq_true_eq]; exact qs, ql⟩]
                have := a95 M2 (s : Int) (f s : Int) (some (vi (f s))) (by rw [e]) (by rw [e]) (hN.trans u2)
                (repeat' (first | omega | exact ⟨by omega, by omega⟩ | (with_reducible exact Or.inr trivial) | (with_reducible exact Or.inl trivial) | (with_reducible assumption) | (with_reducible exact Same.refl) | (with_reducible rfl) | (with_reducible refine And.intro ?_ ?_) | (with_reducible intro _)))
              · have e : attL f can (s + 1) = attL f can s := by simp only [attL]; rw [if_neg (fun h => ql h.2)]
                have := a95 M2 (attL f can s).1 (attL f can s).2 (some (vi (f s))) (by rw [e]) (by rw [e]) (hN.trans u2)
                (repeat' (first | omega | exact ⟨by omega, by omega⟩ | (with_reducible exact Or.inr trivial) | (with_reducible exact Or.inl trivial) | (with_reducible assumption) | (with_reducible exact Same.refl) | (with_reducible rfl) | (with_reducible refine And.intro ?_ ?_) | (with_reducible intro _)))
            · have e : attL f can (s + 1) = attL f can s := by simp only [attL]; rw [if_neg (fun h => qs (by have := h.1; rw [hcs, decide_eq_true_eq] at this; exact this))]
              have := a95 N (attL f can s).1 (attL f can s).2 l9 (by rw [e]) (by rw [e]) hN
              (repeat' (first | omega | exact ⟨by omega, by omega⟩ | (with_reducible exact Or.inr trivial) | (with_reducible exact Or.inl trivial) | (with_reducible assumption) | (with_reducible exact Same.refl) | (with_reducible rfl) | (with_reducible refine And.intro ?_ ?_) | (with_reducible intro _)))
        have := loop 32 0 M1 none (by omega) Same.refl
        exact this
    · rw [if_neg hp] at q; omega
  · (repeat' (first | omega | exact ⟨by omega, by omega⟩ | (with_reducible exact Or.inr trivial) | (with_reducible exact Or.inl trivial) | (with_reducible assumption) | (with_reducible exact Same.refl) | (with_reducible rfl) | (with_reducible refine And.intro ?_ ?_) | (with_reducible intro _)))
    subst hQ
    unfold aAttempt
    rw [if_neg q]
    exact ⟨rfl, hR, Hi.refl⟩
end CC3
