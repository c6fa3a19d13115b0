theorem bit_side {h : Hl} {sd : Nat → Nat} {s m k p : Nat} (hP : h.P ≤ 5) (hm : m < 32) (hs : sbM (ablS h.P s &&& sideS sd h.P k) m) (hp : m / 2 ^ p % 2 = 1) : sd p = k := by
  have h1 := (and_bit.mp ((sub_iff hm (Nat.lt_of_le_of_lt Nat.and_le_left (bitsP32 hP))).mp hs p hp)).2
  unfold sideS at h1
  rw [bitsP_bit] at h1
  by_cases q : p < h.P ∧ decide (sd p = k) = true
  · simpa using q.2
  · rw [if_neg q] at h1; omega
theorem hands_or {h : Hl} {sd : Nat → Nat} {cold s own ans : Nat} (hP : h.P ≤ 5) (ho : own < 32) (ha : ans < 32) (h1 : sbM (mO h sd s) own) (h2 : sbM (mA h sd s) ans) : hands h sd cold s (own ||| ans) 0 = hands h sd cold s own 0 ∧ hands h sd cold s (own ||| ans) 1 = hands h sd cold s ans 1 := by
  have e : ∀ p, (own ||| ans) / 2 ^ p % 2 = 1 ↔ own / 2 ^ p % 2 = 1 ∨ ans / 2 ^ p % 2 = 1 := fun p => or_bit
  unfold hands
  constructor
  · refine cntP_congr _ (fun p hp => ?_)
    congr 1
    rw [decide_eq_decide, e p]
    constructor
    · rintro ⟨q | q, hs⟩
      · exact ⟨q, hs⟩
      · have := bit_side hP ha h2 q
        omega
    · rintro ⟨q, hs⟩
      exact ⟨Or.inl q, hs⟩
  · refine cntP_congr _ (fun p hp => ?_)
    congr 1
    rw [decide_eq_decide, e p]
    constructor
    · rintro ⟨q | q, hs⟩
      · have := bit_side hP ho h1 q
        omega
      · exact ⟨q, hs⟩
    · rintro ⟨q, hs⟩
      exact ⟨Or.inr q, hs⟩
theorem or_abl {h : Hl} {sd : Nat → Nat} {s own ans : Nat} (hP : h.P ≤ 5) (ho : own < 32) (ha : ans < 32) (h1 : sbM (mO h sd s) own) (h2 : sbM (mA h sd s) ans) : (own ||| ans) &&& (31 ^^^ ablS h.P s) = 0 := by
  have := (both_sub hP ho ha h1 h2).1
  rw [abW_all hP] at this
  exact (sub_iff (or_lt ho ha) (bitsP32 hP)).mpr this
theorem clB_of {h : Hl} {sd : Nat → Nat} {cold s0 : Nat} {l : List Nat} (hP : h.P ≤ 5) (H : isRc (okA h sd cold true) (nxt h sd cold) s0 l) : clB h sd cold l := by
  intro s own ans hs ho ha h1 h2 q1 q2
  refine (H.2 _).mpr (((H.2 _).mp hs).step (or_lt ho ha) ?_)
  obtain ⟨e1, e2⟩ := hands_or (cold := cold) hP ho ha h1 h2
  unfold okA
  rw [e1, e2]
  simp [or_abl hP ho ha h1 h2, q1, q2]
theorem clB_P {h : Hl} {sd : Nat → Nat} {cold s0 : Nat} {l : List Nat} (hP : h.P ≤ 5) (H : isRc (okP h.P (2 ^ h.P - 1)) (nxt h sd cold) s0 l) : clB h sd cold l := by
  intro s own ans hs ho ha h1 h2 q1 q2
  refine (H.2 _).mpr (((H.2 _).mp hs).step (or_lt ho ha) ?_)
  rw [okP_ev, decide_eq_true_eq]
  exact or_abl hP ho ha h1 h2
noncomputable def aOutcome (σ : Sg) : Int := sgI (VF 32 σ.h σ.m.sd σ.m.cold (cod σ.m.st σ.h.P))
noncomputable def aTells (σ : Sg) : Nat := telI σ.h σ.m.sd σ.m.cold (cod σ.m.st σ.h.P)
noncomputable def aEnds (σ : Sg) : Int := if VF 32 σ.h σ.m.sd σ.m.cold (cod σ.m.st σ.h.P) = 0 then -1 else 10000 - abI (VF 32 σ.h σ.m.sd σ.m.cold (cod σ.m.st σ.h.P))
/-- a duel done -/
def DuD (M : AM) (h : Hl) (sd : Nat → Nat) (cold s0 : Nat) : Prop := M 53 2 = s0 ∧ M 53 3 = telI h sd cold s0 ∧ M 54 s0 = sgI (VF 32 h sd cold s0) ∧ (VF 32 h sd cold s0 ≠ 0 → M 55 s0 = 10000 - abI (VF 32 h sd cold s0))
section FJ
variable {G : AG} {d : Nat} {M : AM}
set_option maxRecDepth 20000 in
theorem c_Du_fight {h : Hl} {sd : Nat → Nat} {cold s0 : Nat} {w : WS} (hd : 16 ≤ d) (hok : HlOK h) (hS : StOK M h sd cold (2 ^ h.P - 1)) (hw : WK M w) (hw5 : ∀ s, s ∈ w.l → s < 5 ^ h.P) (hs : s0 ∈ w.l) (hcl : clB h sd cold w.l) :
    MS G d mi_Du_fight [vr 53, vr 33, vr 49, vi s0] M (fun r M' => r = none ∧ DuD M' h sd cold s0 ∧ StOK M' h sd cold (2 ^ h.P - 1) ∧ Same [33, 53, 54, 55] M M') := by
  have hP := hok.1
  have h5 := p5 hP
  have hlen := len_lt hw.2.2.2.2.1 hw.2.2.2.2.2
  have hs3 := hw.2.2.2.2.2 s0 hs
  refine MS.by ck_Du_fight [some (vr 53), some (vr 33), some (vr 49), some (vi s0), none, none] fun _ _ => ?_
  generalize hQ : (fun (r : Option AV) (M' : AM) => r = none ∧ DuD M' h sd cold s0 ∧ StOK M' h sd cold (2 ^ h.P - 1) ∧ Same [33, 53, 54, 55] M M') = Q
  have a78 : ∀ (r : Nat) (N : AM) (l4 l5 : Option AV), RdD h sd cold r s0 w.l → DU N w.l (VV 32 h sd cold r) → N 53 2 = s0 → StOK N h sd cold (2 ^ h.P - 1) → Same [33, 53, 54, 55] M N → AW G d mi_Du_fight Q 78 [some (vr 53), some (vr 33), some (vr 49), some (vi s0), l4, l5] [] N := by
    intro r N l4 l5 hR hD h2 hSN hN
    refine AW.run ck_Du_fight [] 10 78 ?_
    simp only [wR, wB, wE0, wE1, wE2, wE3, g0, gS, s10, s11, s1S, s20, s21, s2S, kl0, kl1, kl2, kl3, sp0, sp1, sp2, sp3, cn1, cn2, cn3, cn4, cn5, cn6, jJa, lk0, lk1, jmS, jmN, s4_0, s4_1, s4_2, s4_3, s4_4, sw0, sw1, cKs, cKn, true_and, and_true, List.map_cons, List.map_nil, Nat.reduceAdd, Nat.zero_add, Int.reduceAdd, Nat.reduceEqDiff, reduceIte, Classical.not_not, b_Du_fight, shDu]
    refine ⟨by omega, (c_Du_firstBest (d := d - 1) (by omega) hok hSN hD hR hcl hlen hs (hw5 s0 hs) h2).mono ?_⟩
    rintro r' K okK ⟨rfl, u1, u2⟩
    simp only [wR, wB, wE0, wE1, wE2, wE3, g0, gS, s10, s11, s1S, s20, s21, s2S, kl0, kl1, kl2, kl3, sp0, sp1, sp2, sp3, cn1, cn2, cn3, cn4, cn5, cn6, jJa, lk0, lk1, jmS, jmN, s4_0, s4_1, s4_2, s4_3, s4_4, sw0, sw1, cKs, cKn, true_and, and_true, List.map_cons, List.map_nil, Nat.reduceAdd, Nat.zero_add, Int.reduceAdd, Nat.reduceEqDiff, reduceIte, Classical.not_not, b_Du_fight, shDu]
    obtain ⟨d1, d2⟩ := hD s0 hs
    subst hQ
    have hv := hR.2.1
    refine ⟨rfl, ⟨?_, ?_, ?_, fun hne => ?_⟩, u1.same (ps := [53]) (Same.refl.up (by simp)) (fun x h1 h2 => by (first | decide | (simp only [List.mem_cons, List.not_mem_nil, or_false, not_or, not_false_eq_true, and_true]; omega) | (simp [List.mem_cons]; done))), (hN.trans (u2.mono (by simp))).up (by simp)⟩
    · rw [up_ne2 (by omega), u2.at 53 _ (by (first | decide | (simp only [List.mem_cons, List.not_mem_nil, or_false, not_or, not_false_eq_true, and_true]; omega) | (simp [List.mem_cons]; done)))]; exact h2
    · rw [up_eq]
    · rw [up_ne1 (by omega), u2.at 54 _ (by (first | decide | (simp only [List.mem_cons, List.not_mem_nil, or_false, not_or, not_false_eq_true, and_true]; omega) | (simp [List.mem_cons]; done))), hv]; exact d1
    · rw [up_ne1 (by omega), u2.at 55 _ (by (first | decide | (simp only [List.mem_cons, List.not_mem_nil, or_false, not_or, not_false_eq_true, and_true]; omega) | (simp [List.mem_cons]; done))), hv]; exact d2 (by rw [← hv]; exact hne)
  have loop : ∀ (k r b : Nat) (N : AM), r + k = 3125 → b ≤ 1 → (b = 1 → r ≤ cntL h sd cold r w.l) → (b = 0 → ∃ r', r = r' + 1 ∧ ∀ s, s ∈ w.l → VV 32 h sd cold (r' + 1) s = VV 32 h sd cold r' s) → DU N w.l (VV 32 h sd cold r) → N 53 2 = s0 → StOK N h sd cold (2 ^ h.P - 1) → Same [33, 53, 54, 55] M N → AW G d mi_Du_fight Q 34 [some (vr 53), some (vr 33), some (vr 49), some (vi s0), some (vi b), some (vi ((r + 1 : Nat) : Int))] [] N := by
    as_aux_lemma =>
      intro k
      induction k with
      | zero =>
        intro r b N hk hb1 hc1 hc0 hD h2 hSN hN
        have hR : RdD h sd cold r s0 w.l := by
          refine ⟨by omega, ?_, ?_⟩
          · by_cases qz : VV 32 h sd cold r s0 = 0
            · by_cases qb : b = 1
              · have a1 := hc1 qb
                have a2 := cnt_lt hs qz
                omega
              · obtain ⟨r', e1, e2⟩ := hc0 (by omega)
                have := VF_fix hcl hlen (by omega) e2 s0 hs
                rw [this, e1, e2 s0 hs]
            · have := VV_st (N := 32) (by omega) qz (4000 - r) (by omega)
              rw [show r + (4000 - r) = 4000 by omega] at this
              exact this
          · intro e0 s hs'
            by_cases qb : b = 1
            · have a1 := hc1 qb
              have qz : VV 32 h sd cold r s0 = 0 := by
                refine Classical.byContradiction (fun hne => ?_)
                have := VV_st (N := 32) (by omega) hne (4000 - r) (by omega)
                rw [show r + (4000 - r) = 4000 by omega] at this
                have e' : VV 32 h sd cold 4000 s0 = 0 := e0
                rw [this] at e'
                exact hne e'
              have a2 := cnt_lt hs qz
              omega
            · obtain ⟨r', e1, e2⟩ := hc0 (by omega)
              have := VF_fix hcl hlen (by omega) e2 s hs'
              rw [this, e1, e2 s hs']
        have := a78 r N (some (vi b)) (some (vi ((r + 1 : Nat) : Int))) hR hD h2 hSN hN
        refine AW.run ck_Du_fight [78] 10 34 ?_
        simp only [wR, wB, wE0, wE1, wE2, wE3, g0, gS, s10, s11, s1S, s20, s21, s2S, kl0, kl1, kl2, kl3, sp0, sp1, sp2, sp3, cn1, cn2, cn3, cn4, cn5, cn6, jJa, lk0, lk1, jmS, jmN, s4_0, s4_1, s4_2, s4_3, s4_4, sw0, sw1, cKs, cKn, true_and, and_true, List.map_cons, List.map_nil, Nat.reduceAdd, Nat.zero_add, Int.reduceAdd, Nat.reduceEqDiff, reduceIte, Classical.not_not, b_Du_fight, shDu]
        (repeat' (first | omega | (with_reducible exact True.intro) | exact ⟨by omega, by omega⟩ | (with_reducible exact Or.inr trivial) | (with_reducible exact Or.inl trivial) | (with_reducible assumption) | (with_reducible exact Same.refl) | (with_reducible rfl) | (with_reducible refine And.intro ?_ ?_) | (with_reducible intro _)))
      | succ k ih =>
        intro r b N hk hb1 hc1 hc0 hD h2 hSN hN
        obtain ⟨d1, d2⟩ := hD s0 hs
        by_cases qb : b = 1
        · by_cases qz : VV 32 h sd cold r s0 = 0
          · have e0 : sgI (VV 32 h sd cold r s0) = 0 := by rw [qz]; rfl
            rw [e0] at d1
            have hwN : WK N w := hw.eq (hN.at 49 _ (by (first | decide | (simp only [List.mem_cons, List.not_mem_nil, or_false, not_or, not_false_eq_true, and_true]; omega) | (simp [List.mem_cons]; done)))) (hN 50 (by (first | decide | (simp only [List.mem_cons, List.not_mem_nil, or_false, not_or, not_false_eq_true, and_true]; omega) | (simp [List.mem_cons]; done)))) (hN 51 (by (first | decide | (simp only [List.mem_cons, List.not_mem_nil, or_false, not_or, not_false_eq_true, and_true]; omega) | (simp [List.mem_cons]; done)))) (hN 52 (by (first | decide | (simp only [List.mem_cons, List.not_mem_nil, or_false, not_or, not_false_eq_true, and_true]; omega) | (simp [List.mem_cons]; done))))
            subst qb
            refine AW.run ck_Du_fight [34, 78] 10 34 ?_
            simp only [wR, wB, wE0, wE1, wE2, wE3, g0, gS, s10, s11, s1S, s20, s21, s2S, kl0, kl1, kl2, kl3, sp0, sp1, sp2, sp3, cn1, cn2, cn3, cn4, cn5, cn6, jJa, lk0, lk1, jmS, jmN, s4_0, s4_1, s4_2, s4_3, s4_4, sw0, sw1, cKs, cKn, true_and, and_true, List.map_cons, List.map_nil, Nat.reduceAdd, Nat.zero_add, Int.reduceAdd, Nat.reduceEqDiff, reduceIte, Classical.not_not, b_Du_fight, shDu, h2, d1, nc1, Int.reduceEq, not_true_eq_false, not_false_eq_true, false_imp_iff, true_imp_iff, and_self]
            (repeat' (first | omega | (with_reducible exact True.intro) | exact ⟨by omega, by omega⟩ | (with_reducible exact Or.inr trivial) | (with_reducible exact Or.inl trivial) | (with_reducible assumption) | (with_reducible exact Same.refl) | (with_reducible rfl) | (with_reducible refine And.intro ?_ ?_) | (with_reducible intro _)))
            refine (c_Du_settleRound (d := d - 1) (by omega) hok hSN hwN hw5 hD (by omega) hcl).mono ?_
            rintro r' K okK ⟨⟨b', hb', rfl, hbi⟩, v1, v2, v3⟩
            have := ih (r + 1) b' K (by omega) hb' (fun e => by
              have a1 := hc1 rfl
              have a2 := cnt_up (by omega) (hbi.mp e)
              omega) (fun e => ⟨r, rfl, fun s hs' => Classical.byContradiction (fun hne => by
              have := hbi.mpr ⟨s, hs', hne⟩
              omega)⟩) v1 (by rw [v3.at 53 _ (by (first | decide | (simp only [List.mem_cons, List.not_mem_nil, or_false, not_or, not_false_eq_true, and_true]; omega) | (simp [List.mem_cons]; done)))]; exact h2) v2 (hN.trans (v3.mono (by simp)))
            simp only [wR, wB, wE0, wE1, wE2, wE3, g0, gS, s10, s11, s1S, s20, s21, s2S, kl0, kl1, kl2, kl3, sp0, sp1, sp2, sp3, cn1, cn2, cn3, cn4, cn5, cn6, jJa, lk0, lk1, jmS, jmN, s4_0, s4_1, s4_2, s4_3, s4_4, sw0, sw1, cKs, cKn, true_and, and_true, List.map_cons, List.map_nil, Nat.reduceAdd, Nat.zero_add, Int.reduceAdd, Nat.reduceEqDiff, reduceIte, Classical.not_not, b_Du_fight, ce]
            (repeat' (first | omega | (with_reducible exact True.intro) | exact ⟨by omega, by omega⟩ | (with_reducible exact Or.inr trivial) | (with_reducible exact Or.inl trivial) | (with_reducible assumption) | (with_reducible exact Same.refl) | (with_reducible rfl) | (with_reducible refine And.intro ?_ ?_) | (with_reducible intro _)))
          · have hsg : sgI (VV 32 h sd cold r s0) ≠ 0 := by
              generalize VV 32 h sd cold r s0 = y at *
              unfold sgI; (repeat' split) <;> omega
            have hR : RdD h sd cold r s0 w.l := by
              have := VV_st (N := 32) (by omega) qz (4000 - r) (by omega)
              rw [show r + (4000 - r) = 4000 by omega] at this
              refine ⟨by omega, this, fun e0 => ?_⟩
              have e' : VV 32 h sd cold 4000 s0 = 0 := e0
              rw [this] at e'
              exact absurd e' qz
            have := a78 r N (some (vi b)) (some (vi ((r + 1 : Nat) : Int))) hR hD h2 hSN hN
            generalize sgI (VV 32 h sd cold r s0) = y at d1 hsg
            refine AW.run ck_Du_fight [34, 78] 10 34 ?_
            simp only [wR, wB, wE0, wE1, wE2, wE3, g0, gS, s10, s11, s1S, s20, s21, s2S, kl0, kl1, kl2, kl3, sp0, sp1, sp2, sp3, cn1, cn2, cn3, cn4, cn5, cn6, jJa, lk0, lk1, jmS, jmN, s4_0, s4_1, s4_2, s4_3, s4_4, sw0, sw1, cKs, cKn, true_and, and_true, List.map_cons, List.map_nil, Nat.reduceAdd, Nat.zero_add, Int.reduceAdd, Nat.reduceEqDiff, reduceIte, Classical.not_not, b_Du_fight, shDu, h2, d1]
            (repeat' (first | omega | (with_reducible exact True.intro) | exact ⟨by omega, by omega⟩ | (with_reducible exact Or.inr trivial) | (with_reducible exact Or.inl trivial) | (with_reducible assumption) | (with_reducible exact Same.refl) | (with_reducible rfl) | (with_reducible refine And.intro ?_ ?_) | (with_reducible intro _)))
        · obtain rfl : b = 0 := by omega
          obtain ⟨r', e1, e2⟩ := hc0 rfl
          have hR : RdD h sd cold r s0 w.l := by
            have hall : ∀ s, s ∈ w.l → VF 32 h sd cold s = VV 32 h sd cold r s := fun s hs' => by
              have := VF_fix hcl hlen (by omega) e2 s hs'
              rw [this, e1, e2 s hs']
            exact ⟨by omega, hall s0 hs, fun _ => hall⟩
          have := a78 r N (some (vi 0)) (some (vi ((r + 1 : Nat) : Int))) hR hD h2 hSN hN
          refine AW.run ck_Du_fight [34, 78] 10 34 ?_
          simp only [wR, wB, wE0, wE1, wE2, wE3, g0, gS, s10, s11, s1S, s20, s21, s2S, kl0, kl1, kl2, kl3, sp0, sp1, sp2, sp3, cn1, cn2, cn3, cn4, cn5, cn6, jJa, lk0, lk1, jmS, jmN, s4_0, s4_1, s4_2, s4_3, s4_4, sw0, sw1, cKs, cKn, true_and, and_true, List.map_cons, List.map_nil, Nat.reduceAdd, Nat.zero_add, Int.reduceAdd, Nat.reduceEqDiff, reduceIte, Classical.not_not, b_Du_fight, shDu, nc0, Int.reduceEq, not_true_eq_false, not_false_eq_true, false_imp_iff, true_imp_iff, and_self]
          (repeat' (first | omega | (with_reducible exact True.intro) | exact ⟨by omega, by omega⟩ | (with_reducible exact Or.inr trivial) | (with_reducible exact Or.inl trivial) | (with_reducible assumption) | (with_reducible exact Same.refl) | (with_reducible rfl) | (with_reducible refine And.intro ?_ ?_) | (with_reducible intro _)))
  have a17 : AW G d mi_Du_fight Q 17 [some (vr 53), some (vr 33), some (vr 49), some (vi s0), none, none] [vi s0, vr 53] M := by
    refine AW.run ck_Du_fight [34] 10 17 ?_
    simp only [wR, wB, wE0, wE1, wE2, wE3, g0, gS, s10, s11, s1S, s20, s21, s2S, kl0, kl1, kl2, kl3, sp0, sp1, sp2, sp3, cn1, cn2, cn3, cn4, cn5, cn6, jJa, lk0, lk1, jmS, jmN, s4_0, s4_1, s4_2, s4_3, s4_4, sw0, sw1, cKs, cKn, true_and, and_true, List.map_cons, List.map_nil, Nat.reduceAdd, Nat.zero_add, Int.reduceAdd, Nat.reduceEqDiff, reduceIte, Classical.not_not, b_Du_fight, shDu]
    (repeat' (first | omega | (with_reducible exact True.intro) | exact ⟨by omega, by omega⟩ | (with_reducible exact Or.inr trivial) | (with_reducible exact Or.inl trivial) | (with_reducible assumption) | (with_reducible exact Same.refl) | (with_reducible rfl) | (with_reducible refine And.intro ?_ ?_) | (with_reducible intro _)))
    refine MS.to (c_JA_fill2 shDu.2.1.1) fun _ => ?_
    rw [shDu.2.1.2]
    have hfil : ∀ (K : AM), Same [54] K (fil K 54 0 3125 0) := fun K x hx => by
      funext y
      unfold fil
      rw [if_neg (fun e => hx (by simp [e.1]))]
    have hsame : Same [33, 53, 54, 55] M (fil (up M 53 2 s0) 54 0 3125 0) := by
      have h0 : Same [33, 53, 54, 55] M (up M 53 2 s0) := Same.refl.up (by simp)
      exact h0.trans ((hfil _).mono (by simp))
    have := loop 3125 0 1 (fil (up M 53 2 s0) 54 0 3125 0) (by omega) (by omega) (fun _ => Nat.zero_le _) (fun e => absurd e (by omega)) (fun s hs' => by
      have e0 : VV 32 h sd cold 0 s = 0 := by simp only [VV]
      have := hw.2.2.2.2.2 s hs'
      rw [e0]
      refine ⟨?_, fun hne => absurd rfl hne⟩
      unfold fil
      rw [if_pos (by omega)]; rfl) (by rw [(hfil _).at 53 _ (by (first | decide | (simp only [List.mem_cons, List.not_mem_nil, or_false, not_or, not_false_eq_true, and_true]; omega) | (simp [List.mem_cons]; done))), up_eq]) ((hS.same (ps := [53]) (Same.refl.up (by simp)) (fun x h1 h2 => by (first | decide | (simp only [List.mem_cons, List.not_mem_nil, or_false, not_or, not_false_eq_true, and_true]; omega) | (simp [List.mem_cons]; done)))).same (hfil _) (fun x h1 h2 => by (first | decide | (simp only [List.mem_cons, List.not_mem_nil, or_false, not_or, not_false_eq_true, and_true]; omega) | (simp [List.mem_cons]; done)))) hsame
    simp only [wR, wB, wE0, wE1, wE2, wE3, g0, gS, s10, s11, s1S, s20, s21, s2S, kl0, kl1, kl2, kl3, sp0, sp1, sp2, sp3, cn1, cn2, cn3, cn4, cn5, cn6, jJa, lk0, lk1, jmS, jmN, s4_0, s4_1, s4_2, s4_3, s4_4, sw0, sw1, cKs, cKn, true_and, and_true, List.map_cons, List.map_nil, Nat.reduceAdd, Nat.zero_add, Int.reduceAdd, Nat.reduceEqDiff, reduceIte, Classical.not_not, b_Du_fight]
    exact this
  refine AW.run ck_Du_fight [17] 10 0 ?_
  simp only [wR, wB, wE0, wE1, wE2, wE3, g0, gS, s10, s11, s1S, s20, s21, s2S, kl0, kl1, kl2, kl3, sp0, sp1, sp2, sp3, cn1, cn2, cn3, cn4, cn5, cn6, jJa, lk0, lk1, jmS, jmN, s4_0, s4_1, s4_2, s4_3, s4_4, sw0, sw1, cKs, cKn, true_and, and_true, List.map_cons, List.map_nil, Nat.reduceAdd, Nat.zero_add, Int.reduceAdd, Nat.reduceEqDiff, reduceIte, Classical.not_not, b_Du_fight, shDu]
  (repeat' (first | omega | (with_reducible exact True.intro) | exact ⟨by omega, by omega⟩ | (with_reducible exact Or.inr trivial) | (with_reducible exact Or.inl trivial) | (with_reducible assumption) | (with_reducible exact Same.refl) | (with_reducible rfl) | (with_reducible refine And.intro ?_ ?_) | (with_reducible intro _)))
theorem c_H_fight {B : Nat} {σ : Sg} (hd : 20 ≤ d) (ok : SgOK B σ) (hR : CR M σ) : MS G d mi_H_fight [vr 0] M (fun r M' => r = none ∧ DuD M' σ.h σ.m.sd σ.m.cold (cod σ.m.st σ.h.P) ∧ CR M' σ ∧ Hi M M') := by
  obtain ⟨z, hs, hM, hp, hT⟩ := hR.z
  have hok := ok.2.2.1
  have hP := hok.1
  have h32 := p2_32 hP
  have mok := ok.2.2.2.1.1
  have hz := hs.z
  have hzz := hs.2.2.1
  refine MS.run ck_H_fight [some (vr 0)] [] 10 fun _ _ => ?_
  simp only [wR, wB, wE0, wE1, wE2, wE3, g0, gS, s10, s11, s1S, s20, s21, s2S, kl0, kl1, kl2, kl3, sp0, sp1, sp2, sp3, cn1, cn2, cn3, cn4, cn5, cn6, jJa, lk0, lk1, jmS, jmN, s4_0, s4_1, s4_2, s4_3, s4_4, sw0, sw1, cKs, cKn, true_and, and_true, List.map_cons, List.map_nil, Nat.reduceAdd, Nat.zero_add, Int.reduceAdd, Nat.reduceEqDiff, reduceIte, Classical.not_not, b_H_fight, shH, hs.1, hz]
  refine ⟨by omega, MS.to (c_Ha_everyone hz hs.2.2.2.2.2.1 hP) fun _ => ?_⟩
  simp only [wR, wB, wE0, wE1, wE2, wE3, g0, gS, s10, s11, s1S, s20, s21, s2S, kl0, kl1, kl2, kl3, sp0, sp1, sp2, sp3, cn1, cn2, cn3, cn4, cn5, cn6, jJa, lk0, lk1, jmS, jmN, s4_0, s4_1, s4_2, s4_3, s4_4, sw0, sw1, cKs, cKn, true_and, and_true, List.map_cons, List.map_nil, Nat.reduceAdd, Nat.zero_add, Int.reduceAdd, Nat.reduceEqDiff, reduceIte, Classical.not_not, b_H_fight, shH]
  refine ⟨by omega, (c_St_aim (d := d - 1) (by omega) hz hok mok hs.2.2.2 hM hR.inv (all_lt hP)).mono ?_⟩
  rintro r M1 okM1 ⟨rfl, u1, u2'⟩
  have u2 : Scr M M1 := u2'.scr (by intro x hx; simp only [List.mem_cons, List.not_mem_nil, or_false] at hx; omega)
  simp only [wR, wB, wE0, wE1, wE2, wE3, g0, gS, s10, s11, s1S, s20, s21, s2S, kl0, kl1, kl2, kl3, sp0, sp1, sp2, sp3, cn1, cn2, cn3, cn4, cn5, cn6, jJa, lk0, lk1, jmS, jmN, s4_0, s4_1, s4_2, s4_3, s4_4, sw0, sw1, cKs, cKn, true_and, and_true, List.map_cons, List.map_nil, Nat.reduceAdd, Nat.zero_add, Int.reduceAdd, Nat.reduceEqDiff, reduceIte, Classical.not_not, b_H_fight, shH]
  refine ⟨by omega, MS.to (c_H_nowCode (d := d - 1) (by omega) (CR.cz hs u2) (hM.eq (u2 _ (by omega)) (u2 _ (by omega))) hP mok) fun _ => ?_⟩
  simp only [wR, wB, wE0, wE1, wE2, wE3, g0, gS, s10, s11, s1S, s20, s21, s2S, kl0, kl1, kl2, kl3, sp0, sp1, sp2, sp3, cn1, cn2, cn3, cn4, cn5, cn6, jJa, lk0, lk1, jmS, jmN, s4_0, s4_1, s4_2, s4_3, s4_4, sw0, sw1, cKs, cKn, true_and, and_true, List.map_cons, List.map_nil, Nat.reduceAdd, Nat.zero_add, Int.reduceAdd, Nat.reduceEqDiff, reduceIte, Classical.not_not, b_H_fight, shH]
  refine ⟨by omega, (c_Wk_spread (d := d - 1) (both := true) (n := -1) (goal := fun _ => false) (I := WInv (okA σ.h σ.m.sd σ.m.cold true) (nxt σ.h σ.m.sd σ.m.cold) (2 ^ σ.h.P) (cod σ.m.st σ.h.P)) (by omega) hok u1 (cod_5P (fun p => (mok.1 p).2)) (Or.inl ⟨rfl, fun _ => rfl⟩) WInv.start (fun i w hI hi _ => hI.step h32 hi)).mono ?_⟩
  rintro r M2 okM2 ⟨rfl, ⟨i, w, hI, hw, h5, hgoal⟩, v1, v2⟩
  have hsc := u2.trans (Scr.walk v2)
  rcases hgoal with ⟨_, hg, _⟩ | ⟨rfl, _⟩
  · cases hg
  have hrc := hI.done hw.2.2.2.2.1 (fun s set h1 h2 => okA_out hP h1 h2)
  simp only [wR, wB, wE0, wE1, wE2, wE3, g0, gS, s10, s11, s1S, s20, s21, s2S, kl0, kl1, kl2, kl3, sp0, sp1, sp2, sp3, cn1, cn2, cn3, cn4, cn5, cn6, jJa, lk0, lk1, jmS, jmN, s4_0, s4_1, s4_2, s4_3, s4_4, sw0, sw1, cKs, cKn, true_and, and_true, List.map_cons, List.map_nil, Nat.reduceAdd, Nat.zero_add, Int.reduceAdd, Nat.reduceEqDiff, reduceIte, Classical.not_not, b_H_fight, shH]
  refine ⟨by omega, MS.to (c_H_nowCode (d := d - 1) (by omega) (CR.cz hs hsc) (hM.eq (hsc _ (by omega)) (hsc _ (by omega))) hP mok) fun _ => ?_⟩
  simp only [wR, wB, wE0, wE1, wE2, wE3, g0, gS, s10, s11, s1S, s20, s21, s2S, kl0, kl1, kl2, kl3, sp0, sp1, sp2, sp3, cn1, cn2, cn3, cn4, cn5, cn6, jJa, lk0, lk1, jmS, jmN, s4_0, s4_1, s4_2, s4_3, s4_4, sw0, sw1, cKs, cKn, true_and, and_true, List.map_cons, List.map_nil, Nat.reduceAdd, Nat.zero_add, Int.reduceAdd, Nat.reduceEqDiff, reduceIte, Classical.not_not, b_H_fight, shH]
  refine ⟨by omega, (c_Du_fight (d := d - 1) (by omega) hok v1 hw h5 ((hrc.2 _).mpr Rc.refl) (clB_of hP hrc)).mono ?_⟩
  rintro r M3 okM3 ⟨rfl, w1, w2, w3⟩
  simp only [wR, wB, wE0, wE1, wE2, wE3, g0, gS, s10, s11, s1S, s20, s21, s2S, kl0, kl1, kl2, kl3, sp0, sp1, sp2, sp3, cn1, cn2, cn3, cn4, cn5, cn6, jJa, lk0, lk1, jmS, jmN, s4_0, s4_1, s4_2, s4_3, s4_4, sw0, sw1, cKs, cKn, true_and, and_true, List.map_cons, List.map_nil, Nat.reduceAdd, Nat.zero_add, Int.reduceAdd, Nat.reduceEqDiff, reduceIte, Classical.not_not, b_H_fight]
  have hsc3 : Scr M M3 := hsc.trans (w3.scr (by intro x hx; simp only [List.mem_cons, List.not_mem_nil, or_false] at hx; omega))
  exact ⟨w1, hR.aim hsc3 (fun p _ => (mok.1 p).1) w2, hsc3.hi⟩
theorem c_H_outcome {B : Nat} {σ : Sg} (hd : 25 ≤ d) (ok : SgOK B σ) (hR : CR M σ) : MS G d mi_H_outcome [vr 0] M (fun r M' => r = some (vi (aOutcome σ)) ∧ CR M' σ ∧ Hi M M') := by
  have hs3 := cod_100k ok.2.2.1 ok.2.2.2.1.1
  refine MS.run ck_H_outcome [some (vr 0)] [] 10 fun _ _ => ?_
  simp only [wR, wB, wE0, wE1, wE2, wE3, g0, gS, s10, s11, s1S, s20, s21, s2S, kl0, kl1, kl2, kl3, sp0, sp1, sp2, sp3, cn1, cn2, cn3, cn4, cn5, cn6, jJa, lk0, lk1, jmS, jmN, s4_0, s4_1, s4_2, s4_3, s4_4, sw0, sw1, cKs, cKn, true_and, and_true, List.map_cons, List.map_nil, Nat.reduceAdd, Nat.zero_add, Int.reduceAdd, Nat.reduceEqDiff, reduceIte, Classical.not_not, b_H_outcome, shH]
  refine ⟨by omega, (c_H_fight (d := d - 1) (by omega) ok hR).mono ?_⟩
  rintro r N okN ⟨rfl, ⟨d1, d2, d3, d4⟩, c1, c2⟩
  simp only [wR, wB, wE0, wE1, wE2, wE3, g0, gS, s10, s11, s1S, s20, s21, s2S, kl0, kl1, kl2, kl3, sp0, sp1, sp2, sp3, cn1, cn2, cn3, cn4, cn5, cn6, jJa, lk0, lk1, jmS, jmN, s4_0, s4_1, s4_2, s4_3, s4_4, sw0, sw1, cKs, cKn, true_and, and_true, List.map_cons, List.map_nil, Nat.reduceAdd, Nat.zero_add, Int.reduceAdd, Nat.reduceEqDiff, reduceIte, Classical.not_not, b_H_outcome, shH]
  have : MS G (d - 1) mi_Du_resultNow [vr 53] N (fun r M' => r = some (vi (aOutcome σ)) ∧ M' = N) := by
    refine MS.run ck_Du_resultNow [some (vr 53)] [] 10 fun _ _ => ?_
    simp only [wR, wB, wE0, wE1, wE2, wE3, g0, gS, s10, s11, s1S, s20, s21, s2S, kl0, kl1, kl2, kl3, sp0, sp1, sp2, sp3, cn1, cn2, cn3, cn4, cn5, cn6, jJa, lk0, lk1, jmS, jmN, s4_0, s4_1, s4_2, s4_3, s4_4, sw0, sw1, cKs, cKn, true_and, and_true, List.map_cons, List.map_nil, Nat.reduceAdd, Nat.zero_add, Int.reduceAdd, Nat.reduceEqDiff, reduceIte, Classical.not_not, b_Du_resultNow, shDu, d1, d3]
    unfold aOutcome
    (repeat' (first | omega | (with_reducible exact True.intro) | exact ⟨by omega, by omega⟩ | (with_reducible exact Or.inr trivial) | (with_reducible exact Or.inl trivial) | (with_reducible assumption) | (with_reducible exact Same.refl) | (with_reducible rfl) | (with_reducible refine And.intro ?_ ?_) | (with_reducible intro _)))
  refine ⟨by omega, MS.to this fun _ => ?_⟩
  simp only [wR, wB, wE0, wE1, wE2, wE3, g0, gS, s10, s11, s1S, s20, s21, s2S, kl0, kl1, kl2, kl3, sp0, sp1, sp2, sp3, cn1, cn2, cn3, cn4, cn5, cn6, jJa, lk0, lk1, jmS, jmN, s4_0, s4_1, s4_2, s4_3, s4_4, sw0, sw1, cKs, cKn, true_and, and_true, List.map_cons, List.map_nil, Nat.reduceAdd, Nat.zero_add, Int.reduceAdd, Nat.reduceEqDiff, reduceIte, Classical.not_not, b_H_outcome]
  exact ⟨c1, c2⟩
theorem c_H_tells {B : Nat} {σ : Sg} (hd : 25 ≤ d) (ok : SgOK B σ) (hR : CR M σ) : MS G d mi_H_tells [vr 0] M (fun r M' => r = some (vi (aTells σ)) ∧ CR M' σ ∧ Hi M M') := by
  refine MS.run ck_H_tells [some (vr 0)] [] 10 fun _ _ => ?_
  simp only [wR, wB, wE0, wE1, wE2, wE3, g0, gS, s10, s11, s1S, s20, s21, s2S, kl0, kl1, kl2, kl3, sp0, sp1, sp2, sp3, cn1, cn2, cn3, cn4, cn5, cn6, jJa, lk0, lk1, jmS, jmN, s4_0, s4_1, s4_2, s4_3, s4_4, sw0, sw1, cKs, cKn, true_and, and_true, List.map_cons, List.map_nil, Nat.reduceAdd, Nat.zero_add, Int.reduceAdd, Nat.reduceEqDiff, reduceIte, Classical.not_not, b_H_tells, shH]
  refine ⟨by omega, (c_H_fight (d := d - 1) (by omega) ok hR).mono ?_⟩
  rintro r N okN ⟨rfl, ⟨d1, d2, d3, d4⟩, c1, c2⟩
  simp only [wR, wB, wE0, wE1, wE2, wE3, g0, gS, s10, s11, s1S, s20, s21, s2S, kl0, kl1, kl2, kl3, sp0, sp1, sp2, sp3, cn1, cn2, cn3, cn4, cn5, cn6, jJa, lk0, lk1, jmS, jmN, s4_0, s4_1, s4_2, s4_3, s4_4, sw0, sw1, cKs, cKn, true_and, and_true, List.map_cons, List.map_nil, Nat.reduceAdd, Nat.zero_add, Int.reduceAdd, Nat.reduceEqDiff, reduceIte, Classical.not_not, b_H_tells, shH]
  have : MS G (d - 1) mi_Du_bestSet [vr 53] N (fun r M' => r = some (vi (aTells σ)) ∧ M' = N) := by
    refine MS.run ck_Du_bestSet [some (vr 53)] [] 10 fun _ _ => ?_
    simp only [wR, wB, wE0, wE1, wE2, wE3, g0, gS, s10, s11, s1S, s20, s21, s2S, kl0, kl1, kl2, kl3, sp0, sp1, sp2, sp3, cn1, cn2, cn3, cn4, cn5, cn6, jJa, lk0, lk1, jmS, jmN, s4_0, s4_1, s4_2, s4_3, s4_4, sw0, sw1, cKs, cKn, true_and, and_true, List.map_cons, List.map_nil, Nat.reduceAdd, Nat.zero_add, Int.reduceAdd, Nat.reduceEqDiff, reduceIte, Classical.not_not, b_Du_bestSet, shDu, d2]
    unfold aTells
    (repeat' (first | omega | (with_reducible exact True.intro) | exact ⟨by omega, by omega⟩ | (with_reducible exact Or.inr trivial) | (with_reducible exact Or.inl trivial) | (with_reducible assumption) | (with_reducible exact Same.refl) | (with_reducible rfl) | (with_reducible refine And.intro ?_ ?_) | (with_reducible intro _)))
  refine ⟨by omega, MS.to this fun _ => ?_⟩
  simp only [wR, wB, wE0, wE1, wE2, wE3, g0, gS, s10, s11, s1S, s20, s21, s2S, kl0, kl1, kl2, kl3, sp0, sp1, sp2, sp3, cn1, cn2, cn3, cn4, cn5, cn6, jJa, lk0, lk1, jmS, jmN, s4_0, s4_1, s4_2, s4_3, s4_4, sw0, sw1, cKs, cKn, true_and, and_true, List.map_cons, List.map_nil, Nat.reduceAdd, Nat.zero_add, Int.reduceAdd, Nat.reduceEqDiff, reduceIte, Classical.not_not, b_H_tells]
  exact ⟨c1, c2⟩
theorem c_H_ends {B : Nat} {σ : Sg} (hd : 25 ≤ d) (ok : SgOK B σ) (hR : CR M σ) : MS G d mi_H_ends [vr 0] M (fun r M' => r = some (vi (aEnds σ)) ∧ CR M' σ ∧ Hi M M') := by
  have hs3 := cod_100k ok.2.2.1 ok.2.2.2.1.1
  refine MS.run ck_H_ends [some (vr 0)] [] 10 fun _ _ => ?_
  simp only [wR, wB, wE0, wE1, wE2, wE3, g0, gS, s10, s11, s1S, s20, s21, s2S, kl0, kl1, kl2, kl3, sp0, sp1, sp2, sp3, cn1, cn2, cn3, cn4, cn5, cn6, jJa, lk0, lk1, jmS, jmN, s4_0, s4_1, s4_2, s4_3, s4_4, sw0, sw1, cKs, cKn, true_and, and_true, List.map_cons, List.map_nil, Nat.reduceAdd, Nat.zero_add, Int.reduceAdd, Nat.reduceEqDiff, reduceIte, Classical.not_not, b_H_ends, shH]
  refine ⟨by omega, (c_H_fight (d := d - 1) (by omega) ok hR).mono ?_⟩
  rintro r N okN ⟨rfl, ⟨d1, d2, d3, d4⟩, c1, c2⟩
  simp only [wR, wB, wE0, wE1, wE2, wE3, g0, gS, s10, s11, s1S, s20, s21, s2S, kl0, kl1, kl2, kl3, sp0, sp1, sp2, sp3, cn1, cn2, cn3, cn4, cn5, cn6, jJa, lk0, lk1, jmS, jmN, s4_0, s4_1, s4_2, s4_3, s4_4, sw0, sw1, cKs, cKn, true_and, and_true, List.map_cons, List.map_nil, Nat.reduceAdd, Nat.zero_add, Int.reduceAdd, Nat.reduceEqDiff, reduceIte, Classical.not_not, b_H_ends, shH]
  have : MS G (d - 1) mi_Du_hoursLeft [vr 53] N (fun r M' => r = some (vi (aEnds σ)) ∧ M' = N) := by
    refine MS.run ck_Du_hoursLeft [some (vr 53)] [] 10 fun _ _ => ?_
    unfold aEnds
    generalize VF 32 σ.h σ.m.sd σ.m.cold (cod σ.m.st σ.h.P) = v at d3 d4 ⊢
    by_cases q : v = 0
    · have e0 : sgI v = 0 := by rw [q]; rfl
      rw [e0] at d3
      rw [if_pos q]
      simp only [wR, wB, wE0, wE1, wE2, wE3, g0, gS, s10, s11, s1S, s20, s21, s2S, kl0, kl1, kl2, kl3, sp0, sp1, sp2, sp3, cn1, cn2, cn3, cn4, cn5, cn6, jJa, lk0, lk1, jmS, jmN, s4_0, s4_1, s4_2, s4_3, s4_4, sw0, sw1, cKs, cKn, true_and, and_true, List.map_cons, List.map_nil, Nat.reduceAdd, Nat.zero_add, Int.reduceAdd, Nat.reduceEqDiff, reduceIte, Classical.not_not, b_Du_hoursLeft, shDu, d1, d3, Int.reduceEq, not_true_eq_false, not_false_eq_true, false_imp_iff, true_imp_iff, and_self]
      (repeat' (first | omega | (with_reducible exact True.intro) | exact ⟨by omega, by omega⟩ | (with_reducible exact Or.inr trivial) | (with_reducible exact Or.inl trivial) | (with_reducible assumption) | (with_reducible exact Same.refl) | (with_reducible rfl) | (with_reducible refine And.intro ?_ ?_) | (with_reducible intro _)))
    · have hsg : sgI v ≠ 0 := by unfold sgI; (repeat' split) <;> omega
      have d4' := d4 q
      rw [if_neg q]
      generalize sgI v = y at d3 hsg
      simp only [wR, wB, wE0, wE1, wE2, wE3, g0, gS, s10, s11, s1S, s20, s21, s2S, kl0, kl1, kl2, kl3, sp0, sp1, sp2, sp3, cn1, cn2, cn3, cn4, cn5, cn6, jJa, lk0, lk1, jmS, jmN, s4_0, s4_1, s4_2, s4_3, s4_4, sw0, sw1, cKs, cKn, true_and, and_true, List.map_cons, List.map_nil, Nat.reduceAdd, Nat.zero_add, Int.reduceAdd, Nat.reduceEqDiff, reduceIte, Classical.not_not, b_Du_hoursLeft, shDu, d1, d3, d4']
      (repeat' (first | omega | (with_reducible exact True.intro) | exact ⟨by omega, by omega⟩ | (with_reducible exact Or.inr trivial) | (with_reducible exact Or.inl trivial) | (with_reducible assumption) | (with_reducible exact Same.refl) | (with_reducible rfl) | (with_reducible refine And.intro ?_ ?_) | (with_reducible intro _)))
  refine ⟨by omega, MS.to this fun _ => ?_⟩
  simp only [wR, wB, wE0, wE1, wE2, wE3, g0, gS, s10, s11, s1S, s20, s21, s2S, kl0, kl1, kl2, kl3, sp0, sp1, sp2, sp3, cn1, cn2, cn3, cn4, cn5, cn6, jJa, lk0, lk1, jmS, jmN, s4_0, s4_1, s4_2, s4_3, s4_4, sw0, sw1, cKs, cKn, true_and, and_true, List.map_cons, List.map_nil, Nat.reduceAdd, Nat.zero_add, Int.reduceAdd, Nat.reduceEqDiff, reduceIte, Classical.not_not, b_H_ends]
  exact ⟨c1, c2⟩
end FJ
