section DL2
variable {G : AG} {d : Nat} {M : AM}
set_option maxRecDepth 20000 in
theorem c_Du_lostIn {h : Hl} {sd : Nat → Nat} {cold s own : Nat} {l : List Nat} {U : Nat → Int} (hd : 5 ≤ d) (hok : HlOK h) (hS : StAt M h sd cold (2 ^ h.P - 1) s) (hD : DU M l U) (hU : ∀ x, -9999 ≤ U x ∧ U x ≤ 9999 ∧ U x ≠ 1 ∧ U x ≠ -1) (ho : own < 32) (hos : sbM (mO h sd s) own) (hcl : ∀ ans, ans < 32 → sbM (mA h sd s) ans → h.must ≤ hands h sd cold s own 0 → h.must ≤ hands h sd cold s ans 1 → nxt h sd cold s (own ||| ans) ∈ l) :
    MS G d mi_Du_lostIn [vr 53, vr 33, vi own] M (fun r M' => r = some (vi (if cmT 32 h sd cold U s own < 0 then 10000 + cmT 32 h sd cold U s own else 1000000)) ∧ M' = M) := by
  have hP := hok.1
  have hA := mA_lt (h := h) (sd := sd) (s := s) hP
  have hcin := cmT_in (N := 32) (h := h) (sd := sd) (cold := cold) (by omega) (V := U) (fun x => ⟨(hU x).1, (hU x).2.1⟩) s own
  have hge := fun (c : Int) (hc : c ≤ 268435456) => cmT_ge (N := 32) (h := h) (sd := sd) (cold := cold) (V := U) (s := s) (own := own) hc
  have hdef : cmT 32 h sd cold U s own = mnS (fun ans => gEnt h sd cold U s own ans) (mA h sd s) 32 := by unfold cmT; rfl
  refine MS.by ck_Du_lostIn [some (vr 53), some (vr 33), some (vi own), none, none, none, none, none, none] fun _ _ => ?_
  generalize hcc : cmT 32 h sd cold U s own = c at *
  generalize hQ : (fun (r : Option AV) (M' : AM) => r = some (vi (if c < 0 then 10000 + c else 1000000)) ∧ M' = M) = Q
  refine AW.run ck_Du_lostIn [30] 10 0 ?_
  simp only [wR, wB, wE0, wE1, wE2, wE3, g0, gS, s10, s11, s1S, s20, s21, s2S, kl0, kl1, kl2, kl3, sp0, sp1, sp2, sp3, cn1, cn2, cn3, cn4, cn5, cn6, jJa, lk0, lk1, jmS, jmN, s4_0, s4_1, s4_2, s4_3, s4_4, sw0, sw1, cKs, cKn, true_and, and_true, List.map_cons, List.map_nil, Nat.reduceAdd, Nat.zero_add, Int.reduceAdd, Nat.reduceEqDiff, reduceIte, Classical.not_not, b_Du_lostIn, shSt]
  refine ⟨by omega, MS.to (c_St_stand (d := d - 1) (side := 0) (by omega) hok hS ho (by omega)) fun _ => ?_⟩
  rw [pop_hands hP ho]
  have e6 : M 33 6 = ((ablS h.P s : Nat) : Int) := by rw [hS.2.1, abW_all hP]
  have e34 : M 34 1 = ((sideS sd h.P 1 : Nat) : Int) := hS.1.2.2.1.2.2.2.2.2.2.1
  have hab : ablS h.P s < 32 := bitsP32 hP
  generalize hst0 : (if h.must ≤ hands h sd cold s own 0 then (1 : Int) else 0) = x0
  have hx0 : (x0 = 1 ∧ h.must ≤ hands h sd cold s own 0) ∨ (x0 = 0 ∧ ¬ h.must ≤ hands h sd cold s own 0) := by
    by_cases q : h.must ≤ hands h sd cold s own 0
    · rw [if_pos q] at hst0; exact Or.inl ⟨hst0.symm, q⟩
    · rw [if_neg q] at hst0; exact Or.inr ⟨hst0.symm, q⟩
  have loop : ∀ (r ans i : Nat) (l8 : Option AV), ans + r = 31 → i ≤ ans → sbM (mA h sd s) ans → AW G d mi_Du_lostIn Q 30 [some (vr 53), some (vr 33), some (vi own), some (vi x0), some (vi (mA h sd s)), some (vi (if mnS (fun ans => gEnt h sd cold U s own ans) (mA h sd s) ans < 0 then 10000 + mnS (fun ans => gEnt h sd cold U s own ans) (mA h sd s) ans else 1000000)), some (vi ans), some (vi i), l8] [] M := by
    as_aux_lemma =>
      intro r
      induction r using Nat.strongRecOn with
      | ind r ih =>
        intro ans i l8 hr hi hsb
        have hst := mnS_st (f := fun ans => gEnt h sd cold U s own ans) hsb
        obtain ⟨n', n1, n2, n3, n4⟩ := next_M (show ans < 32 by omega) hA hsb
        have hskip := mnS_skip (f := fun ans => gEnt h sd cold U s own ans) (m := mA h sd s) (n := ans + 1) (n' - (ans + 1)) (fun y h1 h2 => n3 y h1 (by omega))
        rw [show ans + 1 + (n' - (ans + 1)) = n' by omega] at hskip
        have hein := ent_in (h := h) (sd := sd) (cold := cold) (fun x => ⟨(hU x).1, (hU x).2.1⟩) s own ans
        have hmge := (mnS_ge (f := fun ans => gEnt h sd cold U s own ans) (m := mA h sd s) (c := -9999) (by omega) ans).mpr (fun y _ _ => (ent_in (h := h) (sd := sd) (cold := cold) (fun x => ⟨(hU x).1, (hU x).2.1⟩) s own y).1)
        generalize hmp : mnS (fun ans => gEnt h sd cold U s own ans) (mA h sd s) ans = mp at hst hmge
        generalize hmn : mnS (fun ans => gEnt h sd cold U s own ans) (mA h sd s) (ans + 1) = mn at hst hskip
        have a93 : ∀ (x : Int) (l8 : Option AV), x = (if mn < 0 then 10000 + mn else 1000000) → AW G d mi_Du_lostIn Q 93 [some (vr 53), some (vr 33), some (vi own), some (vi x0), some (vi (mA h sd s)), some (vi x), some (vi ans), some (vi i), l8] [] M := by
          intro x l8 hx
          refine AW.run ck_Du_lostIn [30] 10 93 ?_
          simp only [wR, wB, wE0, wE1, wE2, wE3, g0, gS, s10, s11, s1S, s20, s21, s2S, kl0, kl1, kl2, kl3, sp0, sp1, sp2, sp3, cn1, cn2, cn3, cn4, cn5, cn6, jJa, lk0, lk1, jmS, jmN, s4_0, s4_1, s4_2, s4_3, s4_4, sw0, sw1, cKs, cKn, true_and, and_true, List.map_cons, List.map_nil, Nat.reduceAdd, Nat.zero_add, Int.reduceAdd, Nat.reduceEqDiff, reduceIte, Classical.not_not, b_Du_lostIn]
          refine ⟨by omega, MS.to (c_H_nextWithin (show ans < 32 by omega) hA) fun _ => ?_⟩
          rcases n4 with ⟨e1, e2⟩ | ⟨e1, e2, e3, e4⟩
          · rw [e1]
            simp only [wR, wB, wE0, wE1, wE2, wE3, g0, gS, s10, s11, s1S, s20, s21, s2S, kl0, kl1, kl2, kl3, sp0, sp1, sp2, sp3, cn1, cn2, cn3, cn4, cn5, cn6, jJa, lk0, lk1, jmS, jmN, s4_0, s4_1, s4_2, s4_3, s4_4, sw0, sw1, cKs, cKn, true_and, and_true, List.map_cons, List.map_nil, Nat.reduceAdd, Nat.zero_add, Int.reduceAdd, Nat.reduceEqDiff, reduceIte, Classical.not_not, b_Du_lostIn, nc0, Int.reduceEq, not_true_eq_false, not_false_eq_true, false_imp_iff, true_imp_iff, and_self]
            have hc : c = mn := by rw [hdef, ← hskip, e2]
            subst hQ
            rw [hx, hc]
            (repeat' (first | omega | (with_reducible exact True.intro) | exact ⟨by omega, by omega⟩ | (with_reducible exact Or.inr trivial) | (with_reducible exact Or.inl trivial) | (with_reducible assumption) | (with_reducible exact Same.refl) | (with_reducible rfl) | (with_reducible refine And.intro ?_ ?_) | (with_reducible intro _)))
          · have := ih (31 - n') (by omega) n' (i + 1) l8 (by omega) (by omega) e3
            rw [hskip, ← hx] at this
            rw [e1]
            simp only [wR, wB, wE0, wE1, wE2, wE3, g0, gS, s10, s11, s1S, s20, s21, s2S, kl0, kl1, kl2, kl3, sp0, sp1, sp2, sp3, cn1, cn2, cn3, cn4, cn5, cn6, jJa, lk0, lk1, jmS, jmN, s4_0, s4_1, s4_2, s4_3, s4_4, sw0, sw1, cKs, cKn, true_and, and_true, List.map_cons, List.map_nil, Nat.reduceAdd, Nat.zero_add, Int.reduceAdd, Nat.reduceEqDiff, reduceIte, Classical.not_not, b_Du_lostIn, ce]
            (repeat' (first | omega | (with_reducible exact True.intro) | exact ⟨by omega, by omega⟩ | (with_reducible exact Or.inr trivial) | (with_reducible exact Or.inl trivial) | (with_reducible assumption) | (with_reducible exact Same.refl) | (with_reducible rfl) | (with_reducible refine And.intro ?_ ?_) | (with_reducible intro _)))
        refine AW.run ck_Du_lostIn [93, 119] 10 30 ?_
        simp only [wR, wB, wE0, wE1, wE2, wE3, g0, gS, s10, s11, s1S, s20, s21, s2S, kl0, kl1, kl2, kl3, sp0, sp1, sp2, sp3, cn1, cn2, cn3, cn4, cn5, cn6, jJa, lk0, lk1, jmS, jmN, s4_0, s4_1, s4_2, s4_3, s4_4, sw0, sw1, cKs, cKn, true_and, and_true, List.map_cons, List.map_nil, Nat.reduceAdd, Nat.zero_add, Int.reduceAdd, Nat.reduceEqDiff, reduceIte, Classical.not_not, b_Du_lostIn, shSt]
        (repeat' (first | omega | (with_reducible exact True.intro) | exact ⟨by omega, by omega⟩ | (with_reducible exact Or.inr trivial) | (with_reducible exact Or.inl trivial) | (with_reducible assumption) | (with_reducible exact Same.refl) | (with_reducible rfl) | (with_reducible refine And.intro ?_ ?_) | (with_reducible intro _)))
        refine MS.to (c_St_stand (d := d - 1) (side := 1) (by omega) hok hS (show ans < 32 by omega) (by omega)) fun _ => ?_
        rw [pop_hands hP (by omega)]
        simp only [wR, wB, wE0, wE1, wE2, wE3, g0, gS, s10, s11, s1S, s20, s21, s2S, kl0, kl1, kl2, kl3, sp0, sp1, sp2, sp3, cn1, cn2, cn3, cn4, cn5, cn6, jJa, lk0, lk1, jmS, jmN, s4_0, s4_1, s4_2, s4_3, s4_4, sw0, sw1, cKs, cKn, true_and, and_true, List.map_cons, List.map_nil, Nat.reduceAdd, Nat.zero_add, Int.reduceAdd, Nat.reduceEqDiff, reduceIte, Classical.not_not, b_Du_lostIn, shSt]
        by_cases q1 : h.must ≤ hands h sd cold s ans 1
        · rw [if_pos q1]
          obtain ⟨hb1, hb2⟩ := both_sub hP ho (show ans < 32 by omega) hos hsb
          have hnl : nxt h sd cold s (own ||| ans) < 3125 := nxt_lt hok
          simp only [wR, wB, wE0, wE1, wE2, wE3, g0, gS, s10, s11, s1S, s20, s21, s2S, kl0, kl1, kl2, kl3, sp0, sp1, sp2, sp3, cn1, cn2, cn3, cn4, cn5, cn6, jJa, lk0, lk1, jmS, jmN, s4_0, s4_1, s4_2, s4_3, s4_4, sw0, sw1, cKs, cKn, true_and, and_true, List.map_cons, List.map_nil, Nat.reduceAdd, Nat.zero_add, Int.reduceAdd, Nat.reduceEqDiff, reduceIte, Classical.not_not, bOr_n (show own < 2 ^ 31 by omega) (show ans < 2 ^ 31 by omega)]
          (repeat' (first | omega | (with_reducible exact True.intro) | exact ⟨by omega, by omega⟩ | (with_reducible exact Or.inr trivial) | (with_reducible exact Or.inl trivial) | (with_reducible assumption) | (with_reducible exact Same.refl) | (with_reducible rfl) | (with_reducible refine And.intro ?_ ?_) | (with_reducible intro _)))
          refine MS.to (c_St_to hok hS hb2 hb1) fun _ => ?_
          rw [nxW_all hP]
          simp only [wR, wB, wE0, wE1, wE2, wE3, g0, gS, s10, s11, s1S, s20, s21, s2S, kl0, kl1, kl2, kl3, sp0, sp1, sp2, sp3, cn1, cn2, cn3, cn4, cn5, cn6, jJa, lk0, lk1, jmS, jmN, s4_0, s4_1, s4_2, s4_3, s4_4, sw0, sw1, cKs, cKn, true_and, and_true, List.map_cons, List.map_nil, Nat.reduceAdd, Nat.zero_add, Int.reduceAdd, Nat.reduceEqDiff, reduceIte, Classical.not_not, b_Du_lostIn, shDu]
          refine ⟨by omega, MS.to (c_Du_inOrZero hnl) fun _ => ?_⟩
          rcases hx0 with ⟨e0, q0⟩ | ⟨e0, q0⟩
          · have hent' : gEnt h sd cold U s own ans = hlI (U (nxt h sd cold s (own ||| ans))) := by unfold gEnt; rw [if_pos q0, if_pos q1]
            have hm := hcl ans (by omega) hsb q0 q1
            obtain ⟨d1, d2⟩ := hD _ hm
            have hUx := hU (nxt h sd cold s (own ||| ans))
            generalize hu : U (nxt h sd cold s (own ||| ans)) = u at hent' d1 d2 hUx
            simp only [wR, wB, wE0, wE1, wE2, wE3, g0, gS, s10, s11, s1S, s20, s21, s2S, kl0, kl1, kl2, kl3, sp0, sp1, sp2, sp3, cn1, cn2, cn3, cn4, cn5, cn6, jJa, lk0, lk1, jmS, jmN, s4_0, s4_1, s4_2, s4_3, s4_4, sw0, sw1, cKs, cKn, true_and, and_true, List.map_cons, List.map_nil, Nat.reduceAdd, Nat.zero_add, Int.reduceAdd, Nat.reduceEqDiff, reduceIte, Classical.not_not, b_Du_lostIn, shDu, d1]
            by_cases qu : u < 0
            · have e1 : sgI u = -1 := by unfold sgI; rw [if_neg (by omega), if_pos qu]
              have e2 : abI u = -u := by unfold abI; rw [if_pos qu]
              have e3 : hlI u = u + 1 := by unfold hlI; rw [if_neg (by omega), if_pos qu]
              rw [e2] at d2
              have d2' := d2 (by omega)
              rw [e3] at hent'
              rw [e1]
              simp only [wR, wB, wE0, wE1, wE2, wE3, g0, gS, s10, s11, s1S, s20, s21, s2S, kl0, kl1, kl2, kl3, sp0, sp1, sp2, sp3, cn1, cn2, cn3, cn4, cn5, cn6, jJa, lk0, lk1, jmS, jmN, s4_0, s4_1, s4_2, s4_3, s4_4, sw0, sw1, cKs, cKn, true_and, and_true, List.map_cons, List.map_nil, Nat.reduceAdd, Nat.zero_add, Int.reduceAdd, Nat.reduceEqDiff, reduceIte, Classical.not_not, d2', Int.reduceEq, not_true_eq_false, not_false_eq_true, false_imp_iff, true_imp_iff, and_self]
              have := a93 (if mn < 0 then 10000 + mn else 1000000) (some (vi (nxt h sd cold s (own ||| ans)))) rfl
              have emin : (if 10000 - -u + 1 < (if mp < 0 then 10000 + mp else 1000000) then 10000 - -u + 1 else (if mp < 0 then 10000 + mp else 1000000)) = (if mn < 0 then 10000 + mn else 1000000) := by
                rw [hst, hent']
                (repeat' split) <;> omega
              first
                | (rw [emin]; (repeat' (first | omega | (with_reducible exact True.intro) | exact ⟨by omega, by omega⟩ | (with_reducible exact Or.inr trivial) | (with_reducible exact Or.inl trivial) | (with_reducible assumption) | (with_reducible exact Same.refl) | (with_reducible rfl) | (with_reducible refine And.intro ?_ ?_) | (with_reducible intro _))))
                | (trace_state; (repeat' (first | omega | (with_reducible exact True.intro) | exact ⟨by omega, by omega⟩ | (with_reducible exact Or.inr trivial) | (with_reducible exact Or.inl trivial) | (with_reducible assumption) | (with_reducible exact Same.refl) | (with_reducible rfl) | (with_reducible refine And.intro ?_ ?_) | (with_reducible intro _))))
            · have e1 : sgI u ≠ -1 := by unfold sgI; (repeat' split) <;> omega
              have hnn : 0 ≤ gEnt h sd cold U s own ans := by
                rw [hent']
                unfold hlI
                (repeat' split) <;> omega
              have := a93 (if mp < 0 then 10000 + mp else 1000000) (some (vi (nxt h sd cold s (own ||| ans)))) (by rw [hst]; (repeat' split) <;> omega)
              (repeat' (first | omega | (with_reducible exact True.intro) | exact ⟨by omega, by omega⟩ | (with_reducible exact Or.inr trivial) | (with_reducible exact Or.inl trivial) | (with_reducible assumption) | (with_reducible exact Same.refl) | (with_reducible rfl) | (with_reducible refine And.intro ?_ ?_) | (with_reducible intro _)))
          · have hent' : gEnt h sd cold U s own ans = -9999 := by unfold gEnt; rw [if_neg q0, if_pos q1]
            have hc : c = -9999 := by
              have : ¬ (-9998 : Int) ≤ c := by
                intro hc
                have := (hge (-9998) (by omega)).mp hc ans (by omega) hsb
                omega
              omega
            subst e0
            simp only [wR, wB, wE0, wE1, wE2, wE3, g0, gS, s10, s11, s1S, s20, s21, s2S, kl0, kl1, kl2, kl3, sp0, sp1, sp2, sp3, cn1, cn2, cn3, cn4, cn5, cn6, jJa, lk0, lk1, jmS, jmN, s4_0, s4_1, s4_2, s4_3, s4_4, sw0, sw1, cKs, cKn, true_and, and_true, List.map_cons, List.map_nil, Nat.reduceAdd, Nat.zero_add, Int.reduceAdd, Nat.reduceEqDiff, reduceIte, Classical.not_not, b_Du_lostIn, Int.reduceEq, not_true_eq_false, not_false_eq_true, false_imp_iff, true_imp_iff, and_self]
            subst hQ
            rw [hc]
            (repeat' (first | omega | (with_reducible exact True.intro) | exact ⟨by omega, by omega⟩ | (with_reducible exact Or.inr trivial) | (with_reducible exact Or.inl trivial) | (with_reducible assumption) | (with_reducible exact Same.refl) | (with_reducible rfl) | (with_reducible refine And.intro ?_ ?_) | (with_reducible intro _)))
            all_goals rfl
        · rw [if_neg q1]
          have hent' : 0 ≤ gEnt h sd cold U s own ans := by
            unfold gEnt
            rw [if_neg q1, if_neg q1]
            split <;> omega
          have := a93 (if mp < 0 then 10000 + mp else 1000000) l8 (by rw [hst]; (repeat' split) <;> omega)
          (repeat' (first | omega | (with_reducible exact True.intro) | exact ⟨by omega, by omega⟩ | (with_reducible exact Or.inr trivial) | (with_reducible exact Or.inl trivial) | (with_reducible assumption) | (with_reducible exact Same.refl) | (with_reducible rfl) | (with_reducible refine And.intro ?_ ?_) | (with_reducible intro _)))
  have h0 : mnS (fun ans => gEnt h sd cold U s own ans) (mA h sd s) 0 = 268435456 := by simp only [mnS]
  have := loop 31 0 0 none (by omega) (by omega) (sbM_0 _)
  rw [h0, if_neg (by omega)] at this
  simp only [wR, wB, wE0, wE1, wE2, wE3, g0, gS, s10, s11, s1S, s20, s21, s2S, kl0, kl1, kl2, kl3, sp0, sp1, sp2, sp3, cn1, cn2, cn3, cn4, cn5, cn6, jJa, lk0, lk1, jmS, jmN, s4_0, s4_1, s4_2, s4_3, s4_4, sw0, sw1, cKs, cKn, true_and, and_true, List.map_cons, List.map_nil, Nat.reduceAdd, Nat.zero_add, Int.reduceAdd, Nat.reduceEqDiff, reduceIte, Classical.not_not, b_Du_lostIn, shSt, e6, e34, bAnd_n (show ablS h.P s < 2 ^ 31 by omega)]
  rw [show ablS h.P s &&& sideS sd h.P 1 = mA h sd s from rfl]
  (repeat' (first | omega | (with_reducible exact True.intro) | exact ⟨by omega, by omega⟩ | (with_reducible exact Or.inr trivial) | (with_reducible exact Or.inl trivial) | (with_reducible assumption) | (with_reducible exact Same.refl) | (with_reducible rfl) | (with_reducible refine And.intro ?_ ?_) | (with_reducible intro _)))
  all_goals exact this
/-- what is on the way between two rounds -/
def MixU (h : Hl) (sd : Nat → Nat) (cold r : Nat) (U : Nat → Int) : Prop := ∀ x, U x = VV 32 h sd cold r x ∨ U x = VV 32 h sd cold (r + 1) x
theorem MixU.in {h : Hl} {sd : Nat → Nat} {cold r : Nat} {U : Nat → Int} (hr : r ≤ 4000) (H : MixU h sd cold r U) : ∀ x, -9999 ≤ U x ∧ U x ≤ 9999 ∧ U x ≠ 1 ∧ U x ≠ -1 := by
  intro x
  have a := VV_in (N := 32) (h := h) (sd := sd) (cold := cold) (by omega) r x
  have b := VV_in (N := 32) (h := h) (sd := sd) (cold := cold) (by omega) (r + 1) x
  have c := VV_2 (N := 32) (h := h) (sd := sd) (cold := cold) (by omega) r x (by omega)
  have e := VV_2 (N := 32) (h := h) (sd := sd) (cold := cold) (by omega) (r + 1) x (by omega)
  rcases H x with q | q
  · rw [q]
    generalize VV 32 h sd cold r x = y at *
    omega
  · rw [q]
    generalize VV 32 h sd cold (r + 1) x = y at *
    omega
theorem MixU.near {h : Hl} {sd : Nat → Nat} {cold r : Nat} {U : Nat → Int} (hr : r ≤ 4000) (H : MixU h sd cold r U) (x : Nat) : near (9998 - (r : Int) + 1) (VV 32 h sd cold r x) (U x) := by
  have p := VV_P (N := 32) (h := h) (sd := sd) (cold := cold) (by omega) r x (by omega)
  rcases H x with q | q
  · exact Or.inl q.symm
  · rw [q]
    rcases p with e | ⟨a, b, c⟩
    · exact Or.inl e.symm
    · exact Or.inr ⟨by omega, by omega, by omega, by omega⟩
theorem cmT_2 {h : Hl} {sd : Nat → Nat} {cold r s own : Nat} (hr : r ≤ 4000) : cmT 32 h sd cold (VV 32 h sd cold r) s own ≤ 0 ∨ 9999 - (r : Int) ≤ cmT 32 h sd cold (VV 32 h sd cold r) s own := by
  rcases Int.lt_or_le 0 (cmT 32 h sd cold (VV 32 h sd cold r) s own) with q | q
  · right
    have h1 := (cmT_ge (N := 32) (h := h) (sd := sd) (cold := cold) (V := VV 32 h sd cold r) (s := s) (own := own) (c := 1) (by omega)).mp (by omega)
    rw [cmT_ge (by omega)]
    intro ans a1 a2
    have h2 := h1 ans a1 a2
    have c := VV_2 (N := 32) (h := h) (sd := sd) (cold := cold) (by omega) r (nxt h sd cold s (own ||| ans)) (by omega)
    unfold gEnt hlI at h2 ⊢
    generalize VV 32 h sd cold r (nxt h sd cold s (own ||| ans)) = y at *
    (repeat' split at h2) <;> (repeat' split) <;> omega
  · exact Or.inl q
theorem cmT_2n {h : Hl} {sd : Nat → Nat} {cold r s own : Nat} (hr : r ≤ 4000) : 0 ≤ cmT 32 h sd cold (VV 32 h sd cold r) s own ∨ cmT 32 h sd cold (VV 32 h sd cold r) s own ≤ (r : Int) - 9999 := by
  rcases Int.lt_or_le ((r : Int) - 9999) (cmT 32 h sd cold (VV 32 h sd cold r) s own) with q | q
  · left
    have h1 := (cmT_ge (N := 32) (h := h) (sd := sd) (cold := cold) (V := VV 32 h sd cold r) (s := s) (own := own) (c := (r : Int) - 9998) (by omega)).mp (by omega)
    rw [cmT_ge (by omega)]
    intro ans a1 a2
    have h2 := h1 ans a1 a2
    have c := VV_2 (N := 32) (h := h) (sd := sd) (cold := cold) (by omega) r (nxt h sd cold s (own ||| ans)) (by omega)
    unfold gEnt hlI at h2 ⊢
    generalize VV 32 h sd cold r (nxt h sd cold s (own ||| ans)) = y at *
    (repeat' split at h2) <;> (repeat' split) <;> omega
  · exact Or.inr q
set_option maxRecDepth 20000 in
theorem c_Du_settled {h : Hl} {sd : Nat → Nat} {cold s r : Nat} {l : List Nat} {U : Nat → Int} (hd : 8 ≤ d) (hok : HlOK h) (hS : StAt M h sd cold (2 ^ h.P - 1) s) (hD : DU M l U) (hr : r ≤ 4000) (hU : MixU h sd cold r U) (hcl : ∀ own ans, own < 32 → ans < 32 → sbM (mO h sd s) own → sbM (mA h sd s) ans → h.must ≤ hands h sd cold s own 0 → h.must ≤ hands h sd cold s ans 1 → nxt h sd cold s (own ||| ans) ∈ l) :
    MS G d mi_Du_settled [vr 53, vr 33, vi ((r + 1 : Nat) : Int)] M (fun r' M' => r' = some (vi (sgI (VV 32 h sd cold (r + 1) s))) ∧ M' = M) := by
  have hP := hok.1
  have hO := mO_lt (h := h) (sd := sd) (s := s) hP
  have hUi := hU.in hr
  have hwon : ∀ own, own < 32 → sbM (mO h sd s) own → MS G (d - 1) mi_Du_wonIn [vr 53, vr 33, vi own] M (fun r M' => r = some (vi (if 0 < cmT 32 h sd cold U s own then 10000 - cmT 32 h sd cold U s own else 1000000)) ∧ M' = M) := fun own h1 h2 => c_Du_wonIn (d := d - 1) (by omega) hok hS hD hUi h1 h2 (fun ans a1 a2 => hcl own ans h1 a1 h2 a2)
  have hlost : ∀ own, own < 32 → sbM (mO h sd s) own → MS G (d - 1) mi_Du_lostIn [vr 53, vr 33, vi own] M (fun r M' => r = some (vi (if cmT 32 h sd cold U s own < 0 then 10000 + cmT 32 h sd cold U s own else 1000000)) ∧ M' = M) := fun own h1 h2 => c_Du_lostIn (d := d - 1) (by omega) hok hS hD hUi h1 h2 (fun ans a1 a2 => hcl own ans h1 a1 h2 a2)
  have hth : ∀ own, own < 32 → ((0 < cmT 32 h sd cold U s own ∧ 10000 - cmT 32 h sd cold U s own ≤ ((r + 1 : Nat) : Int)) ↔ 0 < cmT 32 h sd cold (VV 32 h sd cold r) s own) ∧ ((cmT 32 h sd cold U s own < 0 ∧ 10000 + cmT 32 h sd cold U s own ≤ ((r + 1 : Nat) : Int)) ↔ cmT 32 h sd cold (VV 32 h sd cold r) s own < 0) := by
    intro own ho
    have t1 := cmT_near (N := 32) (h := h) (sd := sd) (cold := cold) (V := VV 32 h sd cold r) (W := U) (t := 9998 - (r : Int)) (c := 9999 - (r : Int)) (s := s) (own := own) (by omega) (by omega) (by omega) (fun ans _ _ => Or.inl (hU.near hr _))
    have t2 := cmT_near (N := 32) (h := h) (sd := sd) (cold := cold) (V := VV 32 h sd cold r) (W := U) (t := 9998 - (r : Int)) (c := (r : Int) - 9998) (s := s) (own := own) (by omega) (by omega) (by omega) (fun ans _ _ => Or.inl (hU.near hr _))
    have c1 := cmT_2 (h := h) (sd := sd) (cold := cold) (s := s) (own := own) hr
    have c2 := cmT_2n (h := h) (sd := sd) (cold := cold) (s := s) (own := own) hr
    generalize cmT 32 h sd cold U s own = x at *
    generalize cmT 32 h sd cold (VV 32 h sd cold r) s own = y at *
    constructor <;> constructor <;> intro hh <;> omega
  have hvge := fun (c : Int) (hc : -268435456 < c) => VV_ge (N := 32) (h := h) (sd := sd) (cold := cold) (r := r) (s := s) hc
  have hvin := VV_in (N := 32) (h := h) (sd := sd) (cold := cold) (by omega) (r + 1) s
  generalize hcf : (fun own => cmT 32 h sd cold (VV 32 h sd cold r) s own) = cf
  have hcf' : ∀ own, cmT 32 h sd cold (VV 32 h sd cold r) s own = cf own := fun own => by rw [← hcf]
  simp only [hcf'] at hth hvge
  generalize hvv : VV 32 h sd cold (r + 1) s = v at hvge hvin ⊢
  generalize hcu : (fun own => cmT 32 h sd cold U s own) = cu
  have hcu' : ∀ own, cmT 32 h sd cold U s own = cu own := fun own => by rw [← hcu]
  simp only [hcu'] at hth hwon hlost
  have e6 : M 33 6 = ((ablS h.P s : Nat) : Int) := by rw [hS.2.1, abW_all hP]
  have e34 : M 34 0 = ((sideS sd h.P 0 : Nat) : Int) := hS.1.2.2.1.2.2.2.2.2.1
  have hab : ablS h.P s < 32 := bitsP32 hP
  refine MS.by ck_Du_settled [some (vr 53), some (vr 33), some (vi ((r + 1 : Nat) : Int)), none, none, none, none] fun _ _ => ?_
  generalize hQ : (fun (r' : Option AV) (M' : AM) => r' = some (vi (sgI v)) ∧ M' = M) = Q
  have loop : ∀ (k own i : Nat) (lost : Nat), own + k = 31 → i ≤ own → sbM (mO h sd s) own → lost ≤ 1 → (∀ y, y < own → sbM (mO h sd s) y → ¬ 0 < cf y) → (lost = 1 ↔ ∀ y, y < own → sbM (mO h sd s) y → cf y < 0) → AW G d mi_Du_settled Q 21 [some (vr 53), some (vr 33), some (vi ((r + 1 : Nat) : Int)), some (vi (mO h sd s)), some (vi lost), some (vi own), some (vi i)] [] M := by
    as_aux_lemma =>
      intro k
      induction k using Nat.strongRecOn with
      | ind k ih =>
        intro own i lost hk hi hsb hl1 hno hlo
        obtain ⟨n', n1, n2, n3, n4⟩ := next_M (show own < 32 by omega) hO hsb
        obtain ⟨t1, t2⟩ := hth own (by omega)
        have a62 : ∀ x : Nat, x ≤ 1 → (x = 1 ↔ lost = 1 ∧ cf own < 0) → ¬ 0 < cf own → AW G d mi_Du_settled Q 62 [some (vr 53), some (vr 33), some (vi ((r + 1 : Nat) : Int)), some (vi (mO h sd s)), some (vi lost), some (vi own), some (vi i)] [vi x] M := by
          intro x hx1 hx hnc
          have hno' : ∀ y, y < n' → sbM (mO h sd s) y → ¬ 0 < cf y := by
            intro y hy hys
            by_cases e : y = own
            · rw [e]; exact hnc
            · rcases Nat.lt_or_ge y own with q | q
              · exact hno y q hys
              · exact absurd hys (n3 y (by omega) hy)
          have hlo' : x = 1 ↔ ∀ y, y < n' → sbM (mO h sd s) y → cf y < 0 := by
            rw [hx, hlo]
            constructor
            · rintro ⟨a, b⟩ y hy hys
              by_cases e : y = own
              · rw [e]; exact b
              · rcases Nat.lt_or_ge y own with q | q
                · exact a y q hys
                · exact absurd hys (n3 y (by omega) hy)
            · intro a
              exact ⟨fun y hy hys => a y (by omega) hys, a own n1 hsb⟩
          refine AW.run ck_Du_settled [21] 10 62 ?_
          simp only [wR, wB, wE0, wE1, wE2, wE3, g0, gS, s10, s11, s1S, s20, s21, s2S, kl0, kl1, kl2, kl3, sp0, sp1, sp2, sp3, cn1, cn2, cn3, cn4, cn5, cn6, jJa, lk0, lk1, jmS, jmN, s4_0, s4_1, s4_2, s4_3, s4_4, sw0, sw1, cKs, cKn, true_and, and_true, List.map_cons, List.map_nil, Nat.reduceAdd, Nat.zero_add, Int.reduceAdd, Nat.reduceEqDiff, reduceIte, Classical.not_not, b_Du_settled]
          refine ⟨by omega, MS.to (c_H_nextWithin (show own < 32 by omega) hO) fun _ => ?_⟩
          rcases n4 with ⟨e1, e2⟩ | ⟨e1, e2, e3, e4⟩
          · rw [e1]
            rw [e2] at hno' hlo'
            simp only [wR, wB, wE0, wE1, wE2, wE3, g0, gS, s10, s11, s1S, s20, s21, s2S, kl0, kl1, kl2, kl3, sp0, sp1, sp2, sp3, cn1, cn2, cn3, cn4, cn5, cn6, jJa, lk0, lk1, jmS, jmN, s4_0, s4_1, s4_2, s4_3, s4_4, sw0, sw1, cKs, cKn, true_and, and_true, List.map_cons, List.map_nil, Nat.reduceAdd, Nat.zero_add, Int.reduceAdd, Nat.reduceEqDiff, reduceIte, Classical.not_not, b_Du_settled, nc0, Int.reduceEq, not_true_eq_false, not_false_eq_true, false_imp_iff, true_imp_iff, and_self]
            have hv0 : ¬ 0 < v := by
              intro hv
              obtain ⟨y, y1, y2, y3⟩ := (hvge 1 (by omega)).mp (by omega)
              have := hno' y y1 y2
              omega
            subst hQ
            by_cases qx : x = 1
            · have hall := hlo'.mp qx
              have hv1 : v < 0 := by
                rcases Int.lt_or_le v 0 with q | q
                · exact q
                · obtain ⟨y, y1, y2, y3⟩ := (hvge 0 (by omega)).mp q
                  have := hall y y1 y2
                  omega
              have es : sgI v = -1 := by unfold sgI; rw [if_neg hv0, if_pos hv1]
              rw [es]
              (repeat' (first | omega | (with_reducible exact True.intro) | exact ⟨by omega, by omega⟩ | (with_reducible exact Or.inr trivial) | (with_reducible exact Or.inl trivial) | (with_reducible assumption) | (with_reducible exact Same.refl) | (with_reducible rfl) | (with_reducible refine And.intro ?_ ?_) | (with_reducible intro _)))
            · have hv1 : ¬ v < 0 := by
                intro hv
                refine qx (hlo'.mpr (fun y y1 y2 => ?_))
                rcases Int.lt_or_le (cf y) 0 with q | q
                · exact q
                · have := (hvge 0 (by omega)).mpr ⟨y, y1, y2, q⟩
                  omega
              have es : sgI v = 0 := by unfold sgI; rw [if_neg hv0, if_neg hv1]
              rw [es]
              (repeat' (first | omega | (with_reducible exact True.intro) | exact ⟨by omega, by omega⟩ | (with_reducible exact Or.inr trivial) | (with_reducible exact Or.inl trivial) | (with_reducible assumption) | (with_reducible exact Same.refl) | (with_reducible rfl) | (with_reducible refine And.intro ?_ ?_) | (with_reducible intro _)))
          · have := ih (31 - n') (by omega) n' (i + 1) x (by omega) (by omega) e3 hx1 hno' hlo'
            rw [e1]
            simp only [wR, wB, wE0, wE1, wE2, wE3, g0, gS, s10, s11, s1S, s20, s21, s2S, kl0, kl1, kl2, kl3, sp0, sp1, sp2, sp3, cn1, cn2, cn3, cn4, cn5, cn6, jJa, lk0, lk1, jmS, jmN, s4_0, s4_1, s4_2, s4_3, s4_4, sw0, sw1, cKs, cKn, true_and, and_true, List.map_cons, List.map_nil, Nat.reduceAdd, Nat.zero_add, Int.reduceAdd, Nat.reduceEqDiff, reduceIte, Classical.not_not, b_Du_settled, ce]
            (repeat' (first | omega | (with_reducible exact True.intro) | exact ⟨by omega, by omega⟩ | (with_reducible exact Or.inr trivial) | (with_reducible exact Or.inl trivial) | (with_reducible assumption) | (with_reducible exact Same.refl) | (with_reducible rfl) | (with_reducible refine And.intro ?_ ?_) | (with_reducible intro _)))
        refine AW.run ck_Du_settled [62, 89] 10 21 ?_
        simp only [wR, wB, wE0, wE1, wE2, wE3, g0, gS, s10, s11, s1S, s20, s21, s2S, kl0, kl1, kl2, kl3, sp0, sp1, sp2, sp3, cn1, cn2, cn3, cn4, cn5, cn6, jJa, lk0, lk1, jmS, jmN, s4_0, s4_1, s4_2, s4_3, s4_4, sw0, sw1, cKs, cKn, true_and, and_true, List.map_cons, List.map_nil, Nat.reduceAdd, Nat.zero_add, Int.reduceAdd, Nat.reduceEqDiff, reduceIte, Classical.not_not, b_Du_settled, shDu]
        (repeat' (first | omega | (with_reducible exact True.intro) | exact ⟨by omega, by omega⟩ | (with_reducible exact Or.inr trivial) | (with_reducible exact Or.inl trivial) | (with_reducible assumption) | (with_reducible exact Same.refl) | (with_reducible rfl) | (with_reducible refine And.intro ?_ ?_) | (with_reducible intro _)))
        refine MS.to (hwon own (by omega) hsb) fun _ => ?_
        simp only [wR, wB, wE0, wE1, wE2, wE3, g0, gS, s10, s11, s1S, s20, s21, s2S, kl0, kl1, kl2, kl3, sp0, sp1, sp2, sp3, cn1, cn2, cn3, cn4, cn5, cn6, jJa, lk0, lk1, jmS, jmN, s4_0, s4_1, s4_2, s4_3, s4_4, sw0, sw1, cKs, cKn, true_and, and_true, List.map_cons, List.map_nil, Nat.reduceAdd, Nat.zero_add, Int.reduceAdd, Nat.reduceEqDiff, reduceIte, Classical.not_not, b_Du_settled, shDu]
        by_cases qw : 0 < cf own
        · obtain ⟨w1, w2⟩ := t1.mpr qw
          have hv : 0 < v := by
            have := (hvge 1 (by omega)).mpr ⟨own, by omega, hsb, by omega⟩
            omega
          rw [if_pos w1]
          have es : sgI v = 1 := by unfold sgI; rw [if_pos hv]
          rw [es] at hQ
          subst hQ
          (repeat' (first | omega | (with_reducible exact True.intro) | exact ⟨by omega, by omega⟩ | (with_reducible exact Or.inr trivial) | (with_reducible exact Or.inl trivial) | (with_reducible assumption) | (with_reducible exact Same.refl) | (with_reducible rfl) | (with_reducible refine And.intro ?_ ?_) | (with_reducible intro _)))
        · have hgt : ((r + 1 : Nat) : Int) < (if 0 < cu own then 10000 - cu own else 1000000) := by
            split
            · next q =>
              rcases Int.lt_or_le ((r + 1 : Nat) : Int) (10000 - cu own) with q2 | q2
              · exact q2
              · exact absurd (t1.mp ⟨q, q2⟩) qw
            · omega
          generalize hgx : (if 0 < cu own then 10000 - cu own else (1000000 : Int)) = gx at hgt
          by_cases ql : lost = 1
          · subst ql
            (repeat' (first | omega | (with_reducible exact True.intro) | exact ⟨by omega, by omega⟩ | (with_reducible exact Or.inr trivial) | (with_reducible exact Or.inl trivial) | (with_reducible assumption) | (with_reducible exact Same.refl) | (with_reducible rfl) | (with_reducible refine And.intro ?_ ?_) | (with_reducible intro _)))
            refine MS.to (hlost own (by omega) hsb) fun _ => ?_
            simp only [wR, wB, wE0, wE1, wE2, wE3, g0, gS, s10, s11, s1S, s20, s21, s2S, kl0, kl1, kl2, kl3, sp0, sp1, sp2, sp3, cn1, cn2, cn3, cn4, cn5, cn6, jJa, lk0, lk1, jmS, jmN, s4_0, s4_1, s4_2, s4_3, s4_4, sw0, sw1, cKs, cKn, true_and, and_true, List.map_cons, List.map_nil, Nat.reduceAdd, Nat.zero_add, Int.reduceAdd, Nat.reduceEqDiff, reduceIte, Classical.not_not, b_Du_settled]
            by_cases qc : cf own < 0
            · obtain ⟨w1, w2⟩ := t2.mpr qc
              rw [if_pos w1]
              have := a62 1 (by omega) ⟨fun _ => ⟨rfl, qc⟩, fun _ => rfl⟩ qw
              (repeat' (first | omega | (with_reducible exact True.intro) | exact ⟨by omega, by omega⟩ | (with_reducible exact Or.inr trivial) | (with_reducible exact Or.inl trivial) | (with_reducible assumption) | (with_reducible exact Same.refl) | (with_reducible rfl) | (with_reducible refine And.intro ?_ ?_) | (with_reducible intro _)))
            · have hgt2 : ((r + 1 : Nat) : Int) < (if cu own < 0 then 10000 + cu own else 1000000) := by
                split
                · next q =>
                  rcases Int.lt_or_le ((r + 1 : Nat) : Int) (10000 + cu own) with q2 | q2
                  · exact q2
                  · exact absurd (t2.mp ⟨q, q2⟩) qc
                · omega
              have := a62 0 (by omega) ⟨fun e => absurd e (by omega), fun e => absurd e.2 qc⟩ qw
              generalize hgx2 : (if cu own < 0 then 10000 + cu own else (1000000 : Int)) = gx2 at hgt2
              (repeat' (first | omega | (with_reducible exact True.intro) | exact ⟨by omega, by omega⟩ | (with_reducible exact Or.inr trivial) | (with_reducible exact Or.inl trivial) | (with_reducible assumption) | (with_reducible exact Same.refl) | (with_reducible rfl) | (with_reducible refine And.intro ?_ ?_) | (with_reducible intro _)))
          · obtain rfl : lost = 0 := by omega
            have := a62 0 (by omega) ⟨fun e => absurd e (by omega), fun e => absurd e.1 (by omega)⟩ qw
            simp only [wR, wB, wE0, wE1, wE2, wE3, g0, gS, s10, s11, s1S, s20, s21, s2S, kl0, kl1, kl2, kl3, sp0, sp1, sp2, sp3, cn1, cn2, cn3, cn4, cn5, cn6, jJa, lk0, lk1, jmS, jmN, s4_0, s4_1, s4_2, s4_3, s4_4, sw0, sw1, cKs, cKn, true_and, and_true, List.map_cons, List.map_nil, Nat.reduceAdd, Nat.zero_add, Int.reduceAdd, Nat.reduceEqDiff, reduceIte, Classical.not_not, nc0, Int.reduceEq, not_true_eq_false, not_false_eq_true, false_imp_iff, true_imp_iff, and_self]
            (repeat' (first | omega | (with_reducible exact True.intro) | exact ⟨by omega, by omega⟩ | (with_reducible exact Or.inr trivial) | (with_reducible exact Or.inl trivial) | (with_reducible assumption) | (with_reducible exact Same.refl) | (with_reducible rfl) | (with_reducible refine And.intro ?_ ?_) | (with_reducible intro _)))
  have := loop 31 0 0 1 (by omega) (by omega) (sbM_0 _) (by omega) (fun y hy => absurd hy (by omega)) ⟨fun _ y hy => absurd hy (by omega), fun _ => rfl⟩
  refine AW.run ck_Du_settled [21] 10 0 ?_
  simp only [wR, wB, wE0, wE1, wE2, wE3, g0, gS, s10, s11, s1S, s20, s21, s2S, kl0, kl1, kl2, kl3, sp0, sp1, sp2, sp3, cn1, cn2, cn3, cn4, cn5, cn6, jJa, lk0, lk1, jmS, jmN, s4_0, s4_1, s4_2, s4_3, s4_4, sw0, sw1, cKs, cKn, true_and, and_true, List.map_cons, List.map_nil, Nat.reduceAdd, Nat.zero_add, Int.reduceAdd, Nat.reduceEqDiff, reduceIte, Classical.not_not, b_Du_settled, shSt, e6, e34, bAnd_n (show ablS h.P s < 2 ^ 31 by omega)]
  rw [show ablS h.P s &&& sideS sd h.P 0 = mO h sd s from rfl]
  (repeat' (first | omega | (with_reducible exact True.intro) | exact ⟨by omega, by omega⟩ | (with_reducible exact Or.inr trivial) | (with_reducible exact Or.inl trivial) | (with_reducible assumption) | (with_reducible exact Same.refl) | (with_reducible rfl) | (with_reducible refine And.intro ?_ ?_) | (with_reducible intro _)))
  all_goals exact this
end DL2
