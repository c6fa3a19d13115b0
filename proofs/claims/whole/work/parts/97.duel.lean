/-! the class's duel -/
def sgI (x : Int) : Int := if 0 < x then 1 else if x < 0 then -1 else 0
def abI (x : Int) : Int := if x < 0 then -x else x
def DU (M : AM) (l : List Nat) (U : Nat → Int) : Prop := ∀ s, s ∈ l → M 54 s = sgI (U s) ∧ (U s ≠ 0 → M 55 s = 10000 - abI (U s))
theorem mnS_skip {f : Nat → Int} {m n : Nat} : ∀ k, (∀ y, n ≤ y → y < n + k → ¬ sbM m y) → mnS f m (n + k) = mnS f m n
  | 0, _ => rfl
  | k + 1, h => by
    rw [← Nat.add_assoc]
    simp only [mnS]
    rw [if_neg (show ¬ (n + k &&& (31 ^^^ m) = 0) from h (n + k) (by omega) (by omega))]
    exact mnS_skip k (fun y h1 h2 => h y h1 (by omega))
theorem mnS_st {f : Nat → Int} {m n : Nat} (h : sbM m n) : mnS f m (n + 1) = if f n < mnS f m n then f n else mnS f m n := by
  simp only [mnS]
  exact if_pos h
/-- the subsets of a mask, one after the other -/
theorem next_M {m n : Nat} (hn : n < 32) (hm : m < 32) (hsb : sbM m n) : ∃ n' : Nat, n < n' ∧ n' ≤ 32 ∧ (∀ y, n + 1 ≤ y → y < n' → ¬ sbM m y) ∧ ((nextN n m = 0 ∧ n' = 32) ∨ (nextN n m = n' ∧ n' < 32 ∧ sbM m n' ∧ n' ≠ 0)) := by
  obtain ⟨h1, h2⟩ := nextN_s hn hm hsb
  by_cases q : nextN n m = 0
  · exact ⟨32, hn, Nat.le_refl _, fun y hy hy' => h1 q y (by omega) hy', Or.inl ⟨q, rfl⟩⟩
  · obtain ⟨a, b, c⟩ := h2 q
    have hl := nextN_lt (a := n) hm
    exact ⟨nextN n m, a, by omega, fun y hy hy' => c y (by omega) hy', Or.inr ⟨rfl, hl, b, q⟩⟩
theorem mO_lt {h : Hl} {sd : Nat → Nat} {s : Nat} (hP : h.P ≤ 5) : mO h sd s < 32 := Nat.lt_of_le_of_lt Nat.and_le_left (bitsP32 hP)
theorem mA_lt {h : Hl} {sd : Nat → Nat} {s : Nat} (hP : h.P ≤ 5) : mA h sd s < 32 := Nat.lt_of_le_of_lt Nat.and_le_left (bitsP32 hP)
theorem both_sub {h : Hl} {sd : Nat → Nat} {s own ans : Nat} (hP : h.P ≤ 5) (ho : own < 32) (ha : ans < 32) (h1 : sbM (mO h sd s) own) (h2 : sbM (mA h sd s) ans) : sub (own ||| ans) (abW h.P (2 ^ h.P - 1) s) ∧ own ||| ans < 2 ^ h.P := by
  have hs1 : sub own (ablS h.P s) := fun p hp => (and_bit.mp ((sub_iff ho (mO_lt hP)).mp h1 p hp)).1
  have hs2 : sub ans (ablS h.P s) := fun p hp => (and_bit.mp ((sub_iff ha (mA_lt hP)).mp h2 p hp)).1
  have hs : sub (own ||| ans) (ablS h.P s) := fun p hp => by
    rcases or_bit.mp hp with q | q
    · exact hs1 p q
    · exact hs2 p q
  rw [abW_all hP]
  refine ⟨hs, ?_⟩
  have hle := or_lt ho ha
  have := okP_lt2 (P := h.P) (pe := 31) (s := s) hle (by omega) (by
    unfold okP
    rw [decide_eq_true_eq, sub_iff hle (Nat.lt_of_le_of_lt Nat.and_le_right (by omega))]
    intro p hp
    refine and_bit.mpr ⟨hs p hp, ?_⟩
    have key : ∀ p : Fin 5, 31 / 2 ^ p.val % 2 = 1 := by decide
    by_cases q : p < 5
    · exact key ⟨p, q⟩
    · exfalso
      have h5 : (2 : Nat) ^ 5 ≤ 2 ^ p := Nat.pow_le_pow_right (by omega) (by omega)
      rw [Nat.div_eq_of_lt (by omega)] at hp
      omega)
  exact this
section DL
variable {G : AG} {d : Nat} {M : AM}
theorem c_Du_inOrZero {s : Nat} (hs : s < 3125) : MS G d mi_Du_inOrZero [vi s] M (fun r M' => r = some (vi s) ∧ M' = M) := by
  refine MS.run ck_Du_inOrZero [some (vi s)] [] 10 fun _ _ => ?_
  simp only [wR, wB, wE0, wE1, wE2, wE3, g0, gS, s10, s11, s1S, s20, s21, s2S, kl0, kl1, kl2, kl3, sp0, sp1, sp2, sp3, cn1, cn2, cn3, cn4, cn5, cn6, jJa, lk0, lk1, jmS, jmN, s4_0, s4_1, s4_2, s4_3, s4_4, sw0, sw1, cKs, cKn, true_and, and_true, List.map_cons, List.map_nil, Nat.reduceAdd, Nat.zero_add, Int.reduceAdd, Nat.reduceEqDiff, reduceIte, Classical.not_not, b_Du_inOrZero]
  (repeat' (first | omega | (with_reducible exact True.intro) | exact ⟨by omega, by omega⟩ | (with_reducible exact Or.inr trivial) | (with_reducible exact Or.inl trivial) | (with_reducible assumption) | (with_reducible exact Same.refl) | (with_reducible rfl) | (with_reducible refine And.intro ?_ ?_) | (with_reducible intro _)))
set_option maxRecDepth 20000 in
theorem c_Du_wonIn {h : Hl} {sd : Nat → Nat} {cold s own : Nat} {l : List Nat} {U : Nat → Int} (hd : 5 ≤ d) (hok : HlOK h) (hS : StAt M h sd cold (2 ^ h.P - 1) s) (hD : DU M l U) (hU : ∀ x, -9999 ≤ U x ∧ U x ≤ 9999 ∧ U x ≠ 1 ∧ U x ≠ -1) (ho : own < 32) (hos : sbM (mO h sd s) own) (hcl : ∀ ans, ans < 32 → sbM (mA h sd s) ans → h.must ≤ hands h sd cold s own 0 → h.must ≤ hands h sd cold s ans 1 → nxt h sd cold s (own ||| ans) ∈ l) :
    MS G d mi_Du_wonIn [vr 53, vr 33, vi own] M (fun r M' => r = some (vi (if 0 < cmT 32 h sd cold U s own then 10000 - cmT 32 h sd cold U s own else 1000000)) ∧ M' = M) := by
  have hP := hok.1
  have hA := mA_lt (h := h) (sd := sd) (s := s) hP
  have hcin := cmT_in (N := 32) (h := h) (sd := sd) (cold := cold) (by omega) (V := U) (fun x => ⟨(hU x).1, (hU x).2.1⟩) s own
  have hge := fun (c : Int) (hc : c ≤ 268435456) => cmT_ge (N := 32) (h := h) (sd := sd) (cold := cold) (V := U) (s := s) (own := own) hc
  have hdef : cmT 32 h sd cold U s own = mnS (fun ans => gEnt h sd cold U s own ans) (mA h sd s) 32 := by unfold cmT; rfl
  refine MS.by ck_Du_wonIn [some (vr 53), some (vr 33), some (vi own), none, none, none, none, none] fun _ _ => ?_
  generalize hcc : cmT 32 h sd cold U s own = c at *
  generalize hQ : (fun (r : Option AV) (M' : AM) => r = some (vi (if 0 < c then 10000 - c else 1000000)) ∧ M' = M) = Q
  refine AW.run ck_Du_wonIn [12] 10 0 ?_
  simp only [wR, wB, wE0, wE1, wE2, wE3, g0, gS, s10, s11, s1S, s20, s21, s2S, kl0, kl1, kl2, kl3, sp0, sp1, sp2, sp3, cn1, cn2, cn3, cn4, cn5, cn6, jJa, lk0, lk1, jmS, jmN, s4_0, s4_1, s4_2, s4_3, s4_4, sw0, sw1, cKs, cKn, true_and, and_true, List.map_cons, List.map_nil, Nat.reduceAdd, Nat.zero_add, Int.reduceAdd, Nat.reduceEqDiff, reduceIte, Classical.not_not, b_Du_wonIn, shSt]
  refine ⟨by omega, MS.to (c_St_stand (d := d - 1) (side := 0) (by omega) hok hS ho (by omega)) fun _ => ?_⟩
  rw [pop_hands hP ho]
  simp only [wR, wB, wE0, wE1, wE2, wE3, g0, gS, s10, s11, s1S, s20, s21, s2S, kl0, kl1, kl2, kl3, sp0, sp1, sp2, sp3, cn1, cn2, cn3, cn4, cn5, cn6, jJa, lk0, lk1, jmS, jmN, s4_0, s4_1, s4_2, s4_3, s4_4, sw0, sw1, cKs, cKn, true_and, and_true, List.map_cons, List.map_nil, Nat.reduceAdd, Nat.zero_add, Int.reduceAdd, Nat.reduceEqDiff, reduceIte, Classical.not_not, b_Du_wonIn, shSt]
  by_cases q0 : h.must ≤ hands h sd cold s own 0
  · rw [if_pos q0]
    have hent : ∀ ans, gEnt h sd cold U s own ans = if h.must ≤ hands h sd cold s ans 1 then hlI (U (nxt h sd cold s (own ||| ans))) else 9999 := fun ans => by unfold gEnt; rw [if_pos q0]
    have e6 : M 33 6 = ((ablS h.P s : Nat) : Int) := by rw [hS.2.1, abW_all hP]
    have e34 : M 34 1 = ((sideS sd h.P 1 : Nat) : Int) := hS.1.2.2.1.2.2.2.2.2.2.1
    have hab : ablS h.P s < 32 := bitsP32 hP
    have loop : ∀ (r ans i : Nat) (l7 : Option AV), ans + r = 31 → i ≤ ans → sbM (mA h sd s) ans → 0 < mnS (fun ans => gEnt h sd cold U s own ans) (mA h sd s) ans → AW G d mi_Du_wonIn Q 33 [some (vr 53), some (vr 33), some (vi own), some (vi (mA h sd s)), some (vi (10000 - (if mnS (fun ans => gEnt h sd cold U s own ans) (mA h sd s) ans < 9999 then mnS (fun ans => gEnt h sd cold U s own ans) (mA h sd s) ans else 9999))), some (vi ans), some (vi i), l7] [] M := by
      as_aux_lemma =>
        intro r
        induction r using Nat.strongRecOn with
        | ind r ih =>
          intro ans i l7 hr hi hsb hpos
          have hst := mnS_st (f := fun ans => gEnt h sd cold U s own ans) hsb
          obtain ⟨n', n1, n2, n3, n4⟩ := next_M (show ans < 32 by omega) hA hsb
          have hskip := mnS_skip (f := fun ans => gEnt h sd cold U s own ans) (m := mA h sd s) (n := ans + 1) (n' - (ans + 1)) (fun y h1 h2 => n3 y h1 (by omega))
          rw [show ans + 1 + (n' - (ans + 1)) = n' by omega] at hskip
          have hent' := hent ans
          have hein := ent_in (h := h) (sd := sd) (cold := cold) (fun x => ⟨(hU x).1, (hU x).2.1⟩) s own ans
          generalize hmp : mnS (fun ans => gEnt h sd cold U s own ans) (mA h sd s) ans = mp at hst hpos
          generalize hmn : mnS (fun ans => gEnt h sd cold U s own ans) (mA h sd s) (ans + 1) = mn at hst hskip
          have a93 : ∀ (x : Int) (l7 : Option AV), 0 < mn → x = 10000 - (if mn < 9999 then mn else 9999) → AW G d mi_Du_wonIn Q 93 [some (vr 53), some (vr 33), some (vi own), some (vi (mA h sd s)), some (vi x), some (vi ans), some (vi i), l7] [] M := by
            intro x l7 hmn0 hx
            refine AW.run ck_Du_wonIn [33] 10 93 ?_
            simp only [wR, wB, wE0, wE1, wE2, wE3, g0, gS, s10, s11, s1S, s20, s21, s2S, kl0, kl1, kl2, kl3, sp0, sp1, sp2, sp3, cn1, cn2, cn3, cn4, cn5, cn6, jJa, lk0, lk1, jmS, jmN, s4_0, s4_1, s4_2, s4_3, s4_4, sw0, sw1, cKs, cKn, true_and, and_true, List.map_cons, List.map_nil, Nat.reduceAdd, Nat.zero_add, Int.reduceAdd, Nat.reduceEqDiff, reduceIte, Classical.not_not, b_Du_wonIn]
            refine ⟨by omega, MS.to (c_H_nextWithin (show ans < 32 by omega) hA) fun _ => ?_⟩
            rcases n4 with ⟨e1, e2⟩ | ⟨e1, e2, e3, e4⟩
            · rw [e1]
              simp only [wR, wB, wE0, wE1, wE2, wE3, g0, gS, s10, s11, s1S, s20, s21, s2S, kl0, kl1, kl2, kl3, sp0, sp1, sp2, sp3, cn1, cn2, cn3, cn4, cn5, cn6, jJa, lk0, lk1, jmS, jmN, s4_0, s4_1, s4_2, s4_3, s4_4, sw0, sw1, cKs, cKn, true_and, and_true, List.map_cons, List.map_nil, Nat.reduceAdd, Nat.zero_add, Int.reduceAdd, Nat.reduceEqDiff, reduceIte, Classical.not_not, b_Du_wonIn, nc0, Int.reduceEq, not_true_eq_false, not_false_eq_true, false_imp_iff, true_imp_iff, and_self]
              have hc : c = mn := by rw [hdef, ← hskip, e2]
              have hmx : mn ≤ 9999 := by omega
              subst hQ
              rw [hx, hc, if_pos hmn0]
              by_cases q9 : mn < 9999
              · rw [if_pos q9]
                (repeat' (first | omega | (with_reducible exact True.intro) | exact ⟨by omega, by omega⟩ | (with_reducible exact Or.inr trivial) | (with_reducible exact Or.inl trivial) | (with_reducible assumption) | (with_reducible exact Same.refl) | (with_reducible rfl) | (with_reducible refine And.intro ?_ ?_) | (with_reducible intro _)))
              · rw [if_neg q9, show mn = 9999 by omega]
                (repeat' (first | omega | (with_reducible exact True.intro) | exact ⟨by omega, by omega⟩ | (with_reducible exact Or.inr trivial) | (with_reducible exact Or.inl trivial) | (with_reducible assumption) | (with_reducible exact Same.refl) | (with_reducible rfl) | (with_reducible refine And.intro ?_ ?_) | (with_reducible intro _)))
            · have := ih (31 - n') (by omega) n' (i + 1) l7 (by omega) (by omega) e3 (by rw [hskip]; exact hmn0)
              rw [hskip, ← hx] at this
              rw [e1]
              simp only [wR, wB, wE0, wE1, wE2, wE3, g0, gS, s10, s11, s1S, s20, s21, s2S, kl0, kl1, kl2, kl3, sp0, sp1, sp2, sp3, cn1, cn2, cn3, cn4, cn5, cn6, jJa, lk0, lk1, jmS, jmN, s4_0, s4_1, s4_2, s4_3, s4_4, sw0, sw1, cKs, cKn, true_and, and_true, List.map_cons, List.map_nil, Nat.reduceAdd, Nat.zero_add, Int.reduceAdd, Nat.reduceEqDiff, reduceIte, Classical.not_not, b_Du_wonIn, ce]
              (repeat' (first | omega | (with_reducible exact True.intro) | exact ⟨by omega, by omega⟩ | (with_reducible exact Or.inr trivial) | (with_reducible exact Or.inl trivial) | (with_reducible assumption) | (with_reducible exact Same.refl) | (with_reducible rfl) | (with_reducible refine And.intro ?_ ?_) | (with_reducible intro _)))
          refine AW.run ck_Du_wonIn [93, 118] 10 33 ?_
          simp only [wR, wB, wE0, wE1, wE2, wE3, g0, gS, s10, s11, s1S, s20, s21, s2S, kl0, kl1, kl2, kl3, sp0, sp1, sp2, sp3, cn1, cn2, cn3, cn4, cn5, cn6, jJa, lk0, lk1, jmS, jmN, s4_0, s4_1, s4_2, s4_3, s4_4, sw0, sw1, cKs, cKn, true_and, and_true, List.map_cons, List.map_nil, Nat.reduceAdd, Nat.zero_add, Int.reduceAdd, Nat.reduceEqDiff, reduceIte, Classical.not_not, b_Du_wonIn, shSt]
          (repeat' (first | omega | (with_reducible exact True.intro) | exact ⟨by omega, by omega⟩ | (with_reducible exact Or.inr trivial) | (with_reducible exact Or.inl trivial) | (with_reducible assumption) | (with_reducible exact Same.refl) | (with_reducible rfl) | (with_reducible refine And.intro ?_ ?_) | (with_reducible intro _)))
          refine MS.to (c_St_stand (d := d - 1) (side := 1) (by omega) hok hS (show ans < 32 by omega) (by omega)) fun _ => ?_
          rw [pop_hands hP (by omega)]
          simp only [wR, wB, wE0, wE1, wE2, wE3, g0, gS, s10, s11, s1S, s20, s21, s2S, kl0, kl1, kl2, kl3, sp0, sp1, sp2, sp3, cn1, cn2, cn3, cn4, cn5, cn6, jJa, lk0, lk1, jmS, jmN, s4_0, s4_1, s4_2, s4_3, s4_4, sw0, sw1, cKs, cKn, true_and, and_true, List.map_cons, List.map_nil, Nat.reduceAdd, Nat.zero_add, Int.reduceAdd, Nat.reduceEqDiff, reduceIte, Classical.not_not, b_Du_wonIn, shSt]
          by_cases q1 : h.must ≤ hands h sd cold s ans 1
          · rw [if_pos q1] at hent' ⊢
            obtain ⟨hb1, hb2⟩ := both_sub hP ho (show ans < 32 by omega) hos hsb
            have hm := hcl ans (by omega) hsb q0 q1
            obtain ⟨d1, d2⟩ := hD _ hm
            have hnl : nxt h sd cold s (own ||| ans) < 3125 := nxt_lt hok
            have hUx := hU (nxt h sd cold s (own ||| ans))
            simp only [wR, wB, wE0, wE1, wE2, wE3, g0, gS, s10, s11, s1S, s20, s21, s2S, kl0, kl1, kl2, kl3, sp0, sp1, sp2, sp3, cn1, cn2, cn3, cn4, cn5, cn6, jJa, lk0, lk1, jmS, jmN, s4_0, s4_1, s4_2, s4_3, s4_4, sw0, sw1, cKs, cKn, true_and, and_true, List.map_cons, List.map_nil, Nat.reduceAdd, Nat.zero_add, Int.reduceAdd, Nat.reduceEqDiff, reduceIte, Classical.not_not, bOr_n (show own < 2 ^ 31 by omega) (show ans < 2 ^ 31 by omega)]
            (repeat' (first | omega | (with_reducible exact True.intro) | exact ⟨by omega, by omega⟩ | (with_reducible exact Or.inr trivial) | (with_reducible exact Or.inl trivial) | (with_reducible assumption) | (with_reducible exact Same.refl) | (with_reducible rfl) | (with_reducible refine And.intro ?_ ?_) | (with_reducible intro _)))
            refine MS.to (c_St_to hok hS hb2 hb1) fun _ => ?_
            rw [nxW_all hP]
            simp only [wR, wB, wE0, wE1, wE2, wE3, g0, gS, s10, s11, s1S, s20, s21, s2S, kl0, kl1, kl2, kl3, sp0, sp1, sp2, sp3, cn1, cn2, cn3, cn4, cn5, cn6, jJa, lk0, lk1, jmS, jmN, s4_0, s4_1, s4_2, s4_3, s4_4, sw0, sw1, cKs, cKn, true_and, and_true, List.map_cons, List.map_nil, Nat.reduceAdd, Nat.zero_add, Int.reduceAdd, Nat.reduceEqDiff, reduceIte, Classical.not_not, b_Du_wonIn, shDu]
            refine ⟨by omega, MS.to (c_Du_inOrZero hnl) fun _ => ?_⟩
            generalize hu : U (nxt h sd cold s (own ||| ans)) = u at hent' d1 d2 hUx
            simp only [wR, wB, wE0, wE1, wE2, wE3, g0, gS, s10, s11, s1S, s20, s21, s2S, kl0, kl1, kl2, kl3, sp0, sp1, sp2, sp3, cn1, cn2, cn3, cn4, cn5, cn6, jJa, lk0, lk1, jmS, jmN, s4_0, s4_1, s4_2, s4_3, s4_4, sw0, sw1, cKs, cKn, true_and, and_true, List.map_cons, List.map_nil, Nat.reduceAdd, Nat.zero_add, Int.reduceAdd, Nat.reduceEqDiff, reduceIte, Classical.not_not, b_Du_wonIn, shDu, d1]
            by_cases qu : 0 < u
            · have e1 : sgI u = 1 := by unfold sgI; rw [if_pos qu]
              have e2 : abI u = u := by unfold abI; rw [if_neg (by omega)]
              have e3 : hlI u = u - 1 := by unfold hlI; rw [if_pos qu]
              rw [e2] at d2
              have d2' := d2 (by omega)
              rw [e3] at hent'
              have hmn0 : 0 < mn := by rw [hst, hent']; split <;> omega
              rw [e1]
              simp only [wR, wB, wE0, wE1, wE2, wE3, g0, gS, s10, s11, s1S, s20, s21, s2S, kl0, kl1, kl2, kl3, sp0, sp1, sp2, sp3, cn1, cn2, cn3, cn4, cn5, cn6, jJa, lk0, lk1, jmS, jmN, s4_0, s4_1, s4_2, s4_3, s4_4, sw0, sw1, cKs, cKn, true_and, and_true, List.map_cons, List.map_nil, Nat.reduceAdd, Nat.zero_add, Int.reduceAdd, Nat.reduceEqDiff, reduceIte, Classical.not_not, d2', Int.reduceEq, not_true_eq_false, not_false_eq_true, false_imp_iff, true_imp_iff, and_self]
              have := a93 (10000 - (if mn < 9999 then mn else 9999)) (some (vi (nxt h sd cold s (own ||| ans)))) hmn0 rfl
              have emax : (if (10000 - (if mp < 9999 then mp else 9999)) < 10000 - u + 1 then 10000 - u + 1 else (10000 - (if mp < 9999 then mp else 9999))) = 10000 - (if mn < 9999 then mn else 9999) := by
                rw [hst, hent']
                (repeat' split) <;> omega
              first
                | (rw [emax]; (repeat' (first | omega | (with_reducible exact True.intro) | exact ⟨by omega, by omega⟩ | (with_reducible exact Or.inr trivial) | (with_reducible exact Or.inl trivial) | (with_reducible assumption) | (with_reducible exact Same.refl) | (with_reducible rfl) | (with_reducible refine And.intro ?_ ?_) | (with_reducible intro _))))
                | (trace_state; (repeat' (first | omega | (with_reducible exact True.intro) | exact ⟨by omega, by omega⟩ | (with_reducible exact Or.inr trivial) | (with_reducible exact Or.inl trivial) | (with_reducible assumption) | (with_reducible exact Same.refl) | (with_reducible rfl) | (with_reducible refine And.intro ?_ ?_) | (with_reducible intro _))))
            · have e1 : sgI u ≠ 1 := by unfold sgI; rw [if_neg qu]; split <;> omega
              have hneg : gEnt h sd cold U s own ans ≤ 0 := by
                rw [hent']
                unfold hlI
                rw [if_neg qu]; split <;> omega
              have hc0 : ¬ 0 < c := by
                intro hc
                have := (hge 1 (by omega)).mp (by omega) ans (by omega) hsb
                omega
              subst hQ
              rw [if_neg hc0]
              (repeat' (first | omega | (with_reducible exact True.intro) | exact ⟨by omega, by omega⟩ | (with_reducible exact Or.inr trivial) | (with_reducible exact Or.inl trivial) | (with_reducible assumption) | (with_reducible exact Same.refl) | (with_reducible rfl) | (with_reducible refine And.intro ?_ ?_) | (with_reducible intro _)))
          · rw [if_neg q1] at hent' ⊢
            have hmn0 : 0 < mn := by rw [hst, hent']; split <;> omega
            have := a93 (10000 - (if mp < 9999 then mp else 9999)) l7 hmn0 (by rw [hst, hent']; (repeat' split) <;> omega)
            (repeat' (first | omega | (with_reducible exact True.intro) | exact ⟨by omega, by omega⟩ | (with_reducible exact Or.inr trivial) | (with_reducible exact Or.inl trivial) | (with_reducible assumption) | (with_reducible exact Same.refl) | (with_reducible rfl) | (with_reducible refine And.intro ?_ ?_) | (with_reducible intro _)))
    have h0 : mnS (fun ans => gEnt h sd cold U s own ans) (mA h sd s) 0 = 268435456 := by simp only [mnS]
    have := loop 31 0 0 none (by omega) (by omega) (sbM_0 _) (by rw [h0]; omega)
    rw [h0, if_neg (by omega), show (10000 : Int) - 9999 = 1 by omega] at this
    (repeat' (first | omega | (with_reducible exact True.intro) | exact ⟨by omega, by omega⟩ | (with_reducible exact Or.inr trivial) | (with_reducible exact Or.inl trivial) | (with_reducible assumption) | (with_reducible exact Same.refl) | (with_reducible rfl) | (with_reducible refine And.intro ?_ ?_) | (with_reducible intro _)))
    refine AW.run ck_Du_wonIn [33] 10 12 ?_
    simp only [wR, wB, wE0, wE1, wE2, wE3, g0, gS, s10, s11, s1S, s20, s21, s2S, kl0, kl1, kl2, kl3, sp0, sp1, sp2, sp3, cn1, cn2, cn3, cn4, cn5, cn6, jJa, lk0, lk1, jmS, jmN, s4_0, s4_1, s4_2, s4_3, s4_4, sw0, sw1, cKs, cKn, true_and, and_true, List.map_cons, List.map_nil, Nat.reduceAdd, Nat.zero_add, Int.reduceAdd, Nat.reduceEqDiff, reduceIte, Classical.not_not, b_Du_wonIn, shSt, e6, e34, bAnd_n (show ablS h.P s < 2 ^ 31 by omega)]
    rw [show ablS h.P s &&& sideS sd h.P 1 = mA h sd s from rfl]
    (repeat' (first | omega | (with_reducible exact True.intro) | exact ⟨by omega, by omega⟩ | (with_reducible exact Or.inr trivial) | (with_reducible exact Or.inl trivial) | (with_reducible assumption) | (with_reducible exact Same.refl) | (with_reducible rfl) | (with_reducible refine And.intro ?_ ?_) | (with_reducible intro _)))
    all_goals exact this
  · rw [if_neg q0]
    have hc0 : ¬ 0 < c := by
      intro hc
      have := (hge 1 (by omega)).mp (by omega) 0 (by omega) (sbM_0 _)
      unfold gEnt at this
      rw [if_neg q0] at this
      split at this <;> omega
    subst hQ
    rw [if_neg hc0]
    (repeat' (first | omega | (with_reducible exact True.intro) | exact ⟨by omega, by omega⟩ | (with_reducible exact Or.inr trivial) | (with_reducible exact Or.inl trivial) | (with_reducible assumption) | (with_reducible exact Same.refl) | (with_reducible rfl) | (with_reducible refine And.intro ?_ ?_) | (with_reducible intro _)))
end DL
