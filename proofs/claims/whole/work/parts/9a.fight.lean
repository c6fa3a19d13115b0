def TelP (h : Hl) (sd : Nat → Nat) (cold s own : Nat) : Prop := own < 32 ∧ sbM (mO h sd s) own ∧ cmT 32 h sd cold (VF 32 h sd cold) s own = VF 32 h sd cold s ∧ ∀ y, y < own → sbM (mO h sd s) y → cmT 32 h sd cold (VF 32 h sd cold) s y ≠ VF 32 h sd cold s
theorem TelP_un {h : Hl} {sd : Nat → Nat} {cold s x y : Nat} (h1 : TelP h sd cold s x) (h2 : TelP h sd cold s y) : x = y := by
  obtain ⟨a1, a2, a3, a4⟩ := h1
  obtain ⟨b1, b2, b3, b4⟩ := h2
  rcases Nat.lt_trichotomy x y with q | q | q
  · exact absurd a3 (b4 x q a2)
  · exact q
  · exact absurd b3 (a4 y q b2)
theorem TelP_ex {h : Hl} {sd : Nat → Nat} {cold : Nat} {l : List Nat} (hc : clB h sd cold l) (hl : l.length ≤ 3125) {s : Nat} (hs : s ∈ l) : ∃ own, TelP h sd cold s own := by
  obtain ⟨own, o1, o2, o3⟩ := (VF_max hc hl hs).1
  obtain ⟨m, m1, m2, m3⟩ := least_of (Pr := fun x => sbM (mO h sd s) x ∧ cmT 32 h sd cold (VF 32 h sd cold) s x = VF 32 h sd cold s) ⟨o2, o3⟩
  exact ⟨m, by omega, m2.1, m2.2, fun y hy hys he => m3 y hy ⟨hys, he⟩⟩
noncomputable def telI (h : Hl) (sd : Nat → Nat) (cold s : Nat) : Nat := Classical.epsilon (fun x => TelP h sd cold s x)
theorem telI_of {h : Hl} {sd : Nat → Nat} {cold s x : Nat} (h1 : TelP h sd cold s x) : telI h sd cold s = x := TelP_un (Classical.epsilon_spec (p := fun x => TelP h sd cold s x) ⟨x, h1⟩) h1
theorem VV_n {h : Hl} {sd : Nat → Nat} {cold r x : Nat} : ∀ k, r + k ≤ 4900 → VV 32 h sd cold (r + k) x = VV 32 h sd cold r x ∨ (VV 32 h sd cold r x = 0 ∧ -(9999 - (r : Int)) ≤ VV 32 h sd cold (r + k) x ∧ VV 32 h sd cold (r + k) x ≤ 9999 - (r : Int))
  | 0, _ => Or.inl rfl
  | k + 1, hk => by
    have p := VV_P (N := 32) (h := h) (sd := sd) (cold := cold) (by omega) (r + k) x (by omega)
    rw [← Nat.add_assoc]
    rcases VV_n (h := h) (sd := sd) (cold := cold) (r := r) (x := x) k (by omega) with e | ⟨e, e1, e2⟩
    · rcases p with p | ⟨p1, p2, p3⟩
      · left; rw [p, e]
      · right; rw [e] at p1; exact ⟨p1, by omega, by omega⟩
    · rcases p with p | ⟨p1, p2, p3⟩
      · right; rw [p]; exact ⟨e, e1, e2⟩
      · right; exact ⟨e, by omega, by omega⟩
section FI
variable {G : AG} {d : Nat} {M : AM}
/-- rounds done: what stands for the state told -/
def RdD (h : Hl) (sd : Nat → Nat) (cold r s0 : Nat) (l : List Nat) : Prop := r ≤ 3125 ∧ VF 32 h sd cold s0 = VV 32 h sd cold r s0 ∧ (VF 32 h sd cold s0 = 0 → ∀ s, s ∈ l → VF 32 h sd cold s = VV 32 h sd cold r s)
theorem c_Du_isBest {h : Hl} {sd : Nat → Nat} {cold s0 own r : Nat} {l : List Nat} (hd : 8 ≤ d) (hok : HlOK h) (hS : StAt M h sd cold (2 ^ h.P - 1) s0) (hD : DU M l (VV 32 h sd cold r)) (hR : RdD h sd cold r s0 l) (hc : clB h sd cold l) (hl : l.length ≤ 3125) (hs : s0 ∈ l) (hs3 : s0 < 3125) (h2 : M 53 2 = s0) (ho : own < 32) (hos : sbM (mO h sd s0) own) :
    MS G d mi_Du_isBest [vr 53, vr 33, vi own] M (fun r M' => r = some (vi (if cmT 32 h sd cold (VF 32 h sd cold) s0 own = VF 32 h sd cold s0 then 1 else 0)) ∧ M' = M) := by
  obtain ⟨hr, hv, hv0⟩ := hR
  have hmix : MixU h sd cold r (VV 32 h sd cold r) := fun x => Or.inl rfl
  have hUi := hmix.in (by omega)
  have hwon := c_Du_wonIn (G := G) (d := d - 1) (M := M) (by omega) hok hS hD hUi ho hos (fun ans a1 a2 => hc s0 own ans hs ho a1 hos a2)
  have hlost := c_Du_lostIn (G := G) (d := d - 1) (M := M) (by omega) hok hS hD hUi ho hos (fun ans a1 a2 => hc s0 own ans hs ho a1 hos a2)
  have hle := (VF_max hc hl hs).2 own ho hos
  have hnear : ∀ x, near (9998 - (r : Int) + 1) (VV 32 h sd cold r x) (VF 32 h sd cold x) := by
    intro x
    have := VV_n (h := h) (sd := sd) (cold := cold) (r := r) (x := x) (4000 - r) (by omega)
    rw [show r + (4000 - r) = 4000 by omega] at this
    have hVF : VV 32 h sd cold 4000 x = VF 32 h sd cold x := rfl
    rw [hVF] at this
    rcases this with e | ⟨e, e1, e2⟩
    · exact Or.inl e.symm
    · exact Or.inr ⟨by omega, by omega, by omega, by omega⟩
  have hth := fun (c : Int) (hc1 : 9998 - (r : Int) < c ∨ c ≤ -(9998 - (r : Int))) (hc2 : c ≤ 268435456) => cmT_near (N := 32) (h := h) (sd := sd) (cold := cold) (V := VV 32 h sd cold r) (W := VF 32 h sd cold) (t := 9998 - (r : Int)) (c := c) (s := s0) (own := own) (by omega) hc1 hc2 (fun ans _ _ => Or.inl (hnear _))
  have h2v := VV_2 (N := 32) (h := h) (sd := sd) (cold := cold) (by omega) r s0 (by omega)
  have hvin := VV_in (N := 32) (h := h) (sd := sd) (cold := cold) (by omega) r s0
  have heq0 : VF 32 h sd cold s0 = 0 → cmT 32 h sd cold (VF 32 h sd cold) s0 own = cmT 32 h sd cold (VV 32 h sd cold r) s0 own := by
    intro e
    have hiff : ∀ c : Int, c ≤ 268435456 → (c ≤ cmT 32 h sd cold (VF 32 h sd cold) s0 own ↔ c ≤ cmT 32 h sd cold (VV 32 h sd cold r) s0 own) := by
      intro c hc'
      rw [cmT_ge hc', cmT_ge hc']
      refine forall_congr' (fun ans => forall_congr' (fun a1 => forall_congr' (fun a2 => ?_)))
      have e2 : gEnt h sd cold (VF 32 h sd cold) s0 own ans = gEnt h sd cold (VV 32 h sd cold r) s0 own ans := by
        unfold gEnt
        by_cases q : h.must ≤ hands h sd cold s0 own 0
        · rw [if_pos q, if_pos q]
          by_cases q2 : h.must ≤ hands h sd cold s0 ans 1
          · rw [if_pos q2, if_pos q2, hv0 e _ (hc s0 own ans hs ho a1 hos a2 q q2)]
          · rw [if_neg q2, if_neg q2]
        · rw [if_neg q, if_neg q]
      rw [e2]
    have b1 := cmT_in (N := 32) (h := h) (sd := sd) (cold := cold) (by omega) (V := VV 32 h sd cold r) (fun x => ⟨(hUi x).1, (hUi x).2.1⟩) s0 own
    have b2 := cmT_in (N := 32) (h := h) (sd := sd) (cold := cold) (by omega) (V := VF 32 h sd cold) (fun x => VV_in (N := 32) (by omega) 4000 x) s0 own
    exact Int.le_antisymm ((hiff _ (by omega)).mp (Int.le_refl _)) ((hiff _ (by omega)).mpr (Int.le_refl _))
  have b1 := cmT_in (N := 32) (h := h) (sd := sd) (cold := cold) (by omega) (V := VV 32 h sd cold r) (fun x => ⟨(hUi x).1, (hUi x).2.1⟩) s0 own
  obtain ⟨d1, d2⟩ := hD s0 hs
  rw [← hv] at d1 d2 h2v hvin
  generalize cmT 32 h sd cold (VF 32 h sd cold) s0 own = cF at *
  generalize cmT 32 h sd cold (VV 32 h sd cold r) s0 own = cU at *
  generalize VF 32 h sd cold s0 = v at *
  refine MS.by ck_Du_isBest [some (vr 53), some (vr 33), some (vi own)] fun _ _ => ?_
  generalize hQ : (fun (r : Option AV) (M' : AM) => r = some (vi (if cF = v then 1 else 0)) ∧ M' = M) = Q
  refine AW.run ck_Du_isBest [] 10 0 ?_
  simp only [wR, wB, wE0, wE1, wE2, wE3, g0, gS, s10, s11, s1S, s20, s21, s2S, kl0, kl1, kl2, kl3, sp0, sp1, sp2, sp3, cn1, cn2, cn3, cn4, cn5, cn6, jJa, lk0, lk1, jmS, jmN, s4_0, s4_1, s4_2, s4_3, s4_4, sw0, sw1, cKs, cKn, true_and, and_true, List.map_cons, List.map_nil, Nat.reduceAdd, Nat.zero_add, Int.reduceAdd, Nat.reduceEqDiff, reduceIte, Classical.not_not, b_Du_isBest, shDu, h2, d1]
  rcases Int.lt_trichotomy v 0 with q | q | q
  · have es : sgI v = -1 := by unfold sgI; rw [if_neg (by omega), if_pos q]
    have ea : abI v = -v := by unfold abI; rw [if_pos q]
    rw [ea] at d2
    have d2' := d2 (by omega)
    have h2v' := h2v (by omega)
    have hiff : cF = v ↔ cU = v := by
      have a := hth v (by omega) (by omega)
      have b := hth (v + 1) (by omega) (by omega)
      omega
    rw [es]
    simp only [wR, wB, wE0, wE1, wE2, wE3, g0, gS, s10, s11, s1S, s20, s21, s2S, kl0, kl1, kl2, kl3, sp0, sp1, sp2, sp3, cn1, cn2, cn3, cn4, cn5, cn6, jJa, lk0, lk1, jmS, jmN, s4_0, s4_1, s4_2, s4_3, s4_4, sw0, sw1, cKs, cKn, true_and, and_true, List.map_cons, List.map_nil, Nat.reduceAdd, Nat.zero_add, Int.reduceAdd, Nat.reduceEqDiff, reduceIte, Classical.not_not, Int.reduceEq, not_true_eq_false, not_false_eq_true, false_imp_iff, true_imp_iff, and_self]
    (repeat' (first | omega | (with_reducible exact True.intro) | exact ⟨by omega, by omega⟩ | (with_reducible exact Or.inr trivial) | (with_reducible exact Or.inl trivial) | (with_reducible assumption) | (with_reducible exact Same.refl) | (with_reducible rfl) | (with_reducible refine And.intro ?_ ?_) | (with_reducible intro _)))
    refine MS.to hlost fun _ => ?_
    simp only [wR, wB, wE0, wE1, wE2, wE3, g0, gS, s10, s11, s1S, s20, s21, s2S, kl0, kl1, kl2, kl3, sp0, sp1, sp2, sp3, cn1, cn2, cn3, cn4, cn5, cn6, jJa, lk0, lk1, jmS, jmN, s4_0, s4_1, s4_2, s4_3, s4_4, sw0, sw1, cKs, cKn, true_and, and_true, List.map_cons, List.map_nil, Nat.reduceAdd, Nat.zero_add, Int.reduceAdd, Nat.reduceEqDiff, reduceIte, Classical.not_not, b_Du_isBest, shDu, h2, d2']
    subst hQ
    by_cases qc : cF = v
    · have := hiff.mp qc
      rw [if_pos qc, if_pos (by omega)]
      (repeat' (first | omega | (with_reducible exact True.intro) | exact ⟨by omega, by omega⟩ | (with_reducible exact Or.inr trivial) | (with_reducible exact Or.inl trivial) | (with_reducible assumption) | (with_reducible exact Same.refl) | (with_reducible rfl) | (with_reducible refine And.intro ?_ ?_) | (with_reducible intro _)))
    · have : ¬ cU = v := fun e => qc (hiff.mpr e)
      rw [if_neg qc]
      by_cases q3 : cU < 0
      · rw [if_pos q3]
        (repeat' (first | omega | (with_reducible exact True.intro) | exact ⟨by omega, by omega⟩ | (with_reducible exact Or.inr trivial) | (with_reducible exact Or.inl trivial) | (with_reducible assumption) | (with_reducible exact Same.refl) | (with_reducible rfl) | (with_reducible refine And.intro ?_ ?_) | (with_reducible intro _)))
      · rw [if_neg q3]
        (repeat' (first | omega | (with_reducible exact True.intro) | exact ⟨by omega, by omega⟩ | (with_reducible exact Or.inr trivial) | (with_reducible exact Or.inl trivial) | (with_reducible assumption) | (with_reducible exact Same.refl) | (with_reducible rfl) | (with_reducible refine And.intro ?_ ?_) | (with_reducible intro _)))
  · have e0 := heq0 q
    subst q
    subst e0
    have es : sgI 0 = 0 := rfl
    rw [es]
    simp only [wR, wB, wE0, wE1, wE2, wE3, g0, gS, s10, s11, s1S, s20, s21, s2S, kl0, kl1, kl2, kl3, sp0, sp1, sp2, sp3, cn1, cn2, cn3, cn4, cn5, cn6, jJa, lk0, lk1, jmS, jmN, s4_0, s4_1, s4_2, s4_3, s4_4, sw0, sw1, cKs, cKn, true_and, and_true, List.map_cons, List.map_nil, Nat.reduceAdd, Nat.zero_add, Int.reduceAdd, Nat.reduceEqDiff, reduceIte, Classical.not_not, Int.reduceEq, not_true_eq_false, not_false_eq_true, false_imp_iff, true_imp_iff, and_self]
    (repeat' (first | omega | (with_reducible exact True.intro) | exact ⟨by omega, by omega⟩ | (with_reducible exact Or.inr trivial) | (with_reducible exact Or.inl trivial) | (with_reducible assumption) | (with_reducible exact Same.refl) | (with_reducible rfl) | (with_reducible refine And.intro ?_ ?_) | (with_reducible intro _)))
    refine MS.to hlost fun _ => ?_
    simp only [wR, wB, wE0, wE1, wE2, wE3, g0, gS, s10, s11, s1S, s20, s21, s2S, kl0, kl1, kl2, kl3, sp0, sp1, sp2, sp3, cn1, cn2, cn3, cn4, cn5, cn6, jJa, lk0, lk1, jmS, jmN, s4_0, s4_1, s4_2, s4_3, s4_4, sw0, sw1, cKs, cKn, true_and, and_true, List.map_cons, List.map_nil, Nat.reduceAdd, Nat.zero_add, Int.reduceAdd, Nat.reduceEqDiff, reduceIte, Classical.not_not, b_Du_isBest, shDu]
    subst hQ
    by_cases qc : cF = 0
    · rw [if_pos qc, if_neg (by omega)]
      (repeat' (first | omega | (with_reducible exact True.intro) | exact ⟨by omega, by omega⟩ | (with_reducible exact Or.inr trivial) | (with_reducible exact Or.inl trivial) | (with_reducible assumption) | (with_reducible exact Same.refl) | (with_reducible rfl) | (with_reducible refine And.intro ?_ ?_) | (with_reducible intro _)))
    · rw [if_neg qc, if_pos (by omega)]
      (repeat' (first | omega | (with_reducible exact True.intro) | exact ⟨by omega, by omega⟩ | (with_reducible exact Or.inr trivial) | (with_reducible exact Or.inl trivial) | (with_reducible assumption) | (with_reducible exact Same.refl) | (with_reducible rfl) | (with_reducible refine And.intro ?_ ?_) | (with_reducible intro _)))
  · have es : sgI v = 1 := by unfold sgI; rw [if_pos q]
    have ea : abI v = v := by unfold abI; rw [if_neg (by omega)]
    rw [ea] at d2
    have d2' := d2 (by omega)
    have h2v' := h2v (by omega)
    have hiff : cF = v ↔ cU = v := by
      have a := hth v (by omega) (by omega)
      have b := hth (v + 1) (by omega) (by omega)
      omega
    rw [es]
    simp only [wR, wB, wE0, wE1, wE2, wE3, g0, gS, s10, s11, s1S, s20, s21, s2S, kl0, kl1, kl2, kl3, sp0, sp1, sp2, sp3, cn1, cn2, cn3, cn4, cn5, cn6, jJa, lk0, lk1, jmS, jmN, s4_0, s4_1, s4_2, s4_3, s4_4, sw0, sw1, cKs, cKn, true_and, and_true, List.map_cons, List.map_nil, Nat.reduceAdd, Nat.zero_add, Int.reduceAdd, Nat.reduceEqDiff, reduceIte, Classical.not_not, Int.reduceEq, not_true_eq_false, not_false_eq_true, false_imp_iff, true_imp_iff, and_self]
    (repeat' (first | omega | (with_reducible exact True.intro) | exact ⟨by omega, by omega⟩ | (with_reducible exact Or.inr trivial) | (with_reducible exact Or.inl trivial) | (with_reducible assumption) | (with_reducible exact Same.refl) | (with_reducible rfl) | (with_reducible refine And.intro ?_ ?_) | (with_reducible intro _)))
    refine MS.to hwon fun _ => ?_
    simp only [wR, wB, wE0, wE1, wE2, wE3, g0, gS, s10, s11, s1S, s20, s21, s2S, kl0, kl1, kl2, kl3, sp0, sp1, sp2, sp3, cn1, cn2, cn3, cn4, cn5, cn6, jJa, lk0, lk1, jmS, jmN, s4_0, s4_1, s4_2, s4_3, s4_4, sw0, sw1, cKs, cKn, true_and, and_true, List.map_cons, List.map_nil, Nat.reduceAdd, Nat.zero_add, Int.reduceAdd, Nat.reduceEqDiff, reduceIte, Classical.not_not, b_Du_isBest, shDu, h2, d2']
    subst hQ
    by_cases qc : cF = v
    · have := hiff.mp qc
      rw [if_pos qc, if_pos (by omega)]
      (repeat' (first | omega | (with_reducible exact True.intro) | exact ⟨by omega, by omega⟩ | (with_reducible exact Or.inr trivial) | (with_reducible exact Or.inl trivial) | (with_reducible assumption) | (with_reducible exact Same.refl) | (with_reducible rfl) | (with_reducible refine And.intro ?_ ?_) | (with_reducible intro _)))
    · have : ¬ cU = v := fun e => qc (hiff.mpr e)
      rw [if_neg qc]
      by_cases q3 : 0 < cU
      · rw [if_pos q3]
        (repeat' (first | omega | (with_reducible exact True.intro) | exact ⟨by omega, by omega⟩ | (with_reducible exact Or.inr trivial) | (with_reducible exact Or.inl trivial) | (with_reducible assumption) | (with_reducible exact Same.refl) | (with_reducible rfl) | (with_reducible refine And.intro ?_ ?_) | (with_reducible intro _)))
      · rw [if_neg q3]
        (repeat' (first | omega | (with_reducible exact True.intro) | exact ⟨by omega, by omega⟩ | (with_reducible exact Or.inr trivial) | (with_reducible exact Or.inl trivial) | (with_reducible assumption) | (with_reducible exact Same.refl) | (with_reducible rfl) | (with_reducible refine And.intro ?_ ?_) | (with_reducible intro _)))
set_option maxRecDepth 20000 in
theorem c_Du_firstBest {h : Hl} {sd : Nat → Nat} {cold s0 r : Nat} {l : List Nat} (hd : 12 ≤ d) (hok : HlOK h) (hS : StOK M h sd cold (2 ^ h.P - 1)) (hD : DU M l (VV 32 h sd cold r)) (hR : RdD h sd cold r s0 l) (hc : clB h sd cold l) (hl : l.length ≤ 3125) (hs : s0 ∈ l) (hs5 : s0 < 5 ^ h.P) (h2 : M 53 2 = s0) :
    MS G d mi_Du_firstBest [vr 53, vr 33] M (fun r M' => r = some (vi (telI h sd cold s0)) ∧ StOK M' h sd cold (2 ^ h.P - 1) ∧ Same [33] M M') := by
  have hP := hok.1
  have h5 := p5 hP
  have hO := mO_lt (h := h) (sd := sd) (s := s0) hP
  obtain ⟨t, ht⟩ := TelP_ex hc hl hs
  rw [telI_of ht]
  obtain ⟨t1, t2, t3, t4⟩ := ht
  have hab : ablS h.P s0 < 32 := bitsP32 hP
  refine MS.by ck_Du_firstBest [some (vr 53), some (vr 33), none, none, none] fun _ _ => ?_
  generalize hQ : (fun (r : Option AV) (M' : AM) => r = some (vi t) ∧ StOK M' h sd cold (2 ^ h.P - 1) ∧ Same [33] M M') = Q
  refine AW.run ck_Du_firstBest [25] 10 0 ?_
  simp only [wR, wB, wE0, wE1, wE2, wE3, g0, gS, s10, s11, s1S, s20, s21, s2S, kl0, kl1, kl2, kl3, sp0, sp1, sp2, sp3, cn1, cn2, cn3, cn4, cn5, cn6, jJa, lk0, lk1, jmS, jmN, s4_0, s4_1, s4_2, s4_3, s4_4, sw0, sw1, cKs, cKn, true_and, and_true, List.map_cons, List.map_nil, Nat.reduceAdd, Nat.zero_add, Int.reduceAdd, Nat.reduceEqDiff, reduceIte, Classical.not_not, b_Du_firstBest, shDu, shSt, h2]
  refine ⟨by omega, (c_St_standAt hok hS hs5).mono ?_⟩
  rintro r' N okN ⟨rfl, v1, v2⟩
  have e6 : N 33 6 = ((ablS h.P s0 : Nat) : Int) := by rw [v1.2.1, abW_all hP]
  have e34 : N 34 0 = ((sideS sd h.P 0 : Nat) : Int) := v1.1.2.2.1.2.2.2.2.2.1
  have hDN : DU N l (VV 32 h sd cold r) := fun x hx => by rw [v2.at 54 _ (by (first | decide | (simp only [List.mem_cons, List.not_mem_nil, or_false, not_or, not_false_eq_true, and_true]; omega) | (simp [List.mem_cons]; done))), v2.at 55 _ (by (first | decide | (simp only [List.mem_cons, List.not_mem_nil, or_false, not_or, not_false_eq_true, and_true]; omega) | (simp [List.mem_cons]; done)))]; exact hD x hx
  have h2N : N 53 2 = s0 := by rw [v2.at 53 _ (by (first | decide | (simp only [List.mem_cons, List.not_mem_nil, or_false, not_or, not_false_eq_true, and_true]; omega) | (simp [List.mem_cons]; done)))]; exact h2
  have hbest := fun own ho hos => c_Du_isBest (G := G) (d := d - 1) (M := N) (own := own) (by omega) hok v1 hDN hR hc hl hs (by omega) h2N ho hos
  generalize hcF : (fun own => cmT 32 h sd cold (VF 32 h sd cold) s0 own) = cF
  have hcF' : ∀ own, cmT 32 h sd cold (VF 32 h sd cold) s0 own = cF own := fun own => by rw [← hcF]
  simp only [hcF'] at hbest t3 t4
  generalize VF 32 h sd cold s0 = v at *
  have loop : ∀ (k own i : Nat), own + k = t → i ≤ own → sbM (mO h sd s0) own → AW G d mi_Du_firstBest Q 25 [some (vr 53), some (vr 33), some (vi (mO h sd s0)), some (vi own), some (vi i)] [] N := by
    intro k
    induction k using Nat.strongRecOn with
    | ind k ih =>
      intro own i hk hi hsb
      refine AW.run ck_Du_firstBest [25, 58] 10 25 ?_
      simp only [wR, wB, wE0, wE1, wE2, wE3, g0, gS, s10, s11, s1S, s20, s21, s2S, kl0, kl1, kl2, kl3, sp0, sp1, sp2, sp3, cn1, cn2, cn3, cn4, cn5, cn6, jJa, lk0, lk1, jmS, jmN, s4_0, s4_1, s4_2, s4_3, s4_4, sw0, sw1, cKs, cKn, true_and, and_true, List.map_cons, List.map_nil, Nat.reduceAdd, Nat.zero_add, Int.reduceAdd, Nat.reduceEqDiff, reduceIte, Classical.not_not, b_Du_firstBest, shDu]
      (repeat' (first | omega | (with_reducible exact True.intro) | exact ⟨by omega, by omega⟩ | (with_reducible exact Or.inr trivial) | (with_reducible exact Or.inl trivial) | (with_reducible assumption) | (with_reducible exact Same.refl) | (with_reducible rfl) | (with_reducible refine And.intro ?_ ?_) | (with_reducible intro _)))
      refine MS.to (hbest own (by omega) hsb) fun _ => ?_
      simp only [wR, wB, wE0, wE1, wE2, wE3, g0, gS, s10, s11, s1S, s20, s21, s2S, kl0, kl1, kl2, kl3, sp0, sp1, sp2, sp3, cn1, cn2, cn3, cn4, cn5, cn6, jJa, lk0, lk1, jmS, jmN, s4_0, s4_1, s4_2, s4_3, s4_4, sw0, sw1, cKs, cKn, true_and, and_true, List.map_cons, List.map_nil, Nat.reduceAdd, Nat.zero_add, Int.reduceAdd, Nat.reduceEqDiff, reduceIte, Classical.not_not, b_Du_firstBest]
      by_cases q : own = t
      · subst q
        rw [if_pos t3]
        subst hQ
        have := v1.1
        (repeat' (first | omega | (with_reducible exact True.intro) | exact ⟨by omega, by omega⟩ | (with_reducible exact Or.inr trivial) | (with_reducible exact Or.inl trivial) | (with_reducible assumption) | (with_reducible exact Same.refl) | (with_reducible rfl) | (with_reducible refine And.intro ?_ ?_) | (with_reducible intro _)))
      · rw [if_neg (t4 own (by omega) hsb)]
        obtain ⟨n', n1, n2, n3, n4⟩ := next_M (show own < 32 by omega) hO hsb
        have hn' : n' ≤ t := by
          rcases Nat.lt_or_ge t n' with e | e
          · exact absurd t2 (n3 t (by omega) e)
          · exact e
        (repeat' (first | omega | (with_reducible exact True.intro) | exact ⟨by omega, by omega⟩ | (with_reducible exact Or.inr trivial) | (with_reducible exact Or.inl trivial) | (with_reducible assumption) | (with_reducible exact Same.refl) | (with_reducible rfl) | (with_reducible refine And.intro ?_ ?_) | (with_reducible intro _)))
        refine MS.to (c_H_nextWithin (show own < 32 by omega) hO) fun _ => ?_
        rcases n4 with ⟨e1, e2⟩ | ⟨e1, e2, e3, e4⟩
        · omega
        · have := ih (t - n') (by omega) n' (i + 1) (by omega) (by omega) e3
          rw [e1]
          simp only [wR, wB, wE0, wE1, wE2, wE3, g0, gS, s10, s11, s1S, s20, s21, s2S, kl0, kl1, kl2, kl3, sp0, sp1, sp2, sp3, cn1, cn2, cn3, cn4, cn5, cn6, jJa, lk0, lk1, jmS, jmN, s4_0, s4_1, s4_2, s4_3, s4_4, sw0, sw1, cKs, cKn, true_and, and_true, List.map_cons, List.map_nil, Nat.reduceAdd, Nat.zero_add, Int.reduceAdd, Nat.reduceEqDiff, reduceIte, Classical.not_not, b_Du_firstBest, ce]
          (repeat' (first | omega | (with_reducible exact True.intro) | exact ⟨by omega, by omega⟩ | (with_reducible exact Or.inr trivial) | (with_reducible exact Or.inl trivial) | (with_reducible assumption) | (with_reducible exact Same.refl) | (with_reducible rfl) | (with_reducible refine And.intro ?_ ?_) | (with_reducible intro _)))
  have := loop t 0 0 (by omega) (by omega) (sbM_0 _)
  simp only [wR, wB, wE0, wE1, wE2, wE3, g0, gS, s10, s11, s1S, s20, s21, s2S, kl0, kl1, kl2, kl3, sp0, sp1, sp2, sp3, cn1, cn2, cn3, cn4, cn5, cn6, jJa, lk0, lk1, jmS, jmN, s4_0, s4_1, s4_2, s4_3, s4_4, sw0, sw1, cKs, cKn, true_and, and_true, List.map_cons, List.map_nil, Nat.reduceAdd, Nat.zero_add, Int.reduceAdd, Nat.reduceEqDiff, reduceIte, Classical.not_not, b_Du_firstBest, shDu, shSt, e6, e34, bAnd_n (show ablS h.P s0 < 2 ^ 31 by omega)]
  rw [show ablS h.P s0 &&& sideS sd h.P 0 = mO h sd s0 from rfl]
  (repeat' (first | omega | (with_reducible exact True.intro) | exact ⟨by omega, by omega⟩ | (with_reducible exact Or.inr trivial) | (with_reducible exact Or.inl trivial) | (with_reducible assumption) | (with_reducible exact Same.refl) | (with_reducible rfl) | (with_reducible refine And.intro ?_ ?_) | (with_reducible intro _)))
  all_goals exact this
end FI
