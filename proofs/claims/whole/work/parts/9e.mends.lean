section ME
variable {G : AG} {d : Nat} {M : AM}
theorem MR.lay5 {M N : AM} {σ : Sg} (h : MR M σ) (hs : Same [117, 122, 123, 125, 126, 127, 128, 129, 130] M N) (hf : ∀ y : Int, y ≠ 27 → N 117 y = M 117 y) : MR N σ ∧ Lo M N := ⟨h.eq (hf _ (by omega)) (hf _ (by omega)) (hf _ (by omega)) (fun x hx => hs x (by (first | decide | (simp only [List.mem_cons, List.not_mem_nil, or_false, not_or, not_false_eq_true, and_true]; omega) | (simp [List.mem_cons]; done)))), hs.lo (by intro x hx; simp only [List.mem_cons, List.not_mem_nil, or_false] at hx; omega)⟩
theorem VF_in {h : Hl} {sd : Nat → Nat} {cold s : Nat} : -9999 ≤ VF 32 h sd cold s ∧ VF 32 h sd cold s ≤ 9999 := VV_in (N := 32) (by omega) _ _
theorem c_Md_outcome {B : Nat} {σ : Sg} (hd : 30 ≤ d) (ok : SgOK B σ) (hR : MR M σ) : MS G d mi_Md_outcome [vr 117] M (fun r M' => r = some (vi (aOutcome σ)) ∧ MR M' σ ∧ Lo M M') := by
  have hR' := hR.thr
  have hok := ok.2.2.1
  have mok := ok.2.2.2.1.1
  refine MS.by ck_Md_outcome [some (vr 117), none] fun _ _ => ?_
  generalize hQ : (fun (r : Option AV) (M' : AM) => r = some (vi (aOutcome σ)) ∧ MR M' σ ∧ Lo M M') = Q
  refine AW.run ck_Md_outcome [] 10 0 ?_
  simp only [wR, wB, wE0, wE1, wE2, wE3, g0, gS, s10, s11, s1S, s20, s21, s2S, kl0, kl1, kl2, kl3, sp0, sp1, sp2, sp3, cn1, cn2, cn3, cn4, cn5, cn6, jJa, lk0, lk1, jmS, jmN, s4_0, s4_1, s4_2, s4_3, s4_4, sw0, sw1, cKs, cKn, true_and, and_true, List.map_cons, List.map_nil, Nat.reduceAdd, Nat.zero_add, Int.reduceAdd, Nat.reduceEqDiff, reduceIte, Classical.not_not, b_Md_outcome, shMd]
  have hlo : Lo M (up M 117 0 0) := thr_lo
  generalize up M 117 0 0 = N at hR' hlo ⊢
  obtain ⟨hH, hm, -⟩ := hR'.past
  refine ⟨by omega, (c_Md_laysOutcome (d := d - 1) (by omega) hok mok hH hm).mono ?_⟩
  rintro r M1 okM1 ⟨⟨l, rfl, L1, L2⟩, u1, u2⟩
  obtain ⟨c1, c2⟩ := hR'.lay5 u1 u2
  have c3 := hlo.trans c2
  have hv := VF_in (h := σ.h) (sd := σ.m.sd) (cold := σ.m.cold) (s := cod σ.m.st σ.h.P)
  subst hQ
  unfold aOutcome
  generalize VF 32 σ.h σ.m.sd σ.m.cold (cod σ.m.st σ.h.P) = v at hv ⊢
  by_cases q1 : 0 < v
  · have e : sgI v = 1 := by unfold sgI; rw [if_pos q1]
    rw [e]
    simp only [wR, wB, wE0, wE1, wE2, wE3, g0, gS, s10, s11, s1S, s20, s21, s2S, kl0, kl1, kl2, kl3, sp0, sp1, sp2, sp3, cn1, cn2, cn3, cn4, cn5, cn6, jJa, lk0, lk1, jmS, jmN, s4_0, s4_1, s4_2, s4_3, s4_4, sw0, sw1, cKs, cKn, true_and, and_true, List.map_cons, List.map_nil, Nat.reduceAdd, Nat.zero_add, Int.reduceAdd, Nat.reduceEqDiff, reduceIte, Classical.not_not, b_Md_outcome, shMd]
    (repeat' (first | omega | (with_reducible exact True.intro) | exact ⟨by omega, by omega⟩ | (with_reducible exact Or.inr trivial) | (with_reducible exact Or.inl trivial) | (with_reducible assumption) | (with_reducible exact Same.refl) | (with_reducible rfl) | (with_reducible refine And.intro ?_ ?_) | (with_reducible intro _)))
  · by_cases q2 : v < 0
    · have e : sgI v = -1 := by unfold sgI; rw [if_neg q1, if_pos q2]
      rw [e]
      simp only [wR, wB, wE0, wE1, wE2, wE3, g0, gS, s10, s11, s1S, s20, s21, s2S, kl0, kl1, kl2, kl3, sp0, sp1, sp2, sp3, cn1, cn2, cn3, cn4, cn5, cn6, jJa, lk0, lk1, jmS, jmN, s4_0, s4_1, s4_2, s4_3, s4_4, sw0, sw1, cKs, cKn, true_and, and_true, List.map_cons, List.map_nil, Nat.reduceAdd, Nat.zero_add, Int.reduceAdd, Nat.reduceEqDiff, reduceIte, Classical.not_not, b_Md_outcome, shMd]
      (repeat' (first | omega | (with_reducible exact True.intro) | exact ⟨by omega, by omega⟩ | (with_reducible exact Or.inr trivial) | (with_reducible exact Or.inl trivial) | (with_reducible assumption) | (with_reducible exact Same.refl) | (with_reducible rfl) | (with_reducible refine And.intro ?_ ?_) | (with_reducible intro _)))
    · have e : sgI v = 0 := by unfold sgI; rw [if_neg q1, if_neg q2]
      rw [e]
      simp only [wR, wB, wE0, wE1, wE2, wE3, g0, gS, s10, s11, s1S, s20, s21, s2S, kl0, kl1, kl2, kl3, sp0, sp1, sp2, sp3, cn1, cn2, cn3, cn4, cn5, cn6, jJa, lk0, lk1, jmS, jmN, s4_0, s4_1, s4_2, s4_3, s4_4, sw0, sw1, cKs, cKn, true_and, and_true, List.map_cons, List.map_nil, Nat.reduceAdd, Nat.zero_add, Int.reduceAdd, Nat.reduceEqDiff, reduceIte, Classical.not_not, b_Md_outcome, shMd]
      (repeat' (first | omega | (with_reducible exact True.intro) | exact ⟨by omega, by omega⟩ | (with_reducible exact Or.inr trivial) | (with_reducible exact Or.inl trivial) | (with_reducible assumption) | (with_reducible exact Same.refl) | (with_reducible rfl) | (with_reducible refine And.intro ?_ ?_) | (with_reducible intro _)))
theorem c_Md_ends {B : Nat} {σ : Sg} (hd : 30 ≤ d) (ok : SgOK B σ) (hR : MR M σ) : MS G d mi_Md_ends [vr 117] M (fun r M' => r = some (vi (aEnds σ)) ∧ MR M' σ ∧ Lo M M') := by
  have hR' := hR.thr
  have hok := ok.2.2.1
  have mok := ok.2.2.2.1.1
  refine MS.by ck_Md_ends [some (vr 117), none] fun _ _ => ?_
  generalize hQ : (fun (r : Option AV) (M' : AM) => r = some (vi (aEnds σ)) ∧ MR M' σ ∧ Lo M M') = Q
  refine AW.run ck_Md_ends [] 10 0 ?_
  simp only [wR, wB, wE0, wE1, wE2, wE3, g0, gS, s10, s11, s1S, s20, s21, s2S, kl0, kl1, kl2, kl3, sp0, sp1, sp2, sp3, cn1, cn2, cn3, cn4, cn5, cn6, jJa, lk0, lk1, jmS, jmN, s4_0, s4_1, s4_2, s4_3, s4_4, sw0, sw1, cKs, cKn, true_and, and_true, List.map_cons, List.map_nil, Nat.reduceAdd, Nat.zero_add, Int.reduceAdd, Nat.reduceEqDiff, reduceIte, Classical.not_not, b_Md_ends, shMd]
  have hlo : Lo M (up M 117 0 0) := thr_lo
  generalize up M 117 0 0 = N at hR' hlo ⊢
  obtain ⟨hH, hm, -⟩ := hR'.past
  refine ⟨by omega, (c_Md_laysOutcome (d := d - 1) (by omega) hok mok hH hm).mono ?_⟩
  rintro r M1 okM1 ⟨⟨l, rfl, L1, L2⟩, u1, u2⟩
  obtain ⟨c1, c2⟩ := hR'.lay5 u1 u2
  have c3 := hlo.trans c2
  have hv := VF_in (h := σ.h) (sd := σ.m.sd) (cold := σ.m.cold) (s := cod σ.m.st σ.h.P)
  subst hQ
  unfold aEnds
  generalize VF 32 σ.h σ.m.sd σ.m.cold (cod σ.m.st σ.h.P) = v at hv ⊢
  by_cases q1 : v = 0
  · subst q1
    rw [if_pos rfl]
    simp only [wR, wB, wE0, wE1, wE2, wE3, g0, gS, s10, s11, s1S, s20, s21, s2S, kl0, kl1, kl2, kl3, sp0, sp1, sp2, sp3, cn1, cn2, cn3, cn4, cn5, cn6, jJa, lk0, lk1, jmS, jmN, s4_0, s4_1, s4_2, s4_3, s4_4, sw0, sw1, cKs, cKn, true_and, and_true, List.map_cons, List.map_nil, Nat.reduceAdd, Nat.zero_add, Int.reduceAdd, Nat.reduceEqDiff, reduceIte, Classical.not_not, b_Md_ends, shMd, Int.reduceEq, not_true_eq_false, not_false_eq_true, false_imp_iff, true_imp_iff, and_self]
    (repeat' (first | omega | (with_reducible exact True.intro) | exact ⟨by omega, by omega⟩ | (with_reducible exact Or.inr trivial) | (with_reducible exact Or.inl trivial) | (with_reducible assumption) | (with_reducible exact Same.refl) | (with_reducible rfl) | (with_reducible refine And.intro ?_ ?_) | (with_reducible intro _)))
  · rw [if_neg q1]
    by_cases q2 : v < 0
    · have e : abI v = -v := by unfold abI; rw [if_pos q2]
      rw [e]
      simp only [wR, wB, wE0, wE1, wE2, wE3, g0, gS, s10, s11, s1S, s20, s21, s2S, kl0, kl1, kl2, kl3, sp0, sp1, sp2, sp3, cn1, cn2, cn3, cn4, cn5, cn6, jJa, lk0, lk1, jmS, jmN, s4_0, s4_1, s4_2, s4_3, s4_4, sw0, sw1, cKs, cKn, true_and, and_true, List.map_cons, List.map_nil, Nat.reduceAdd, Nat.zero_add, Int.reduceAdd, Nat.reduceEqDiff, reduceIte, Classical.not_not, b_Md_ends, shMd]
      (repeat' (first | omega | (with_reducible exact True.intro) | exact ⟨by omega, by omega⟩ | (with_reducible exact Or.inr trivial) | (with_reducible exact Or.inl trivial) | (with_reducible assumption) | (with_reducible exact Same.refl) | (with_reducible rfl) | (with_reducible refine And.intro ?_ ?_) | (with_reducible intro _)))
    · have e : abI v = v := by unfold abI; rw [if_neg q2]
      rw [e]
      simp only [wR, wB, wE0, wE1, wE2, wE3, g0, gS, s10, s11, s1S, s20, s21, s2S, kl0, kl1, kl2, kl3, sp0, sp1, sp2, sp3, cn1, cn2, cn3, cn4, cn5, cn6, jJa, lk0, lk1, jmS, jmN, s4_0, s4_1, s4_2, s4_3, s4_4, sw0, sw1, cKs, cKn, true_and, and_true, List.map_cons, List.map_nil, Nat.reduceAdd, Nat.zero_add, Int.reduceAdd, Nat.reduceEqDiff, reduceIte, Classical.not_not, b_Md_ends, shMd]
      (repeat' (first | omega | (with_reducible exact True.intro) | exact ⟨by omega, by omega⟩ | (with_reducible exact Or.inr trivial) | (with_reducible exact Or.inl trivial) | (with_reducible assumption) | (with_reducible exact Same.refl) | (with_reducible rfl) | (with_reducible refine And.intro ?_ ?_) | (with_reducible intro _)))
theorem c_Md_tells {B : Nat} {σ : Sg} (hd : 30 ≤ d) (ok : SgOK B σ) (hR : MR M σ) : MS G d mi_Md_tells [vr 117] M (fun r M' => r = some (vi (aTells σ)) ∧ MR M' σ ∧ Lo M M') := by
  have hR' := hR.thr
  have hok := ok.2.2.1
  have mok := ok.2.2.2.1.1
  refine MS.by ck_Md_tells [some (vr 117), none, none, none] fun _ _ => ?_
  generalize hQ : (fun (r : Option AV) (M' : AM) => r = some (vi (aTells σ)) ∧ MR M' σ ∧ Lo M M') = Q
  refine AW.run ck_Md_tells [17] 10 0 ?_
  simp only [wR, wB, wE0, wE1, wE2, wE3, g0, gS, s10, s11, s1S, s20, s21, s2S, kl0, kl1, kl2, kl3, sp0, sp1, sp2, sp3, cn1, cn2, cn3, cn4, cn5, cn6, jJa, lk0, lk1, jmS, jmN, s4_0, s4_1, s4_2, s4_3, s4_4, sw0, sw1, cKs, cKn, true_and, and_true, List.map_cons, List.map_nil, Nat.reduceAdd, Nat.zero_add, Int.reduceAdd, Nat.reduceEqDiff, reduceIte, Classical.not_not, b_Md_tells, shMd]
  have hlo : Lo M (up M 117 0 0) := thr_lo
  generalize up M 117 0 0 = N at hR' hlo ⊢
  obtain ⟨hH, hm, -⟩ := hR'.past
  refine ⟨by omega, (c_Md_laysOutcome (d := d - 1) (by omega) hok mok hH hm).mono ?_⟩
  rintro r M1 okM1 ⟨⟨l, rfl, L1, L2⟩, u1, u2⟩
  obtain ⟨c1, c2⟩ := hR'.lay5 u1 u2
  have c3 := hlo.trans c2
  obtain ⟨hH1, hm1, -⟩ := c1.past
  have hP := hok.1
  simp only [wR, wB, wE0, wE1, wE2, wE3, g0, gS, s10, s11, s1S, s20, s21, s2S, kl0, kl1, kl2, kl3, sp0, sp1, sp2, sp3, cn1, cn2, cn3, cn4, cn5, cn6, jJa, lk0, lk1, jmS, jmN, s4_0, s4_1, s4_2, s4_3, s4_4, sw0, sw1, cKs, cKn, true_and, and_true, List.map_cons, List.map_nil, Nat.reduceAdd, Nat.zero_add, Int.reduceAdd, Nat.reduceEqDiff, reduceIte, Classical.not_not, b_Md_tells, shMd]
  refine ⟨by omega, MS.to (c_Md_standNow hH1.2.1 hP (hm1.st mok)) fun _ => ?_⟩
  simp only [wR, wB, wE0, wE1, wE2, wE3, g0, gS, s10, s11, s1S, s20, s21, s2S, kl0, kl1, kl2, kl3, sp0, sp1, sp2, sp3, cn1, cn2, cn3, cn4, cn5, cn6, jJa, lk0, lk1, jmS, jmN, s4_0, s4_1, s4_2, s4_3, s4_4, sw0, sw1, cKs, cKn, true_and, and_true, List.map_cons, List.map_nil, Nat.reduceAdd, Nat.zero_add, Int.reduceAdd, Nat.reduceEqDiff, reduceIte, Classical.not_not, b_Md_tells, shMd]
  have hnd := L1.1.2.2.2.1
  have hl3 := L1.1.2.2.2.2
  have hlen := len_lt hnd hl3
  have hcl := clB_P hP L1.2.1
  have hsin : cod σ.m.st σ.h.P ∈ l := (L1.2.1.2 _).mpr Rc.refl
  obtain ⟨t, ht⟩ := TelP_ex hcl hlen hsin
  have eT : aTells σ = t := telI_of ht
  obtain ⟨t1, t2, t3, t4⟩ := ht
  have hs3 := hl3 _ hsin
  have hv := VF_in (h := σ.h) (sd := σ.m.sd) (cold := σ.m.cold) (s := cod σ.m.st σ.h.P)
  have hct := fun own ho hos => c_Md_comesTo (G := G) (d := d - 1) (M := M1) (own := own) (V := VF 32 σ.h σ.m.sd σ.m.cold) (by omega) hok L1 L2 (fun x => VF_in) hsin ho hos
  have hW0 := sideS_lt (sd := σ.m.sd) (k := 0) hP
  have hab : ablS σ.h.P (cod σ.m.st σ.h.P) < 32 := bitsP32 hP
  have hL := fun own ho => (L1.2.2.2 _ hsin own ho).1
  have hcod := cod_100k hok mok
  generalize hsk : cod σ.m.st σ.h.P = sk at *
  have hcmb : ∀ own, cmT 32 σ.h σ.m.sd σ.m.cold (VF 32 σ.h σ.m.sd σ.m.cold) sk own = cmT 32 σ.h σ.m.sd σ.m.cold (VF 32 σ.h σ.m.sd σ.m.cold) sk own := fun _ => rfl
  generalize hcm : (fun own => cmT 32 σ.h σ.m.sd σ.m.cold (VF 32 σ.h σ.m.sd σ.m.cold) sk own) = cm at *
  have hcm' : ∀ own, cmT 32 σ.h σ.m.sd σ.m.cold (VF 32 σ.h σ.m.sd σ.m.cold) sk own = cm own := fun own => by rw [← hcm]
  simp only [hcm'] at t3 t4 hct
  generalize VF 32 σ.h σ.m.sd σ.m.cold sk = v at *
  have l17 : ∀ (p own : Nat), own + p = t → AW G d mi_Md_tells Q 17 [some (vr 117), some (vi v), some (vi sk), some (vi own)] [] M1 := by
    intro p
    induction p with
    | zero =>
      intro own hp
      obtain rfl : own = t := by omega
      have hsb := (sbM_and hab hW0 t1).mp t2
      have hq1 : own &&& (31 ^^^ sideS σ.m.sd σ.h.P 0) = 0 := hsb.2
      have hokP : okP σ.h.P (2 ^ σ.h.P - 1) sk own = true := by rw [okP_ev, decide_eq_true_eq]; exact hsb.1
      have e1 := hL own t1
      rw [if_pos hokP] at e1
      refine AW.run ck_Md_tells [59] 10 17 ?_
      simp only [wR, wB, wE0, wE1, wE2, wE3, g0, gS, s10, s11, s1S, s20, s21, s2S, kl0, kl1, kl2, kl3, sp0, sp1, sp2, sp3, cn1, cn2, cn3, cn4, cn5, cn6, jJa, lk0, lk1, jmS, jmN, s4_0, s4_1, s4_2, s4_3, s4_4, sw0, sw1, cKs, cKn, true_and, and_true, List.map_cons, List.map_nil, Nat.reduceAdd, Nat.zero_add, Int.reduceAdd, Nat.reduceEqDiff, reduceIte, Classical.not_not, b_Md_tells, shMd]
      refine ⟨by omega, MS.to (c_Md_sideOf (sd := σ.m.sd) (s := 0) hH1.2.1 hP (fun p hp => (hm1.sd mok p hp).1)) fun _ => ?_⟩
      rw [show bitsP (fun p => decide (σ.m.sd p = 0)) σ.h.P = sideS σ.m.sd σ.h.P 0 from rfl]
      simp only [wR, wB, wE0, wE1, wE2, wE3, g0, gS, s10, s11, s1S, s20, s21, s2S, kl0, kl1, kl2, kl3, sp0, sp1, sp2, sp3, cn1, cn2, cn3, cn4, cn5, cn6, jJa, lk0, lk1, jmS, jmN, s4_0, s4_1, s4_2, s4_3, s4_4, sw0, sw1, cKs, cKn, true_and, and_true, List.map_cons, List.map_nil, Nat.reduceAdd, Nat.zero_add, Int.reduceAdd, Nat.reduceEqDiff, reduceIte, Classical.not_not, b_Md_tells, shMd, bAndN_n t1 hW0, e1]
      (repeat' (first | omega | (with_reducible exact True.intro) | exact ⟨by omega, by omega⟩ | (with_reducible exact Or.inr trivial) | (with_reducible exact Or.inl trivial) | (with_reducible assumption) | (with_reducible exact Same.refl) | (with_reducible rfl) | (with_reducible refine And.intro ?_ ?_) | (with_reducible intro _)))
      refine MS.to (c_Md_sideOf (sd := σ.m.sd) (s := 1) hH1.2.1 hP (fun p hp => (hm1.sd mok p hp).1)) fun _ => ?_
      rw [show bitsP (fun p => decide (σ.m.sd p = 1)) σ.h.P = sideS σ.m.sd σ.h.P 1 from rfl]
      simp only [wR, wB, wE0, wE1, wE2, wE3, g0, gS, s10, s11, s1S, s20, s21, s2S, kl0, kl1, kl2, kl3, sp0, sp1, sp2, sp3, cn1, cn2, cn3, cn4, cn5, cn6, jJa, lk0, lk1, jmS, jmN, s4_0, s4_1, s4_2, s4_3, s4_4, sw0, sw1, cKs, cKn, true_and, and_true, List.map_cons, List.map_nil, Nat.reduceAdd, Nat.zero_add, Int.reduceAdd, Nat.reduceEqDiff, reduceIte, Classical.not_not, b_Md_tells, shMd]
      refine ⟨by omega, MS.to (hct own t1 t2) fun _ => ?_⟩
      simp only [wR, wB, wE0, wE1, wE2, wE3, g0, gS, s10, s11, s1S, s20, s21, s2S, kl0, kl1, kl2, kl3, sp0, sp1, sp2, sp3, cn1, cn2, cn3, cn4, cn5, cn6, jJa, lk0, lk1, jmS, jmN, s4_0, s4_1, s4_2, s4_3, s4_4, sw0, sw1, cKs, cKn, true_and, and_true, List.map_cons, List.map_nil, Nat.reduceAdd, Nat.zero_add, Int.reduceAdd, Nat.reduceEqDiff, reduceIte, Classical.not_not, b_Md_tells, shMd]
      subst hQ
      rw [eT]
      (repeat' (first | omega | (with_reducible exact True.intro) | exact ⟨by omega, by omega⟩ | (with_reducible exact Or.inr trivial) | (with_reducible exact Or.inl trivial) | (with_reducible assumption) | (with_reducible exact Same.refl) | (with_reducible rfl) | (with_reducible refine And.intro ?_ ?_) | (with_reducible intro _)))
    | succ p ih =>
      intro own hp
      have ho : own < 32 := by omega
      have a59 : AW G d mi_Md_tells Q 59 [some (vr 117), some (vi v), some (vi sk), some (vi own)] [] M1 := by
        have := ih (own + 1) (by omega)
        refine AW.run ck_Md_tells [17] 10 59 ?_
        simp only [wR, wB, wE0, wE1, wE2, wE3, g0, gS, s10, s11, s1S, s20, s21, s2S, kl0, kl1, kl2, kl3, sp0, sp1, sp2, sp3, cn1, cn2, cn3, cn4, cn5, cn6, jJa, lk0, lk1, jmS, jmN, s4_0, s4_1, s4_2, s4_3, s4_4, sw0, sw1, cKs, cKn, true_and, and_true, List.map_cons, List.map_nil, Nat.reduceAdd, Nat.zero_add, Int.reduceAdd, Nat.reduceEqDiff, reduceIte, Classical.not_not, b_Md_tells, ce]
        (repeat' (first | omega | (with_reducible exact True.intro) | exact ⟨by omega, by omega⟩ | (with_reducible exact Or.inr trivial) | (with_reducible exact Or.inl trivial) | (with_reducible assumption) | (with_reducible exact Same.refl) | (with_reducible rfl) | (with_reducible refine And.intro ?_ ?_) | (with_reducible intro _)))
      have e1 := hL own ho
      refine AW.run ck_Md_tells [59] 10 17 ?_
      simp only [wR, wB, wE0, wE1, wE2, wE3, g0, gS, s10, s11, s1S, s20, s21, s2S, kl0, kl1, kl2, kl3, sp0, sp1, sp2, sp3, cn1, cn2, cn3, cn4, cn5, cn6, jJa, lk0, lk1, jmS, jmN, s4_0, s4_1, s4_2, s4_3, s4_4, sw0, sw1, cKs, cKn, true_and, and_true, List.map_cons, List.map_nil, Nat.reduceAdd, Nat.zero_add, Int.reduceAdd, Nat.reduceEqDiff, reduceIte, Classical.not_not, b_Md_tells, shMd]
      refine ⟨by omega, MS.to (c_Md_sideOf (sd := σ.m.sd) (s := 0) hH1.2.1 hP (fun p hp => (hm1.sd mok p hp).1)) fun _ => ?_⟩
      rw [show bitsP (fun p => decide (σ.m.sd p = 0)) σ.h.P = sideS σ.m.sd σ.h.P 0 from rfl]
      by_cases q1 : own &&& (31 ^^^ sideS σ.m.sd σ.h.P 0) = 0
      · by_cases q2 : sbM (ablS σ.h.P sk) own
        · have hsb : sbM (mO σ.h σ.m.sd sk) own := (sbM_and hab hW0 ho).mpr ⟨q2, q1⟩
          have hokP : okP σ.h.P (2 ^ σ.h.P - 1) sk own = true := by rw [okP_ev, decide_eq_true_eq]; exact q2
          rw [if_pos hokP] at e1
          have hne := t4 own (by omega) hsb
          simp only [wR, wB, wE0, wE1, wE2, wE3, g0, gS, s10, s11, s1S, s20, s21, s2S, kl0, kl1, kl2, kl3, sp0, sp1, sp2, sp3, cn1, cn2, cn3, cn4, cn5, cn6, jJa, lk0, lk1, jmS, jmN, s4_0, s4_1, s4_2, s4_3, s4_4, sw0, sw1, cKs, cKn, true_and, and_true, List.map_cons, List.map_nil, Nat.reduceAdd, Nat.zero_add, Int.reduceAdd, Nat.reduceEqDiff, reduceIte, Classical.not_not, b_Md_tells, shMd, bAndN_n ho hW0, e1]
          (repeat' (first | omega | (with_reducible exact True.intro) | exact ⟨by omega, by omega⟩ | (with_reducible exact Or.inr trivial) | (with_reducible exact Or.inl trivial) | (with_reducible assumption) | (with_reducible exact Same.refl) | (with_reducible rfl) | (with_reducible refine And.intro ?_ ?_) | (with_reducible intro _)))
          refine MS.to (c_Md_sideOf (sd := σ.m.sd) (s := 1) hH1.2.1 hP (fun p hp => (hm1.sd mok p hp).1)) fun _ => ?_
          rw [show bitsP (fun p => decide (σ.m.sd p = 1)) σ.h.P = sideS σ.m.sd σ.h.P 1 from rfl]
          simp only [wR, wB, wE0, wE1, wE2, wE3, g0, gS, s10, s11, s1S, s20, s21, s2S, kl0, kl1, kl2, kl3, sp0, sp1, sp2, sp3, cn1, cn2, cn3, cn4, cn5, cn6, jJa, lk0, lk1, jmS, jmN, s4_0, s4_1, s4_2, s4_3, s4_4, sw0, sw1, cKs, cKn, true_and, and_true, List.map_cons, List.map_nil, Nat.reduceAdd, Nat.zero_add, Int.reduceAdd, Nat.reduceEqDiff, reduceIte, Classical.not_not, b_Md_tells, shMd]
          refine ⟨by omega, MS.to (hct own ho hsb) fun _ => ?_⟩
          simp only [wR, wB, wE0, wE1, wE2, wE3, g0, gS, s10, s11, s1S, s20, s21, s2S, kl0, kl1, kl2, kl3, sp0, sp1, sp2, sp3, cn1, cn2, cn3, cn4, cn5, cn6, jJa, lk0, lk1, jmS, jmN, s4_0, s4_1, s4_2, s4_3, s4_4, sw0, sw1, cKs, cKn, true_and, and_true, List.map_cons, List.map_nil, Nat.reduceAdd, Nat.zero_add, Int.reduceAdd, Nat.reduceEqDiff, reduceIte, Classical.not_not, b_Md_tells, shMd]
          (repeat' (first | omega | (with_reducible exact True.intro) | exact ⟨by omega, by omega⟩ | (with_reducible exact Or.inr trivial) | (with_reducible exact Or.inl trivial) | (with_reducible assumption) | (with_reducible exact Same.refl) | (with_reducible rfl) | (with_reducible refine And.intro ?_ ?_) | (with_reducible intro _)))
        · have hokP : okP σ.h.P (2 ^ σ.h.P - 1) sk own = false := by rw [okP_ev, decide_eq_false_iff_not]; exact q2
          rw [if_neg (by rw [hokP]; decide)] at e1
          simp only [wR, wB, wE0, wE1, wE2, wE3, g0, gS, s10, s11, s1S, s20, s21, s2S, kl0, kl1, kl2, kl3, sp0, sp1, sp2, sp3, cn1, cn2, cn3, cn4, cn5, cn6, jJa, lk0, lk1, jmS, jmN, s4_0, s4_1, s4_2, s4_3, s4_4, sw0, sw1, cKs, cKn, true_and, and_true, List.map_cons, List.map_nil, Nat.reduceAdd, Nat.zero_add, Int.reduceAdd, Nat.reduceEqDiff, reduceIte, Classical.not_not, b_Md_tells, shMd, bAndN_n ho hW0, e1, Int.reduceEq, not_true_eq_false, not_false_eq_true, false_imp_iff, true_imp_iff, and_self]
          (repeat' (first | omega | (with_reducible exact True.intro) | exact ⟨by omega, by omega⟩ | (with_reducible exact Or.inr trivial) | (with_reducible exact Or.inl trivial) | (with_reducible assumption) | (with_reducible exact Same.refl) | (with_reducible rfl) | (with_reducible refine And.intro ?_ ?_) | (with_reducible intro _)))
      · simp only [wR, wB, wE0, wE1, wE2, wE3, g0, gS, s10, s11, s1S, s20, s21, s2S, kl0, kl1, kl2, kl3, sp0, sp1, sp2, sp3, cn1, cn2, cn3, cn4, cn5, cn6, jJa, lk0, lk1, jmS, jmN, s4_0, s4_1, s4_2, s4_3, s4_4, sw0, sw1, cKs, cKn, true_and, and_true, List.map_cons, List.map_nil, Nat.reduceAdd, Nat.zero_add, Int.reduceAdd, Nat.reduceEqDiff, reduceIte, Classical.not_not, b_Md_tells, shMd, bAndN_n ho hW0]
        (repeat' (first | omega | (with_reducible exact True.intro) | exact ⟨by omega, by omega⟩ | (with_reducible exact Or.inr trivial) | (with_reducible exact Or.inl trivial) | (with_reducible assumption) | (with_reducible exact Same.refl) | (with_reducible rfl) | (with_reducible refine And.intro ?_ ?_) | (with_reducible intro _)))
  have := l17 t 0 (by omega)
  rw [nc0] at this
  exact this
end ME
