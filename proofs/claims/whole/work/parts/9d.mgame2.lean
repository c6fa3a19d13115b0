section MGG
variable {G : AG} {d : Nat} {M : AM}
set_option maxRecDepth 20000 in
theorem c_Md_laysOutcome {h : Hl} {m : Mo} (hd : 20 ≤ d) (hok : HlOK h) (mok : MoOK m) (hH : MH (M 118) h) (hm : MRow (fun y => M 118 (19 + y)) h.P m) :
    MS G d mi_Md_laysOutcome [vr 117] M (fun r M' => (∃ l, r = some (vi (VF 32 h m.sd m.cold (cod m.st h.P))) ∧ LSt M' h m.sd m.cold (2 ^ h.P - 1) (cod m.st h.P) l ∧ farI M' l (VF 32 h m.sd m.cold)) ∧ Same [117, 122, 123, 125, 126, 127, 128, 129, 130] M M' ∧ ∀ y : Int, y ≠ 27 → M' 117 y = M 117 y) := by
  have hP := hok.1
  have hs0 := cod_100k hok mok
  have hW0 := sideS_lt (sd := m.sd) (k := 0) hP
  have hW1 := sideS_lt (sd := m.sd) (k := 1) hP
  refine MS.by ck_Md_laysOutcome [some (vr 117), none, none, none, none, none, none, none, none] fun _ _ => ?_
  generalize hQ : (fun (r : Option AV) (M' : AM) => (∃ l, r = some (vi (VF 32 h m.sd m.cold (cod m.st h.P))) ∧ LSt M' h m.sd m.cold (2 ^ h.P - 1) (cod m.st h.P) l ∧ farI M' l (VF 32 h m.sd m.cold)) ∧ Same [117, 122, 123, 125, 126, 127, 128, 129, 130] M M' ∧ ∀ y : Int, y ≠ 27 → M' 117 y = M 117 y) = Q
  refine AW.run ck_Md_laysOutcome [22] 10 0 ?_
  simp only [wR, wB, wE0, wE1, wE2, wE3, g0, gS, s10, s11, s1S, s20, s21, s2S, kl0, kl1, kl2, kl3, sp0, sp1, sp2, sp3, cn1, cn2, cn3, cn4, cn5, cn6, jJa, lk0, lk1, jmS, jmN, s4_0, s4_1, s4_2, s4_3, s4_4, sw0, sw1, cKs, cKn, true_and, and_true, List.map_cons, List.map_nil, Nat.reduceAdd, Nat.zero_add, Int.reduceAdd, Nat.reduceEqDiff, reduceIte, Classical.not_not, b_Md_laysOutcome, shMd]
  refine ⟨by omega, MS.to (c_Md_everybody hH.2.1 hP) fun _ => ?_⟩
  simp only [wR, wB, wE0, wE1, wE2, wE3, g0, gS, s10, s11, s1S, s20, s21, s2S, kl0, kl1, kl2, kl3, sp0, sp1, sp2, sp3, cn1, cn2, cn3, cn4, cn5, cn6, jJa, lk0, lk1, jmS, jmN, s4_0, s4_1, s4_2, s4_3, s4_4, sw0, sw1, cKs, cKn, true_and, and_true, List.map_cons, List.map_nil, Nat.reduceAdd, Nat.zero_add, Int.reduceAdd, Nat.reduceEqDiff, reduceIte, Classical.not_not, b_Md_laysOutcome, shMd]
  refine ⟨by omega, (c_Md_laysStands (d := d - 1) (by omega) hok mok hH hm (all_lt hP)).mono ?_⟩
  rintro r0 M1 okM1 ⟨rfl, ⟨l, L0⟩, u1, u2⟩
  have e118 : M1 118 = M 118 := u1 118 (by (first | decide | (simp only [List.mem_cons, List.not_mem_nil, or_false, not_or, not_false_eq_true, and_true]; omega) | (simp [List.mem_cons]; done)))
  simp only [wR, wB, wE0, wE1, wE2, wE3, g0, gS, s10, s11, s1S, s20, s21, s2S, kl0, kl1, kl2, kl3, sp0, sp1, sp2, sp3, cn1, cn2, cn3, cn4, cn5, cn6, jJa, lk0, lk1, jmS, jmN, s4_0, s4_1, s4_2, s4_3, s4_4, sw0, sw1, cKs, cKn, true_and, and_true, List.map_cons, List.map_nil, Nat.reduceAdd, Nat.zero_add, Int.reduceAdd, Nat.reduceEqDiff, reduceIte, Classical.not_not, b_Md_laysOutcome, shMd]
  refine ⟨by omega, MS.to (c_Md_sideOf (sd := m.sd) (s := 0) (by rw [e118]; exact hH.2.1) hP (by rw [e118]; exact fun p hp => (hm.sd mok p hp).1)) fun _ => ?_⟩
  simp only [wR, wB, wE0, wE1, wE2, wE3, g0, gS, s10, s11, s1S, s20, s21, s2S, kl0, kl1, kl2, kl3, sp0, sp1, sp2, sp3, cn1, cn2, cn3, cn4, cn5, cn6, jJa, lk0, lk1, jmS, jmN, s4_0, s4_1, s4_2, s4_3, s4_4, sw0, sw1, cKs, cKn, true_and, and_true, List.map_cons, List.map_nil, Nat.reduceAdd, Nat.zero_add, Int.reduceAdd, Nat.reduceEqDiff, reduceIte, Classical.not_not, b_Md_laysOutcome, shMd]
  refine ⟨by omega, MS.to (c_Md_sideOf (sd := m.sd) (s := 1) (by rw [e118]; exact hH.2.1) hP (by rw [e118]; exact fun p hp => (hm.sd mok p hp).1)) fun _ => ?_⟩
  rw [show bitsP (fun p => decide (m.sd p = 0)) h.P = sideS m.sd h.P 0 from rfl, show bitsP (fun p => decide (m.sd p = 1)) h.P = sideS m.sd h.P 1 from rfl]
  simp only [wR, wB, wE0, wE1, wE2, wE3, g0, gS, s10, s11, s1S, s20, s21, s2S, kl0, kl1, kl2, kl3, sp0, sp1, sp2, sp3, cn1, cn2, cn3, cn4, cn5, cn6, jJa, lk0, lk1, jmS, jmN, s4_0, s4_1, s4_2, s4_3, s4_4, sw0, sw1, cKs, cKn, true_and, and_true, List.map_cons, List.map_nil, Nat.reduceAdd, Nat.zero_add, Int.reduceAdd, Nat.reduceEqDiff, reduceIte, Classical.not_not, b_Md_laysOutcome, shMd]
  have hnd := L0.1.2.2.2.1
  have hl3 := L0.1.2.2.2.2
  have hlen := len_lt hnd hl3
  have hcl := clB_P hP L0.2.1
  have hsin : cod m.st h.P ∈ l := (L0.2.1.2 _).mpr Rc.refl
  have keep : ∀ K : AM, Same [127, 128] M1 K → LSt K h m.sd m.cold (2 ^ h.P - 1) (cod m.st h.P) l ∧ Same [117, 122, 123, 125, 126, 127, 128, 129, 130] M K ∧ (∀ y : Int, y ≠ 27 → K 117 y = M 117 y) ∧ K 118 = M 118 := by
    intro K hK
    refine ⟨L0.far (hK.at 117 _ (by (first | decide | (simp only [List.mem_cons, List.not_mem_nil, or_false, not_or, not_false_eq_true, and_true]; omega) | (simp [List.mem_cons]; done)))) (fun x hx => hK x (by (first | decide | (simp only [List.mem_cons, List.not_mem_nil, or_false, not_or, not_false_eq_true, and_true]; omega) | (simp [List.mem_cons]; done)))), (u1.mono (by simp)).trans (hK.mono (by simp)), fun y hy => by rw [hK.at 117 _ (by (first | decide | (simp only [List.mem_cons, List.not_mem_nil, or_false, not_or, not_false_eq_true, and_true]; omega) | (simp [List.mem_cons]; done)))]; exact u2 y hy, ?_⟩
    rw [hK 118 (by (first | decide | (simp only [List.mem_cons, List.not_mem_nil, or_false, not_or, not_false_eq_true, and_true]; omega) | (simp [List.mem_cons]; done))), e118]
  have hVin := fun r x => VV_in (N := 32) (h := h) (sd := m.sd) (cold := m.cold) (by omega) r x
  have a233 : ∀ (r : Nat) (K : AM) (l3 l4 l5 l6 l7 l8 : Option AV), r ≤ 4000 → (∀ s, s ∈ l → VV 32 h m.sd m.cold (r + 1) s = VV 32 h m.sd m.cold r s) → Same [127, 128] M1 K → farI K l (VV 32 h m.sd m.cold (r + 1)) → AW G d mi_Md_laysOutcome Q 233 [some (vr 117), some (vi (sideS m.sd h.P 0)), some (vi (sideS m.sd h.P 1)), l3, l4, l5, l6, l7, l8] [] K := by
    intro r K l3 l4 l5 l6 l7 l8 hr hst hK hf
    obtain ⟨k1, k2, k3, k4⟩ := keep K hK
    have hVF := VF_fix hcl hlen hr hst
    have hfF : farI K l (VF 32 h m.sd m.cold) := fun s hs => by
      rw [hVF s hs, ← hst s hs]; exact hf s hs
    have e127 := (hfF _ hsin).1
    refine AW.run ck_Md_laysOutcome [] 10 233 ?_
    simp only [wR, wB, wE0, wE1, wE2, wE3, g0, gS, s10, s11, s1S, s20, s21, s2S, kl0, kl1, kl2, kl3, sp0, sp1, sp2, sp3, cn1, cn2, cn3, cn4, cn5, cn6, jJa, lk0, lk1, jmS, jmN, s4_0, s4_1, s4_2, s4_3, s4_4, sw0, sw1, cKs, cKn, true_and, and_true, List.map_cons, List.map_nil, Nat.reduceAdd, Nat.zero_add, Int.reduceAdd, Nat.reduceEqDiff, reduceIte, Classical.not_not, b_Md_laysOutcome, shMd]
    refine ⟨by omega, MS.to (c_Md_standNow (by rw [k4]; exact hH.2.1) hP (by rw [k4]; exact hm.st mok)) fun _ => ?_⟩
    simp only [wR, wB, wE0, wE1, wE2, wE3, g0, gS, s10, s11, s1S, s20, s21, s2S, kl0, kl1, kl2, kl3, sp0, sp1, sp2, sp3, cn1, cn2, cn3, cn4, cn5, cn6, jJa, lk0, lk1, jmS, jmN, s4_0, s4_1, s4_2, s4_3, s4_4, sw0, sw1, cKs, cKn, true_and, and_true, List.map_cons, List.map_nil, Nat.reduceAdd, Nat.zero_add, Int.reduceAdd, Nat.reduceEqDiff, reduceIte, Classical.not_not, b_Md_laysOutcome, shMd, e127]
    subst hQ
    exact ⟨by omega, ⟨l, rfl, k1, hfF⟩, k2, k3⟩
  -- a round
  have round : ∀ (q r : Nat) (K : AM) (l4 l5 l6 l7 l8 : Option AV), r + q = 3126 → r ≤ cntL h m.sd m.cold r l → Same [127, 128] M1 K → farI K l (VV 32 h m.sd m.cold r) → AW G d mi_Md_laysOutcome Q 50 [some (vr 117), some (vi (sideS m.sd h.P 0)), some (vi (sideS m.sd h.P 1)), some (vi 1), l4, l5, l6, l7, l8] [] K := by
    as_aux_lemma =>
      intro q
      induction q with
      | zero =>
        intro r K l4 l5 l6 l7 l8 hr hc
        have := cnt_le (h := h) (sd := m.sd) (cold := m.cold) (r := r) (l := l)
        omega
      | succ q ih =>
        intro r K0 l4 l5 l6 l7 l8 hr hc hK0 hf0
        -- copy
        have l191 : ∀ (p k b : Nat) (K : AM) (l5 l6 l7 l8 : Option AV), k + p = l.length → b ≤ 1 → (b = 1 ↔ ∃ s, s ∈ l ∧ VV 32 h m.sd m.cold (r + 1) s ≠ VV 32 h m.sd m.cold r s) → Same [127, 128] M1 K → (∀ j, j < k → K 127 (l.getD j 0 : Nat) = VV 32 h m.sd m.cold (r + 1) (l.getD j 0)) → (∀ s, s ∈ l → K 128 s = VV 32 h m.sd m.cold (r + 1) s) → AW G d mi_Md_laysOutcome Q 191 [some (vr 117), some (vi (sideS m.sd h.P 0)), some (vi (sideS m.sd h.P 1)), some (vi b), some (vi k), l5, l6, l7, l8] [] K := by
          intro p
          induction p with
          | zero =>
            intro k b K l5 l6 l7 l8 hk hb hbi hK h1 h2
            obtain ⟨k1, k2, k3, k4⟩ := keep K hK
            have e27 := k1.1.1
            have hf : farI K l (VV 32 h m.sd m.cold (r + 1)) := fun s hs => by
              obtain ⟨j, hj, ej⟩ := mem_getD hs
              have := h1 j (by omega)
              rw [ej] at this
              exact ⟨this, hVin (r + 1) s⟩
            have a50 : AW G d mi_Md_laysOutcome Q 50 [some (vr 117), some (vi (sideS m.sd h.P 0)), some (vi (sideS m.sd h.P 1)), some (vi b), some (vi k), l5, l6, l7, l8] [] K := by
              by_cases qb : b = 1
              · subst qb
                exact ih (r + 1) K _ _ _ _ _ (by omega) (by
                  have := cnt_up (by omega) (hbi.mp rfl)
                  omega) hK hf
              · obtain rfl : b = 0 := by omega
                refine AW.run ck_Md_laysOutcome [59, 233] 10 50 ?_
                simp only [wR, wB, wE0, wE1, wE2, wE3, g0, gS, s10, s11, s1S, s20, s21, s2S, kl0, kl1, kl2, kl3, sp0, sp1, sp2, sp3, cn1, cn2, cn3, cn4, cn5, cn6, jJa, lk0, lk1, jmS, jmN, s4_0, s4_1, s4_2, s4_3, s4_4, sw0, sw1, cKs, cKn, true_and, and_true, List.map_cons, List.map_nil, Nat.reduceAdd, Nat.zero_add, Int.reduceAdd, Nat.reduceEqDiff, reduceIte, Classical.not_not, b_Md_laysOutcome, nc0, Int.reduceEq, not_true_eq_false, not_false_eq_true, false_imp_iff, true_imp_iff, and_self]
                exact a233 r K _ _ _ _ _ _ (by omega) (fun s hs => Classical.byContradiction (fun hne => by
                  have := hbi.mpr ⟨s, hs, hne⟩
                  omega)) hK hf
            refine AW.run ck_Md_laysOutcome [50, 191] 10 191 ?_
            simp only [wR, wB, wE0, wE1, wE2, wE3, g0, gS, s10, s11, s1S, s20, s21, s2S, kl0, kl1, kl2, kl3, sp0, sp1, sp2, sp3, cn1, cn2, cn3, cn4, cn5, cn6, jJa, lk0, lk1, jmS, jmN, s4_0, s4_1, s4_2, s4_3, s4_4, sw0, sw1, cKs, cKn, true_and, and_true, List.map_cons, List.map_nil, Nat.reduceAdd, Nat.zero_add, Int.reduceAdd, Nat.reduceEqDiff, reduceIte, Classical.not_not, b_Md_laysOutcome, shMd, e27]
            (repeat' (first | omega | (with_reducible exact True.intro) | exact ⟨by omega, by omega⟩ | (with_reducible exact Or.inr trivial) | (with_reducible exact Or.inl trivial) | (with_reducible assumption) | (with_reducible exact Same.refl) | (with_reducible rfl) | (with_reducible refine And.intro ?_ ?_) | (with_reducible intro _)))
          | succ p ihp =>
            intro k b K l5 l6 l7 l8 hk hb hbi hK h1 h2
            obtain ⟨k1, k2, k3, k4⟩ := keep K hK
            have e27 := k1.1.1
            have hkl : k < l.length := by omega
            have eK := k1.1.2.1 k hkl
            have hsm := getD_mem hkl
            have hs3 := hl3 _ hsm
            have e128 := h2 _ hsm
            have hb2 := hVin (r + 1) (l.getD k 0)
            have := ihp (k + 1) b (up K 127 (l.getD k 0 : Nat) (VV 32 h m.sd m.cold (r + 1) (l.getD k 0))) l5 l6 l7 l8 (by omega) hb hbi (hK.up (by simp)) (fun j hj => by
              by_cases e : j = k
              · subst e; rw [up_eq]
              · have : l.getD j 0 ≠ l.getD k 0 := fun e' => e (getD_inj hnd (by omega) hkl e')
                rw [up_ne2 (by omega)]; exact h1 j (by omega)) (fun s hs => by rw [up_ne1 (by omega)]; exact h2 s hs)
            generalize VV 32 h m.sd m.cold (r + 1) (l.getD k 0) = vv at *
            refine AW.run ck_Md_laysOutcome [191, 230] 10 191 ?_
            simp only [wR, wB, wE0, wE1, wE2, wE3, g0, gS, s10, s11, s1S, s20, s21, s2S, kl0, kl1, kl2, kl3, sp0, sp1, sp2, sp3, cn1, cn2, cn3, cn4, cn5, cn6, jJa, lk0, lk1, jmS, jmN, s4_0, s4_1, s4_2, s4_3, s4_4, sw0, sw1, cKs, cKn, true_and, and_true, List.map_cons, List.map_nil, Nat.reduceAdd, Nat.zero_add, Int.reduceAdd, Nat.reduceEqDiff, reduceIte, Classical.not_not, b_Md_laysOutcome, shMd, e27, eK, e128, ce]
            (repeat' (first | omega | (with_reducible exact True.intro) | exact ⟨by omega, by omega⟩ | (with_reducible exact Or.inr trivial) | (with_reducible exact Or.inl trivial) | (with_reducible assumption) | (with_reducible exact Same.refl) | (with_reducible rfl) | (with_reducible refine And.intro ?_ ?_) | (with_reducible intro _)))
        have l59 : ∀ (p k b : Nat) (K : AM) (l5 l6 l7 l8 : Option AV), k + p = l.length → b ≤ 1 → (b = 1 ↔ ∃ j, j < k ∧ VV 32 h m.sd m.cold (r + 1) (l.getD j 0) ≠ VV 32 h m.sd m.cold r (l.getD j 0)) → Same [127, 128] M1 K → farI K l (VV 32 h m.sd m.cold r) → (∀ j, j < k → K 128 (l.getD j 0 : Nat) = VV 32 h m.sd m.cold (r + 1) (l.getD j 0)) → AW G d mi_Md_laysOutcome Q 59 [some (vr 117), some (vi (sideS m.sd h.P 0)), some (vi (sideS m.sd h.P 1)), some (vi b), some (vi k), l5, l6, l7, l8] [] K := by
          intro p
          induction p with
          | zero =>
            intro k b K l5 l6 l7 l8 hk hb hbi hK hf h2
            obtain ⟨k1, k2, k3, k4⟩ := keep K hK
            have e27 := k1.1.1
            have := l191 l.length 0 b K l5 l6 l7 l8 (by omega) hb (by
              rw [hbi]
              constructor
              · rintro ⟨j, hj, hn⟩
                exact ⟨_, getD_mem (by omega), hn⟩
              · rintro ⟨s, hs, hn⟩
                obtain ⟨j, hj, ej⟩ := mem_getD hs
                exact ⟨j, by omega, by rw [ej]; exact hn⟩) hK (fun j hj => absurd hj (by omega)) (fun s hs => by
              obtain ⟨j, hj, ej⟩ := mem_getD hs
              have := h2 j (by omega)
              rw [ej] at this
              exact this)
            rw [nc0] at this
            refine AW.run ck_Md_laysOutcome [85, 191] 10 59 ?_
            simp only [wR, wB, wE0, wE1, wE2, wE3, g0, gS, s10, s11, s1S, s20, s21, s2S, kl0, kl1, kl2, kl3, sp0, sp1, sp2, sp3, cn1, cn2, cn3, cn4, cn5, cn6, jJa, lk0, lk1, jmS, jmN, s4_0, s4_1, s4_2, s4_3, s4_4, sw0, sw1, cKs, cKn, true_and, and_true, List.map_cons, List.map_nil, Nat.reduceAdd, Nat.zero_add, Int.reduceAdd, Nat.reduceEqDiff, reduceIte, Classical.not_not, b_Md_laysOutcome, shMd, e27]
            (repeat' (first | omega | (with_reducible exact True.intro) | exact ⟨by omega, by omega⟩ | (with_reducible exact Or.inr trivial) | (with_reducible exact Or.inl trivial) | (with_reducible assumption) | (with_reducible exact Same.refl) | (with_reducible rfl) | (with_reducible refine And.intro ?_ ?_) | (with_reducible intro _)))
          | succ p ihp =>
            intro k b K l5 l6 l7 l8 hk hb hbi hK hf h2
            obtain ⟨k1, k2, k3, k4⟩ := keep K hK
            have e27 := k1.1.1
            have hkl : k < l.length := by omega
            have eK := k1.1.2.1 k hkl
            have hsm := getD_mem hkl
            have hne : ∀ j, j < k → l.getD j 0 ≠ l.getD k 0 := fun j hj e => by have := getD_inj hnd (by omega) hkl e; omega
            have hVs : VV 32 h m.sd m.cold (r + 1) (l.getD k 0) = mxS (fun own => cmT 32 h m.sd m.cold (VV 32 h m.sd m.cold r) (l.getD k 0) own) (mO h m.sd (l.getD k 0)) 32 := by simp only [VV]
            have hvin1 := hVin (r + 1) (l.getD k 0)
            have hvin0 := hVin r (l.getD k 0)
            generalize hsk' : l.getD k 0 = sk at hsm eK hne hVs hvin1 hvin0
            have hsk3 := hl3 sk hsm
            obtain ⟨f1, -, -⟩ := hf sk hsm
            have hO := mO_lt (h := h) (sd := m.sd) (s := sk) hP
            have hab : ablS h.P sk < 32 := bitsP32 hP
            have hskip := mxS_skip (f := fun own => cmT 32 h m.sd m.cold (VV 32 h m.sd m.cold r) sk own) (m := mO h m.sd sk) (n := sideS m.sd h.P 0 + 1) (32 - (sideS m.sd h.P 0 + 1)) (fun y y1 y2 hy => by
              have := sbM_le hO (by omega) hy
              have : mO h m.sd sk ≤ sideS m.sd h.P 0 := Nat.and_le_right
              omega)
            rw [show sideS m.sd h.P 0 + 1 + (32 - (sideS m.sd h.P 0 + 1)) = 32 by omega, ← hVs] at hskip
            have hct := fun own ho hos => c_Md_comesTo (G := G) (d := d - 1) (M := K) (own := own) (V := VV 32 h m.sd m.cold r) (by omega) hok k1 hf (hVin r) hsm ho hos
            have hstp : ∀ n, sbM (mO h m.sd sk) n → mxS (fun own => cmT 32 h m.sd m.cold (VV 32 h m.sd m.cold r) sk own) (mO h m.sd sk) (n + 1) = if mxS (fun own => cmT 32 h m.sd m.cold (VV 32 h m.sd m.cold r) sk own) (mO h m.sd sk) n < cmT 32 h m.sd m.cold (VV 32 h m.sd m.cold r) sk n then cmT 32 h m.sd m.cold (VV 32 h m.sd m.cold r) sk n else mxS (fun own => cmT 32 h m.sd m.cold (VV 32 h m.sd m.cold r) sk own) (mO h m.sd sk) n := fun n hn => mxS_st hn
            have hsno : ∀ n, ¬ sbM (mO h m.sd sk) n → mxS (fun own => cmT 32 h m.sd m.cold (VV 32 h m.sd m.cold r) sk own) (mO h m.sd sk) (n + 1) = mxS (fun own => cmT 32 h m.sd m.cold (VV 32 h m.sd m.cold r) sk own) (mO h m.sd sk) n := fun n hn => mxS_no hn
            have hm0 : mxS (fun own => cmT 32 h m.sd m.cold (VV 32 h m.sd m.cold r) sk own) (mO h m.sd sk) 0 = -268435456 := by simp only [mxS]
            generalize mxS (fun own => cmT 32 h m.sd m.cold (VV 32 h m.sd m.cold r) sk own) (mO h m.sd sk) = mf at hskip hstp hsno hm0
            generalize hcm : (fun own => cmT 32 h m.sd m.cold (VV 32 h m.sd m.cold r) sk own) = cm at *
            have hcm' : ∀ own, cmT 32 h m.sd m.cold (VV 32 h m.sd m.cold r) sk own = cm own := fun own => by rw [← hcm]
            simp only [hcm'] at hstp hct
            have a180 : ∀ (x : Nat) (K' : AM) (l7 l8 : Option AV), x ≤ 1 → (x = 1 ↔ VV 32 h m.sd m.cold (r + 1) sk ≠ VV 32 h m.sd m.cold r sk) → Same [127, 128] M1 K' → farI K' l (VV 32 h m.sd m.cold r) → (∀ j, j < k → K' 128 (l.getD j 0 : Nat) = VV 32 h m.sd m.cold (r + 1) (l.getD j 0)) → K' 128 sk = VV 32 h m.sd m.cold (r + 1) sk → AW G d mi_Md_laysOutcome Q 180 [some (vr 117), some (vi (sideS m.sd h.P 0)), some (vi (sideS m.sd h.P 1)), some (vi b), some (vi k), some (vi sk), some (vi (VV 32 h m.sd m.cold (r + 1) sk)), l7, l8] [vi x, vi b] K' := by
              intro x K' l7 l8 hx1 hx g1 g2 g3 g4
              have hor : ∃ c : Nat, c ≤ 1 ∧ bOr (b : Int) (x : Int) = (c : Int) ∧ (c = 1 ↔ b = 1 ∨ x = 1) := by
                rcases (show b = 0 ∨ b = 1 by omega) with rfl | rfl <;> rcases (show x = 0 ∨ x = 1 by omega) with rfl | rfl
                · exact ⟨0, by omega, by decide +kernel, by omega⟩
                · exact ⟨1, by omega, by decide +kernel, by omega⟩
                · exact ⟨1, by omega, by decide +kernel, by omega⟩
                · exact ⟨1, by omega, by decide +kernel, by omega⟩
              obtain ⟨c, hc1, hc2, hc3⟩ := hor
              have := ihp (k + 1) c K' (some (vi sk)) (some (vi (VV 32 h m.sd m.cold (r + 1) sk))) l7 l8 (by omega) hc1 (by
                rw [hc3, hbi, hx]
                constructor
                · rintro (⟨j, hj, hn⟩ | hn)
                  · exact ⟨j, by omega, hn⟩
                  · exact ⟨k, by omega, by rw [hsk']; exact hn⟩
                · rintro ⟨j, hj, hn⟩
                  by_cases e : j = k
                  · subst e; rw [hsk'] at hn; exact Or.inr hn
                  · exact Or.inl ⟨j, by omega, hn⟩) g1 g2 (fun j hj => by
                by_cases e : j = k
                · subst e; rw [hsk']; exact g4
                · exact g3 j (by omega))
              generalize VV 32 h m.sd m.cold (r + 1) sk = v1 at *
              refine AW.run ck_Md_laysOutcome [59] 10 180 ?_
              simp only [wR, wB, wE0, wE1, wE2, wE3, g0, gS, s10, s11, s1S, s20, s21, s2S, kl0, kl1, kl2, kl3, sp0, sp1, sp2, sp3, cn1, cn2, cn3, cn4, cn5, cn6, jJa, lk0, lk1, jmS, jmN, s4_0, s4_1, s4_2, s4_3, s4_4, sw0, sw1, cKs, cKn, true_and, and_true, List.map_cons, List.map_nil, Nat.reduceAdd, Nat.zero_add, Int.reduceAdd, Nat.reduceEqDiff, reduceIte, Classical.not_not, b_Md_laysOutcome, hc2, ce]
              (repeat' (first | omega | (with_reducible exact True.intro) | exact ⟨by omega, by omega⟩ | (with_reducible exact Or.inr trivial) | (with_reducible exact Or.inl trivial) | (with_reducible assumption) | (with_reducible exact Same.refl) | (with_reducible rfl) | (with_reducible refine And.intro ?_ ?_) | (with_reducible intro _)))
            have a153 : ∀ (l7 l8 : Option AV), AW G d mi_Md_laysOutcome Q 153 [some (vr 117), some (vi (sideS m.sd h.P 0)), some (vi (sideS m.sd h.P 1)), some (vi b), some (vi k), some (vi sk), some (vi (VV 32 h m.sd m.cold (r + 1) sk)), l7, l8] [] K := by
              intro l7 l8
              have key := fun x hx1 hx => a180 x (up K 128 sk (VV 32 h m.sd m.cold (r + 1) sk)) l7 l8 hx1 hx (hK.up (by simp)) (fun s hs => by rw [up_ne1 (by omega)]; exact hf s hs) (fun j hj => by
                have := hne j hj
                rw [up_ne2 (by omega)]; exact h2 j hj) (up_eq _ _ _ _)
              have f1' : up K 128 sk (VV 32 h m.sd m.cold (r + 1) sk) 127 sk = VV 32 h m.sd m.cold r sk := by rw [up_ne1 (by omega)]; exact f1
              generalize VV 32 h m.sd m.cold (r + 1) sk = v1 at *
              generalize VV 32 h m.sd m.cold r sk = v0 at *
              refine AW.run ck_Md_laysOutcome [180] 10 153 ?_
              simp only [wR, wB, wE0, wE1, wE2, wE3, g0, gS, s10, s11, s1S, s20, s21, s2S, kl0, kl1, kl2, kl3, sp0, sp1, sp2, sp3, cn1, cn2, cn3, cn4, cn5, cn6, jJa, lk0, lk1, jmS, jmN, s4_0, s4_1, s4_2, s4_3, s4_4, sw0, sw1, cKs, cKn, true_and, and_true, List.map_cons, List.map_nil, Nat.reduceAdd, Nat.zero_add, Int.reduceAdd, Nat.reduceEqDiff, reduceIte, Classical.not_not, b_Md_laysOutcome, shMd, f1']
              by_cases qe : v1 = v0
              · have := key 0 (by omega) ⟨fun e => absurd e (by omega), fun e => absurd qe e⟩
                (repeat' (first | omega | (with_reducible exact True.intro) | exact ⟨by omega, by omega⟩ | (with_reducible exact Or.inr trivial) | (with_reducible exact Or.inl trivial) | (with_reducible assumption) | (with_reducible exact Same.refl) | (with_reducible rfl) | (with_reducible refine And.intro ?_ ?_) | (with_reducible intro _)))
              · have := key 1 (by omega) ⟨fun _ => qe, fun _ => rfl⟩
                (repeat' (first | omega | (with_reducible exact True.intro) | exact ⟨by omega, by omega⟩ | (with_reducible exact Or.inr trivial) | (with_reducible exact Or.inl trivial) | (with_reducible assumption) | (with_reducible exact Same.refl) | (with_reducible rfl) | (with_reducible refine And.intro ?_ ?_) | (with_reducible intro _)))
            have l85 : ∀ (p own : Nat) (l8 : Option AV), own + p = sideS m.sd h.P 0 + 1 → AW G d mi_Md_laysOutcome Q 85 [some (vr 117), some (vi (sideS m.sd h.P 0)), some (vi (sideS m.sd h.P 1)), some (vi b), some (vi k), some (vi sk), some (vi (mf own)), some (vi own), l8] [] K := by
              intro p
              induction p with
              | zero =>
                intro own l8 hp
                have e : own = sideS m.sd h.P 0 + 1 := by omega
                have := a153 (some (vi own)) l8
                rw [hskip, ← e] at this
                refine AW.run ck_Md_laysOutcome [120, 147, 153] 10 85 ?_
                simp only [wR, wB, wE0, wE1, wE2, wE3, g0, gS, s10, s11, s1S, s20, s21, s2S, kl0, kl1, kl2, kl3, sp0, sp1, sp2, sp3, cn1, cn2, cn3, cn4, cn5, cn6, jJa, lk0, lk1, jmS, jmN, s4_0, s4_1, s4_2, s4_3, s4_4, sw0, sw1, cKs, cKn, true_and, and_true, List.map_cons, List.map_nil, Nat.reduceAdd, Nat.zero_add, Int.reduceAdd, Nat.reduceEqDiff, reduceIte, Classical.not_not, b_Md_laysOutcome, shMd]
                (repeat' (first | omega | (with_reducible exact True.intro) | exact ⟨by omega, by omega⟩ | (with_reducible exact Or.inr trivial) | (with_reducible exact Or.inl trivial) | (with_reducible assumption) | (with_reducible exact Same.refl) | (with_reducible rfl) | (with_reducible refine And.intro ?_ ?_) | (with_reducible intro _)))
              | succ p ih3 =>
                intro own l8 hp
                have ho : own < 32 := by omega
                have a147 : ∀ (x : Int) (l8 : Option AV), x = mf (own + 1) → AW G d mi_Md_laysOutcome Q 147 [some (vr 117), some (vi (sideS m.sd h.P 0)), some (vi (sideS m.sd h.P 1)), some (vi b), some (vi k), some (vi sk), some (vi x), some (vi own), l8] [] K := by
                  intro x l8 hx
                  subst hx
                  have := ih3 (own + 1) l8 (by omega)
                  refine AW.run ck_Md_laysOutcome [85] 10 147 ?_
                  simp only [wR, wB, wE0, wE1, wE2, wE3, g0, gS, s10, s11, s1S, s20, s21, s2S, kl0, kl1, kl2, kl3, sp0, sp1, sp2, sp3, cn1, cn2, cn3, cn4, cn5, cn6, jJa, lk0, lk1, jmS, jmN, s4_0, s4_1, s4_2, s4_3, s4_4, sw0, sw1, cKs, cKn, true_and, and_true, List.map_cons, List.map_nil, Nat.reduceAdd, Nat.zero_add, Int.reduceAdd, Nat.reduceEqDiff, reduceIte, Classical.not_not, b_Md_laysOutcome, ce]
                  (repeat' (first | omega | (with_reducible exact True.intro) | exact ⟨by omega, by omega⟩ | (with_reducible exact Or.inr trivial) | (with_reducible exact Or.inl trivial) | (with_reducible assumption) | (with_reducible exact Same.refl) | (with_reducible rfl) | (with_reducible refine And.intro ?_ ?_) | (with_reducible intro _)))
                have a120 : sbM (mO h m.sd sk) own → AW G d mi_Md_laysOutcome Q 120 [some (vr 117), some (vi (sideS m.sd h.P 0)), some (vi (sideS m.sd h.P 1)), some (vi b), some (vi k), some (vi sk), some (vi (mf own)), some (vi own), l8] [] K := by
                  intro hsb
                  have hst := hstp own hsb
                  refine AW.run ck_Md_laysOutcome [147] 10 120 ?_
                  simp only [wR, wB, wE0, wE1, wE2, wE3, g0, gS, s10, s11, s1S, s20, s21, s2S, kl0, kl1, kl2, kl3, sp0, sp1, sp2, sp3, cn1, cn2, cn3, cn4, cn5, cn6, jJa, lk0, lk1, jmS, jmN, s4_0, s4_1, s4_2, s4_3, s4_4, sw0, sw1, cKs, cKn, true_and, and_true, List.map_cons, List.map_nil, Nat.reduceAdd, Nat.zero_add, Int.reduceAdd, Nat.reduceEqDiff, reduceIte, Classical.not_not, b_Md_laysOutcome, shMd]
                  refine ⟨by omega, MS.to (hct own ho hsb) fun _ => ?_⟩
                  simp only [wR, wB, wE0, wE1, wE2, wE3, g0, gS, s10, s11, s1S, s20, s21, s2S, kl0, kl1, kl2, kl3, sp0, sp1, sp2, sp3, cn1, cn2, cn3, cn4, cn5, cn6, jJa, lk0, lk1, jmS, jmN, s4_0, s4_1, s4_2, s4_3, s4_4, sw0, sw1, cKs, cKn, true_and, and_true, List.map_cons, List.map_nil, Nat.reduceAdd, Nat.zero_add, Int.reduceAdd, Nat.reduceEqDiff, reduceIte, Classical.not_not, b_Md_laysOutcome]
                  by_cases q3 : mf own < cm own
                  · rw [if_pos q3] at hst
                    have := a147 (cm own) (some (vi (cm own))) hst.symm
                    (repeat' (first | omega | (with_reducible exact True.intro) | exact ⟨by omega, by omega⟩ | (with_reducible exact Or.inr trivial) | (with_reducible exact Or.inl trivial) | (with_reducible assumption) | (with_reducible exact Same.refl) | (with_reducible rfl) | (with_reducible refine And.intro ?_ ?_) | (with_reducible intro _)))
                  · rw [if_neg q3] at hst
                    have := a147 (mf own) (some (vi (cm own))) hst.symm
                    (repeat' (first | omega | (with_reducible exact True.intro) | exact ⟨by omega, by omega⟩ | (with_reducible exact Or.inr trivial) | (with_reducible exact Or.inl trivial) | (with_reducible assumption) | (with_reducible exact Same.refl) | (with_reducible rfl) | (with_reducible refine And.intro ?_ ?_) | (with_reducible intro _)))
                have e1 := (k1.2.2.2 sk hsm own ho).1
                refine AW.run ck_Md_laysOutcome [120, 147, 153] 10 85 ?_
                simp only [wR, wB, wE0, wE1, wE2, wE3, g0, gS, s10, s11, s1S, s20, s21, s2S, kl0, kl1, kl2, kl3, sp0, sp1, sp2, sp3, cn1, cn2, cn3, cn4, cn5, cn6, jJa, lk0, lk1, jmS, jmN, s4_0, s4_1, s4_2, s4_3, s4_4, sw0, sw1, cKs, cKn, true_and, and_true, List.map_cons, List.map_nil, Nat.reduceAdd, Nat.zero_add, Int.reduceAdd, Nat.reduceEqDiff, reduceIte, Classical.not_not, b_Md_laysOutcome, shMd, bAndN_n ho hW0, e1]
                by_cases q1 : own &&& (31 ^^^ sideS m.sd h.P 0) = 0
                · by_cases q2 : sbM (ablS h.P sk) own
                  · have hsb : sbM (mO h m.sd sk) own := (sbM_and hab hW0 ho).mpr ⟨q2, q1⟩
                    have hokP : okP h.P (2 ^ h.P - 1) sk own = true := by rw [okP_ev, decide_eq_true_eq]; exact q2
                    rw [if_pos hokP]
                    have := a120 hsb
                    (repeat' (first | omega | (with_reducible exact True.intro) | exact ⟨by omega, by omega⟩ | (with_reducible exact Or.inr trivial) | (with_reducible exact Or.inl trivial) | (with_reducible assumption) | (with_reducible exact Same.refl) | (with_reducible rfl) | (with_reducible refine And.intro ?_ ?_) | (with_reducible intro _)))
                  · have hokP : okP h.P (2 ^ h.P - 1) sk own = false := by rw [okP_ev, decide_eq_false_iff_not]; exact q2
                    rw [if_neg (by rw [hokP]; decide)]
                    have := a147 (mf own) l8 (hsno own (fun hh => q2 ((sbM_and hab hW0 ho).mp hh).1)).symm
                    (repeat' (first | omega | (with_reducible exact True.intro) | exact ⟨by omega, by omega⟩ | (with_reducible exact Or.inr trivial) | (with_reducible exact Or.inl trivial) | (with_reducible assumption) | (with_reducible exact Same.refl) | (with_reducible rfl) | (with_reducible refine And.intro ?_ ?_) | (with_reducible intro _)))
                · have := a147 (mf own) l8 (hsno own (fun hh => q1 ((sbM_and hab hW0 ho).mp hh).2)).symm
                  generalize (if okP h.P (2 ^ h.P - 1) sk own = true then (nxt h m.sd m.cold sk own : Int) else -1) = gg
                  (repeat' (first | omega | (with_reducible exact True.intro) | exact ⟨by omega, by omega⟩ | (with_reducible exact Or.inr trivial) | (with_reducible exact Or.inl trivial) | (with_reducible assumption) | (with_reducible exact Same.refl) | (with_reducible rfl) | (with_reducible refine And.intro ?_ ?_) | (with_reducible intro _)))
            have := l85 (sideS m.sd h.P 0 + 1) 0 l8 (by omega)
            rw [hm0, nc0] at this
            refine AW.run ck_Md_laysOutcome [85, 188] 10 59 ?_
            simp only [wR, wB, wE0, wE1, wE2, wE3, g0, gS, s10, s11, s1S, s20, s21, s2S, kl0, kl1, kl2, kl3, sp0, sp1, sp2, sp3, cn1, cn2, cn3, cn4, cn5, cn6, jJa, lk0, lk1, jmS, jmN, s4_0, s4_1, s4_2, s4_3, s4_4, sw0, sw1, cKs, cKn, true_and, and_true, List.map_cons, List.map_nil, Nat.reduceAdd, Nat.zero_add, Int.reduceAdd, Nat.reduceEqDiff, reduceIte, Classical.not_not, b_Md_laysOutcome, shMd, e27, eK]
            (repeat' (first | omega | (with_reducible exact True.intro) | exact ⟨by omega, by omega⟩ | (with_reducible exact Or.inr trivial) | (with_reducible exact Or.inl trivial) | (with_reducible assumption) | (with_reducible exact Same.refl) | (with_reducible rfl) | (with_reducible refine And.intro ?_ ?_) | (with_reducible intro _)))
        have := l59 l.length 0 0 K0 l5 l6 l7 l8 (by omega) (by omega) ⟨fun e => absurd e (by omega), fun ⟨j, hj, _⟩ => absurd hj (by omega)⟩ hK0 hf0 (fun j hj => absurd hj (by omega))
        rw [nc0] at this
        refine AW.run ck_Md_laysOutcome [59, 233] 10 50 ?_
        simp only [wR, wB, wE0, wE1, wE2, wE3, g0, gS, s10, s11, s1S, s20, s21, s2S, kl0, kl1, kl2, kl3, sp0, sp1, sp2, sp3, cn1, cn2, cn3, cn4, cn5, cn6, jJa, lk0, lk1, jmS, jmN, s4_0, s4_1, s4_2, s4_3, s4_4, sw0, sw1, cKs, cKn, true_and, and_true, List.map_cons, List.map_nil, Nat.reduceAdd, Nat.zero_add, Int.reduceAdd, Nat.reduceEqDiff, reduceIte, Classical.not_not, b_Md_laysOutcome, Int.reduceEq, not_true_eq_false, not_false_eq_true, false_imp_iff, true_imp_iff, and_self]
        (repeat' (first | omega | (with_reducible exact True.intro) | exact ⟨by omega, by omega⟩ | (with_reducible exact Or.inr trivial) | (with_reducible exact Or.inl trivial) | (with_reducible assumption) | (with_reducible exact Same.refl) | (with_reducible rfl) | (with_reducible refine And.intro ?_ ?_) | (with_reducible intro _)))
  have l22 : ∀ (p k : Nat) (K : AM), k + p = l.length → Same [127, 128] M1 K → (∀ j, j < k → K 127 (l.getD j 0 : Nat) = 0) → AW G d mi_Md_laysOutcome Q 22 [some (vr 117), some (vi (sideS m.sd h.P 0)), some (vi (sideS m.sd h.P 1)), some (vi k), none, none, none, none, none] [] K := by
    as_aux_lemma =>
      intro p
      induction p with
      | zero =>
        intro k K hk hK h1
        obtain ⟨k1, k2, k3, k4⟩ := keep K hK
        have e27 := k1.1.1
        have := round 3126 0 K none none none none none (by omega) (Nat.zero_le _) hK (fun s hs => by
          have e0 : VV 32 h m.sd m.cold 0 s = 0 := by simp only [VV]
          obtain ⟨j, hj, ej⟩ := mem_getD hs
          have := h1 j (by omega)
          rw [ej] at this
          rw [e0]
          exact ⟨this, by omega, by omega⟩)
        refine AW.run ck_Md_laysOutcome [22, 50] 10 22 ?_
        simp only [wR, wB, wE0, wE1, wE2, wE3, g0, gS, s10, s11, s1S, s20, s21, s2S, kl0, kl1, kl2, kl3, sp0, sp1, sp2, sp3, cn1, cn2, cn3, cn4, cn5, cn6, jJa, lk0, lk1, jmS, jmN, s4_0, s4_1, s4_2, s4_3, s4_4, sw0, sw1, cKs, cKn, true_and, and_true, List.map_cons, List.map_nil, Nat.reduceAdd, Nat.zero_add, Int.reduceAdd, Nat.reduceEqDiff, reduceIte, Classical.not_not, b_Md_laysOutcome, shMd, e27]
        (repeat' (first | omega | (with_reducible exact True.intro) | exact ⟨by omega, by omega⟩ | (with_reducible exact Or.inr trivial) | (with_reducible exact Or.inl trivial) | (with_reducible assumption) | (with_reducible exact Same.refl) | (with_reducible rfl) | (with_reducible refine And.intro ?_ ?_) | (with_reducible intro _)))
      | succ p ihp =>
        intro k K hk hK h1
        obtain ⟨k1, k2, k3, k4⟩ := keep K hK
        have e27 := k1.1.1
        have hkl : k < l.length := by omega
        have eK := k1.1.2.1 k hkl
        have hs3 := hl3 _ (getD_mem hkl)
        have := ihp (k + 1) (up K 127 (l.getD k 0 : Nat) 0) (by omega) (hK.up (by simp)) (fun j hj => by
          by_cases e : j = k
          · subst e; rw [up_eq]
          · have : l.getD j 0 ≠ l.getD k 0 := fun e' => e (getD_inj hnd (by omega) hkl e')
            rw [up_ne2 (by omega)]; exact h1 j (by omega))
        refine AW.run ck_Md_laysOutcome [22, 48] 10 22 ?_
        simp only [wR, wB, wE0, wE1, wE2, wE3, g0, gS, s10, s11, s1S, s20, s21, s2S, kl0, kl1, kl2, kl3, sp0, sp1, sp2, sp3, cn1, cn2, cn3, cn4, cn5, cn6, jJa, lk0, lk1, jmS, jmN, s4_0, s4_1, s4_2, s4_3, s4_4, sw0, sw1, cKs, cKn, true_and, and_true, List.map_cons, List.map_nil, Nat.reduceAdd, Nat.zero_add, Int.reduceAdd, Nat.reduceEqDiff, reduceIte, Classical.not_not, b_Md_laysOutcome, shMd, e27, eK, ce]
        (repeat' (first | omega | (with_reducible exact True.intro) | exact ⟨by omega, by omega⟩ | (with_reducible exact Or.inr trivial) | (with_reducible exact Or.inl trivial) | (with_reducible assumption) | (with_reducible exact Same.refl) | (with_reducible rfl) | (with_reducible refine And.intro ?_ ?_) | (with_reducible intro _)))
  exact l22 l.length 0 M1 (by omega) Same.refl (fun j hj => absurd hj (by omega))
end MGG
