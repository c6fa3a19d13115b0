def tset (P : Nat) (told : Nat → Nat) (i s : Nat) : Nat := told i &&& ablS P s
def cndF (h : Hl) (sd : Nat → Nat) (cold own must : Nat) (told : Nat → Nat) (i s : Nat) : Bool := decide (must ≤ pop ((tset h.P told i s &&& own) &&& ctW h sd cold (2 ^ h.P - 1) s))
def toF (h : Hl) (sd : Nat → Nat) (cold : Nat) (told : Nat → Nat) (i s : Nat) : Nat := nxt h sd cold s (tset h.P told i s)
def sumS (s : Nat) : Nat := sumN (dig s) 5
theorem sumS_le (s : Nat) : sumS s ≤ 20 := by
  have := sumN_le (f := dig s) 4 5 (fun p _ => by have := dig_lt s p; omega)
  unfold sumS
  omega
section FM
variable {G : AG} {d : Nat} {M : AM}
set_option maxRecDepth 20000 in
theorem c_Ro_fall {h : Hl} {sd : Nat → Nat} {cold s0 n own must : Nat} {told : Nat → Nat} {z : Int} (hd : 10 ≤ d) (hok : HlOK h) (hS : StOK M h sd cold (2 ^ h.P - 1)) (hI : RwInv M) (hs0 : s0 < 5 ^ h.P) (hz : isO z 11) (hz8 : 87 ≤ z) (hn : M z 0 = n) (hn6 : n ≤ 6) (hown : own < 32) (ht : ∀ i : Nat, i < n → M (z + 1) i = told i ∧ told i < 2 ^ h.P) :
    MS G d mi_Ro_fall [vr 56, vr 33, vi s0, vr z, vi own, vi must] M (fun r M' => r = some (vl ((10 ^ n : Nat) : Int)) ∧ (∃ a b F, RwT M' a b F FS.nil ∧ (∀ x, x ∈ F.l → x < 5 ^ h.P) ∧ (∀ g, F.val g = Ex h.P (cndF h sd cold own must told) (toF h sd cold told) g n 0 s0) ∧ F.val (fun _ => 1) ≤ 10 ^ n) ∧ StOK M' h sd cold (2 ^ h.P - 1) ∧ Same [33, 56, 58, 59, 60, 61, 62, 63, 64, 65, 66] M M') := by
  have hP := hok.1
  have h5 := p5 hP
  have h32 := p2_32 hP
  refine MS.by ck_Ro_fall [some (vr 56), some (vr 33), some (vi s0), some (vr z), some (vi own), some (vi must), none, none, none, none, none, none] fun _ _ => ?_
  have hnx : ∀ s y, nxt h sd cold s y < 5 ^ h.P := fun s y => codT_lt _ 0 (fun p _ _ => tired_le _ _ _ _ _ _)
  generalize hcf : cndF h sd cold own must told = cf
  generalize htf : toF h sd cold told = tf
  have hcf' : ∀ i s, cf i s = true ↔ must ≤ pop ((tset h.P told i s &&& own) &&& ctW h sd cold (2 ^ h.P - 1) s) := fun i s => by rw [← hcf]; unfold cndF; exact decide_eq_true_iff
  have htf' : ∀ i s, nxt h sd cold s (tset h.P told i s) = tf i s := fun i s => by rw [← htf]; rfl
  have htfl : ∀ i s, tf i s < 5 ^ h.P := fun i s => by rw [← htf']; exact hnx _ _
  generalize hQ : (fun (r : Option AV) (M' : AM) => r = some (vl ((10 ^ n : Nat) : Int)) ∧ (∃ a b F, RwT M' a b F FS.nil ∧ (∀ x, x ∈ F.l → x < 5 ^ h.P) ∧ (∀ g, F.val g = Ex h.P cf tf g n 0 s0) ∧ F.val (fun _ => 1) ≤ 10 ^ n) ∧ StOK M' h sd cold (2 ^ h.P - 1) ∧ Same [33, 56, 58, 59, 60, 61, 62, 63, 64, 65, 66] M M') = Q
  have l11 : ∀ (r k : Nat) (a b : Int) (F : FS) (N : AM) (l9 l10 l11 : Option AV), k + r = n → RwT N a b F FS.nil → (∀ x, x ∈ F.l → x < 5 ^ h.P ∧ F.hd x < 32) → (∀ g, F.val (Ex h.P cf tf g r k) = Ex h.P cf tf g n 0 s0) → F.val (fun _ => 1) ≤ 10 ^ k → StOK N h sd cold (2 ^ h.P - 1) → Same [33, 56, 58, 59, 60, 61, 62, 63, 64, 65, 66] M N → AW G d mi_Ro_fall Q 11 [some (vr 56), some (vr 33), some (vi s0), some (vr z), some (vi own), some (vi must), some (vl ((10 ^ k : Nat) : Int)), none, some (vi k), l9, l10, l11] [] N := by
    as_aux_lemma =>
      intro r
      induction r with
      | zero =>
        intro k a b F N l9 l10 l11 hk hT hF hv hb hSN hN
        obtain rfl : k = n := by omega
        have en : N z 0 = k := by rw [hN.at z _ (by simp <;> omega)]; exact hn
        refine AW.run ck_Ro_fall [23] 10 11 ?_
        simp only [wR, wB, wE0, wE1, wE2, wE3, g0, gS, s10, s11, s1S, s20, s21, s2S, kl0, kl1, kl2, kl3, sp0, sp1, sp2, sp3, cn1, cn2, cn3, cn4, cn5, cn6, jJa, lk0, lk1, jmS, jmN, s4_0, s4_1, s4_2, s4_3, s4_4, sw0, sw1, cKs, cKn, true_and, and_true, List.map_cons, List.map_nil, Nat.reduceAdd, Nat.zero_add, Int.reduceAdd, Nat.reduceEqDiff, reduceIte, Classical.not_not, b_Ro_fall, shRo, hz, en]
        subst hQ
        (repeat' (first | omega | (with_reducible exact True.intro) | exact ⟨by omega, by omega⟩ | (with_reducible exact Or.inr trivial) | (with_reducible exact Or.inl trivial) | (with_reducible assumption) | (with_reducible exact Same.refl) | (with_reducible rfl) | (with_reducible refine And.intro ?_ ?_) | (with_reducible intro _)))
        exact ⟨a, b, F, hT, fun x hx => (hF x hx).1, hv, hb⟩
      | succ r ih =>
        intro k a b F N l9 l10 l11 hk hT hF hv hb hSN hN
        have h10 : (10 : Nat) ^ k ≤ 10 ^ 6 := Nat.pow_le_pow_right (by omega) (by omega)
        have en : ∀ N : AM, Same [33, 56, 58, 59, 60, 61, 62, 63, 64, 65, 66] M N → N z 0 = n := fun N hN => by rw [hN.at z _ (by simp <;> omega)]; exact hn
        have etold : ∀ N : AM, Same [33, 56, 58, 59, 60, 61, 62, 63, 64, 65, 66] M N → N (z + 1) (k : Int) = told k := fun N hN => by rw [hN.at (z + 1) _ (by simp <;> omega)]; exact (ht k (by omega)).1
        have htk := (ht k (by omega)).2
        have hz' := hT.2.2.1
        have hzz := hz'
        unfold fz at hzz
        obtain ⟨oa, ob⟩ := hz'.o
        obtain ⟨s1, s2, s3⟩ := sh_Fr oa
        have l23 : ∀ (r' i : Nat) (A : FS) (N : AM) (l10 l11 : Option AV), i + r' = F.l.length → RwT N a b F A → (∀ x, x ∈ A.l → x < 5 ^ h.P ∧ A.hd x < 32) → (∀ g, A.val g = preW F (fst' h.P cf tf k g) i) → StOK N h sd cold (2 ^ h.P - 1) → Same [33, 56, 58, 59, 60, 61, 62, 63, 64, 65, 66] M N → AW G d mi_Ro_fall Q 23 [some (vr 56), some (vr 33), some (vi s0), some (vr z), some (vi own), some (vi must), some (vl ((10 ^ k : Nat) : Int)), none, some (vi k), some (vi i), l10, l11] [] N := by
          intro r'
          induction r' with
          | zero =>
            intro i A N l10 l11 hi hT hA hval hSN hN
            obtain rfl : i = F.l.length := by omega
            have k1 := hT.1
            have k2 := hT.2.2.2.1.1
            have e10 : ((10 ^ k : Nat) : Int) * 10 = ((10 ^ (k + 1) : Nat) : Int) := by rw [Nat.pow_succ]; omega
            refine AW.run ck_Ro_fall [11, 102] 10 23 ?_
            simp only [wR, wB, wE0, wE1, wE2, wE3, g0, gS, s10, s11, s1S, s20, s21, s2S, kl0, kl1, kl2, kl3, sp0, sp1, sp2, sp3, cn1, cn2, cn3, cn4, cn5, cn6, jJa, lk0, lk1, jmS, jmN, s4_0, s4_1, s4_2, s4_3, s4_4, sw0, sw1, cKs, cKn, true_and, and_true, List.map_cons, List.map_nil, Nat.reduceAdd, Nat.zero_add, Int.reduceAdd, Nat.reduceEqDiff, reduceIte, Classical.not_not, b_Ro_fall, shRo, k1, oa, k2, s1]
            (repeat' (first | omega | (with_reducible exact True.intro) | exact ⟨by omega, by omega⟩ | (with_reducible exact Or.inr trivial) | (with_reducible exact Or.inl trivial) | (with_reducible assumption) | (with_reducible exact Same.refl) | (with_reducible rfl) | (with_reducible refine And.intro ?_ ?_) | (with_reducible intro _)))
            refine (c_Ro_turnOver (d := d - 1) (by omega) hT).mono ?_
            rintro r'' N2 okN2 ⟨rfl, u1, u2, u3⟩
            have hg : ∀ g, A.val g = F.val (fst' h.P cf tf k g) := fun g => by rw [hval, preW_all]
            have := ih (k + 1) b a A N2 (some (vi (F.l.length : Int))) l10 l11 (by omega) u1 hA (fun g => by rw [hg]; exact hv g) (by
              rw [hg, Nat.pow_succ]
              have h1 := val_le (F := F) (g := fst' h.P cf tf k (fun _ => 1)) (c := 10) (fun s => by
                have := fst'_le (P := h.P) (c := cf) (t := tf) (i := k) (s := s) (b := 1) (g := fun _ => 1) (by omega) (fun _ => Nat.le_refl _)
                omega)
              omega) (hSN.same u2 (fun x h1 h2 => by (first | decide | (simp only [List.mem_cons, List.not_mem_nil, or_false, not_or, not_false_eq_true, and_true]; omega) | (simp [List.mem_cons]; done)))) (hN.trans (u2.mono (by simp)))
            have h11 : (10 : Nat) ^ (k + 1) ≤ 10 ^ 7 := Nat.pow_le_pow_right (by omega) (by omega)
            simp only [wR, wB, wE0, wE1, wE2, wE3, g0, gS, s10, s11, s1S, s20, s21, s2S, kl0, kl1, kl2, kl3, sp0, sp1, sp2, sp3, cn1, cn2, cn3, cn4, cn5, cn6, jJa, lk0, lk1, jmS, jmN, s4_0, s4_1, s4_2, s4_3, s4_4, sw0, sw1, cKs, cKn, true_and, and_true, List.map_cons, List.map_nil, Nat.reduceAdd, Nat.zero_add, Int.reduceAdd, Nat.reduceEqDiff, reduceIte, Classical.not_not, b_Ro_fall, e10, ce]
            (repeat' (first | omega | (with_reducible exact True.intro) | exact ⟨by omega, by omega⟩ | (with_reducible exact Or.inr trivial) | (with_reducible exact Or.inl trivial) | (with_reducible assumption) | (with_reducible exact Same.refl) | (with_reducible rfl) | (with_reducible refine And.intro ?_ ?_) | (with_reducible intro _)))
          | succ r' ih2 =>
            intro i A N l10 l11 hi hT hA hval hSN hN
            have hil : i < F.l.length := by omega
            have k1 := hT.1
            have k2 := hT.2.2.2.1.1
            obtain ⟨g1, g2, g3⟩ := hT.2.2.2.1.at hil
            have hlen := len_lt hT.2.2.2.1.2.2.2.2.1 hT.2.2.2.1.2.2.2.2.2.1
            have hsm := getD_mem hil
            have hs5 := (hF _ hsm).1
            have hwp := hT.2.2.2.1.2.2.2.2.2.2 _ hsm
            have hps : ∀ g, preW F (fst' h.P cf tf k g) (i + 1) = preW F (fst' h.P cf tf k g) i + F.wy (F.l.getD i 0) * fst' h.P cf tf k g (F.l.getD i 0) := fun g => rfl
            have hbd := preW_bd (F := F) (f := fst' h.P cf tf k (fun _ => 1)) (i := i) (b := 10) (fun s => by
              have := fst'_le (P := h.P) (c := cf) (t := tf) (i := k) (s := s) (b := 1) (g := fun _ => 1) (by omega) (fun _ => Nat.le_refl _)
              omega) hil
            have hv1 := hval (fun _ => 1)
            generalize hsi : F.l.getD i 0 = s at g1 g2 g3 hsm hs5 hwp hps hbd
            have hab : ablS h.P s < 32 := bitsP32 hP
            have htl : told k < 32 := by omega
            have hts : tset h.P told k s < 32 := Nat.lt_of_le_of_lt Nat.and_le_left htl
            have htsP : tset h.P told k s < 2 ^ h.P := Nat.lt_of_le_of_lt Nat.and_le_left htk
            have hsub : sub (tset h.P told k s) (abW h.P (2 ^ h.P - 1) s) := by
              rw [abW_all hP]
              exact fun p hp => (and_bit.mp hp).2
            have a102 : ∀ (A : FS) (N : AM) (l11 : Option AV), RwT N a b F A → (∀ x, x ∈ A.l → x < 5 ^ h.P ∧ A.hd x < 32) → (∀ g, A.val g = preW F (fst' h.P cf tf k g) i + F.wy s * fst' h.P cf tf k g s) → StOK N h sd cold (2 ^ h.P - 1) → Same [33, 56, 58, 59, 60, 61, 62, 63, 64, 65, 66] M N → AW G d mi_Ro_fall Q 102 [some (vr 56), some (vr 33), some (vi s0), some (vr z), some (vi own), some (vi must), some (vl ((10 ^ k : Nat) : Int)), none, some (vi k), some (vi i), some (vi s), l11] [] N := by
              intro A N l11 q1 q2 q3 q4 q5
              have := ih2 (i + 1) A N (some (vi s)) l11 (by omega) q1 q2 (fun g => by rw [q3, hps]) q4 q5
              refine AW.run ck_Ro_fall [23] 10 102 ?_
              simp only [wR, wB, wE0, wE1, wE2, wE3, g0, gS, s10, s11, s1S, s20, s21, s2S, kl0, kl1, kl2, kl3, sp0, sp1, sp2, sp3, cn1, cn2, cn3, cn4, cn5, cn6, jJa, lk0, lk1, jmS, jmN, s4_0, s4_1, s4_2, s4_3, s4_4, sw0, sw1, cKs, cKn, true_and, and_true, List.map_cons, List.map_nil, Nat.reduceAdd, Nat.zero_add, Int.reduceAdd, Nat.reduceEqDiff, reduceIte, Classical.not_not, b_Ro_fall, ce]
              (repeat' (first | omega | (with_reducible exact True.intro) | exact ⟨by omega, by omega⟩ | (with_reducible exact Or.inr trivial) | (with_reducible exact Or.inl trivial) | (with_reducible assumption) | (with_reducible exact Same.refl) | (with_reducible rfl) | (with_reducible refine And.intro ?_ ?_) | (with_reducible intro _)))
            refine AW.run ck_Ro_fall [102, 111] 10 23 ?_
            simp only [wR, wB, wE0, wE1, wE2, wE3, g0, gS, s10, s11, s1S, s20, s21, s2S, kl0, kl1, kl2, kl3, sp0, sp1, sp2, sp3, cn1, cn2, cn3, cn4, cn5, cn6, jJa, lk0, lk1, jmS, jmN, s4_0, s4_1, s4_2, s4_3, s4_4, sw0, sw1, cKs, cKn, true_and, and_true, List.map_cons, List.map_nil, Nat.reduceAdd, Nat.zero_add, Int.reduceAdd, Nat.reduceEqDiff, reduceIte, Classical.not_not, b_Ro_fall, shRo, shSt, k1, oa, k2, s1, g1]
            (repeat' (first | omega | (with_reducible exact True.intro) | exact ⟨by omega, by omega⟩ | (with_reducible exact Or.inr trivial) | (with_reducible exact Or.inl trivial) | (with_reducible assumption) | (with_reducible exact Same.refl) | (with_reducible rfl) | (with_reducible refine And.intro ?_ ?_) | (with_reducible intro _)))
            refine (c_St_standAt hok hSN hs5).mono ?_
            rintro r'' N2 okN2 ⟨rfl, v1, v2⟩
            have hN2 := hN.trans (v2.mono (by simp))
            have hT2 := hT.eq (N := N2) (fun x hx => v2 x (by simp <;> omega))
            have e6 : N2 33 6 = ((ablS h.P s : Nat) : Int) := by rw [v1.2.1, abW_all hP]
            simp only [wR, wB, wE0, wE1, wE2, wE3, g0, gS, s10, s11, s1S, s20, s21, s2S, kl0, kl1, kl2, kl3, sp0, sp1, sp2, sp3, cn1, cn2, cn3, cn4, cn5, cn6, jJa, lk0, lk1, jmS, jmN, s4_0, s4_1, s4_2, s4_3, s4_4, sw0, sw1, cKs, cKn, true_and, and_true, List.map_cons, List.map_nil, Nat.reduceAdd, Nat.zero_add, Int.reduceAdd, Nat.reduceEqDiff, reduceIte, Classical.not_not, b_Ro_fall, shRo, hz]
            refine ⟨by omega, MS.to (c_Tr_at hz) fun _ => ?_⟩
            rw [if_pos ⟨by omega, by omega⟩, etold N2 hN2]
            have ew3 : w3 ((told k : Nat) : Int) = told k := w3_id ⟨by omega, by omega⟩
            simp only [wR, wB, wE0, wE1, wE2, wE3, g0, gS, s10, s11, s1S, s20, s21, s2S, kl0, kl1, kl2, kl3, sp0, sp1, sp2, sp3, cn1, cn2, cn3, cn4, cn5, cn6, jJa, lk0, lk1, jmS, jmN, s4_0, s4_1, s4_2, s4_3, s4_4, sw0, sw1, cKs, cKn, true_and, and_true, List.map_cons, List.map_nil, Nat.reduceAdd, Nat.zero_add, Int.reduceAdd, Nat.reduceEqDiff, reduceIte, Classical.not_not, b_Ro_fall, shRo, shSt, ew3, e6, bAnd_n (show told k < 2 ^ 31 by omega)]
            rw [show told k &&& ablS h.P s = tset h.P told k s from rfl]
            simp only [wR, wB, wE0, wE1, wE2, wE3, g0, gS, s10, s11, s1S, s20, s21, s2S, kl0, kl1, kl2, kl3, sp0, sp1, sp2, sp3, cn1, cn2, cn3, cn4, cn5, cn6, jJa, lk0, lk1, jmS, jmN, s4_0, s4_1, s4_2, s4_3, s4_4, sw0, sw1, cKs, cKn, true_and, and_true, List.map_cons, List.map_nil, Nat.reduceAdd, Nat.zero_add, Int.reduceAdd, Nat.reduceEqDiff, reduceIte, Classical.not_not, bAnd_n (show tset h.P told k s < 2 ^ 31 by omega)]
            (repeat' (first | omega | (with_reducible exact True.intro) | exact ⟨by omega, by omega⟩ | (with_reducible exact Or.inr trivial) | (with_reducible exact Or.inl trivial) | (with_reducible assumption) | (with_reducible exact Same.refl) | (with_reducible rfl) | (with_reducible refine And.intro ?_ ?_) | (with_reducible intro _)))
            refine MS.to (c_St_hands (d := d - 1) (by omega) hok v1 (Nat.lt_of_le_of_lt Nat.and_le_right hown)) fun _ => ?_
            simp only [wR, wB, wE0, wE1, wE2, wE3, g0, gS, s10, s11, s1S, s20, s21, s2S, kl0, kl1, kl2, kl3, sp0, sp1, sp2, sp3, cn1, cn2, cn3, cn4, cn5, cn6, jJa, lk0, lk1, jmS, jmN, s4_0, s4_1, s4_2, s4_3, s4_4, sw0, sw1, cKs, cKn, true_and, and_true, List.map_cons, List.map_nil, Nat.reduceAdd, Nat.zero_add, Int.reduceAdd, Nat.reduceEqDiff, reduceIte, Classical.not_not, b_Ro_fall, shRo, shSt]
            have k1' := hT2.1
            have g2' : N2 (a + 2) (s : Int) = F.wy s := by
              have := hT2.2.2.2.1.2.2.1 s g3
              rw [if_pos hsm] at this
              exact this
            by_cases q : must ≤ pop ((tset h.P told k s &&& own) &&& ctW h sd cold (2 ^ h.P - 1) s)
            · have ec := (hcf' k s).mpr q
              (repeat' (first | omega | (with_reducible exact True.intro) | exact ⟨by omega, by omega⟩ | (with_reducible exact Or.inr trivial) | (with_reducible exact Or.inl trivial) | (with_reducible assumption) | (with_reducible exact Same.refl) | (with_reducible rfl) | (with_reducible refine And.intro ?_ ?_) | (with_reducible intro _)))
              refine MS.to (c_St_to hok v1 htsP hsub) fun _ => ?_
              rw [nxW_all hP, htf']
              simp only [wR, wB, wE0, wE1, wE2, wE3, g0, gS, s10, s11, s1S, s20, s21, s2S, kl0, kl1, kl2, kl3, sp0, sp1, sp2, sp3, cn1, cn2, cn3, cn4, cn5, cn6, jJa, lk0, lk1, jmS, jmN, s4_0, s4_1, s4_2, s4_3, s4_4, sw0, sw1, cKs, cKn, true_and, and_true, List.map_cons, List.map_nil, Nat.reduceAdd, Nat.zero_add, Int.reduceAdd, Nat.reduceEqDiff, reduceIte, Classical.not_not, b_Ro_fall, shRo, k1', oa, s2, g2']
              (repeat' (first | omega | (with_reducible exact True.intro) | exact ⟨by omega, by omega⟩ | (with_reducible exact Or.inr trivial) | (with_reducible exact Or.inl trivial) | (with_reducible assumption) | (with_reducible exact Same.refl) | (with_reducible rfl) | (with_reducible refine And.intro ?_ ?_) | (with_reducible intro _)))
              refine (c_Ro_drawFrom (d := d - 1) (by omega) hP v1.1.2.2.1.1 hT2 (htfl k s) hwp hA (by omega)).mono ?_
              rintro r'' N3 okN3 ⟨rfl, ⟨A', w1, w2, w3⟩, w4⟩
              have := a102 A' N3 (some (vi (tset h.P told k s))) w1 w2 (fun g => by
                rw [w3, hval]
                unfold fst'
                rw [if_pos ec]) (v1.1.same w4 (fun x h1 h2 => by (first | decide | (simp only [List.mem_cons, List.not_mem_nil, or_false, not_or, not_false_eq_true, and_true]; omega) | (simp [List.mem_cons]; done)))) (hN2.trans (w4.mono (by simp)))
              simp only [wR, wB, wE0, wE1, wE2, wE3, g0, gS, s10, s11, s1S, s20, s21, s2S, kl0, kl1, kl2, kl3, sp0, sp1, sp2, sp3, cn1, cn2, cn3, cn4, cn5, cn6, jJa, lk0, lk1, jmS, jmN, s4_0, s4_1, s4_2, s4_3, s4_4, sw0, sw1, cKs, cKn, true_and, and_true, List.map_cons, List.map_nil, Nat.reduceAdd, Nat.zero_add, Int.reduceAdd, Nat.reduceEqDiff, reduceIte, Classical.not_not, b_Ro_fall]
              (repeat' (first | omega | (with_reducible exact True.intro) | exact ⟨by omega, by omega⟩ | (with_reducible exact Or.inr trivial) | (with_reducible exact Or.inl trivial) | (with_reducible assumption) | (with_reducible exact Same.refl) | (with_reducible rfl) | (with_reducible refine And.intro ?_ ?_) | (with_reducible intro _)))
            · have ec : cf k s = false := by
                cases e : cf k s with
                | false => rfl
                | true => exact absurd ((hcf' k s).mp e) q
              have := a102 A N2 (some (vi (tset h.P told k s))) hT2 hA (fun g => by
                rw [hval]
                unfold fst'
                rw [if_neg (by rw [ec]; decide), Nat.mul_zero, Nat.add_zero]) v1.1 hN2
              (repeat' (first | omega | (with_reducible exact True.intro) | exact ⟨by omega, by omega⟩ | (with_reducible exact Or.inr trivial) | (with_reducible exact Or.inl trivial) | (with_reducible assumption) | (with_reducible exact Same.refl) | (with_reducible rfl) | (with_reducible refine And.intro ?_ ?_) | (with_reducible intro _)))
        have := l23 F.l.length 0 FS.nil N l10 l11 (by omega) hT (fun s hs => absurd hs (List.not_mem_nil)) (fun g => rfl) hSN hN
        have en' := en N hN
        refine AW.run ck_Ro_fall [23, 132] 10 11 ?_
        simp only [wR, wB, wE0, wE1, wE2, wE3, g0, gS, s10, s11, s1S, s20, s21, s2S, kl0, kl1, kl2, kl3, sp0, sp1, sp2, sp3, cn1, cn2, cn3, cn4, cn5, cn6, jJa, lk0, lk1, jmS, jmN, s4_0, s4_1, s4_2, s4_3, s4_4, sw0, sw1, cKs, cKn, true_and, and_true, List.map_cons, List.map_nil, Nat.reduceAdd, Nat.zero_add, Int.reduceAdd, Nat.reduceEqDiff, reduceIte, Classical.not_not, b_Ro_fall, shRo, hz, en']
        (repeat' (first | omega | (with_reducible exact True.intro) | exact ⟨by omega, by omega⟩ | (with_reducible exact Or.inr trivial) | (with_reducible exact Or.inl trivial) | (with_reducible assumption) | (with_reducible exact Same.refl) | (with_reducible rfl) | (with_reducible refine And.intro ?_ ?_) | (with_reducible intro _)))
  refine AW.run ck_Ro_fall [11] 10 0 ?_
  simp only [wR, wB, wE0, wE1, wE2, wE3, g0, gS, s10, s11, s1S, s20, s21, s2S, kl0, kl1, kl2, kl3, sp0, sp1, sp2, sp3, cn1, cn2, cn3, cn4, cn5, cn6, jJa, lk0, lk1, jmS, jmN, s4_0, s4_1, s4_2, s4_3, s4_4, sw0, sw1, cKs, cKn, true_and, and_true, List.map_cons, List.map_nil, Nat.reduceAdd, Nat.zero_add, Int.reduceAdd, Nat.reduceEqDiff, reduceIte, Classical.not_not, b_Ro_fall, shRo]
  refine ⟨by omega, (c_Ro_begin (d := d - 1) (by omega) hI (show s0 < 3125 by omega)).mono ?_⟩
  rintro r' N okN ⟨rfl, ⟨a, b, u1⟩, u2⟩
  simp only [wR, wB, wE0, wE1, wE2, wE3, g0, gS, s10, s11, s1S, s20, s21, s2S, kl0, kl1, kl2, kl3, sp0, sp1, sp2, sp3, cn1, cn2, cn3, cn4, cn5, cn6, jJa, lk0, lk1, jmS, jmN, s4_0, s4_1, s4_2, s4_3, s4_4, sw0, sw1, cKs, cKn, true_and, and_true, List.map_cons, List.map_nil, Nat.reduceAdd, Nat.zero_add, Int.reduceAdd, Nat.reduceEqDiff, reduceIte, Classical.not_not, b_Ro_fall]
  have e0 : addF FS.nil s0 1 0 = mkF ([] ++ [s0]) (ud (fun _ => 0) s0 1) (ud (fun _ => 0) s0 0) := by unfold addF; rw [if_neg (show ¬ s0 ∈ FS.nil.l from List.not_mem_nil)]; rfl
  have hval : ∀ g, (addF FS.nil s0 1 0).val g = g s0 := fun g => by
    rw [addF_val (F := FS.nil) List.nodup_nil]
    show sumL _ [] + _ = _
    simp [sumL]
  have := l11 n 0 a b _ N none none none (by omega) u1 (fun s hs => ?_) (fun g => by rw [hval]) (by rw [hval]; exact Nat.le_refl _) (hS.same u2 (fun x h1 h2 => by (first | decide | (simp only [List.mem_cons, List.not_mem_nil, or_false, not_or, not_false_eq_true, and_true]; omega) | (simp [List.mem_cons]; done)))) (u2.mono (by simp))
  · exact this
  · rw [e0] at hs ⊢
    have hs' : s = s0 := by simpa using (show s ∈ [] ++ [s0] from hs)
    subst hs'
    refine ⟨hs0, ?_⟩
    show ud (fun _ => 0) s 0 s < 32
    rw [ud_eq]; omega
set_option maxRecDepth 20000 in
theorem c_Ro_strengthsInAll {a b : Int} {F A : FS} (hd : 3 ≤ d) (h : RwT M a b F A) (hb : F.val (fun _ => 1) ≤ 10 ^ 6) : MS G d mi_Ro_strengthsInAll [vr 56] M (fun r M' => r = some (vl (F.val sumS)) ∧ M' = M) := by
  obtain ⟨h1, h2, hz, h4, h5⟩ := h
  obtain ⟨oa, ob⟩ := hz.o
  obtain ⟨s1, s2, s3⟩ := sh_Fr oa
  have hlen := len_lt h4.2.2.2.2.1 h4.2.2.2.2.2.1
  have hvl := val_le (F := F) (g := sumS) (c := 20) sumS_le
  have ev : F.val sumS = preW F sumS F.l.length := preW_all.symm
  rw [ev] at hvl ⊢
  refine MS.by ck_Ro_strengthsInAll [some (vr 56), none, none, none, none, none, none] fun _ _ => ?_
  generalize hQ : (fun (r : Option AV) (M' : AM) => r = some (vl (preW F sumS F.l.length)) ∧ M' = M) = Q
  have loop : ∀ (r k : Nat) (l4 l5 l6 : Option AV), k + r = F.l.length → AW G d mi_Ro_strengthsInAll Q 4 [some (vr 56), some (vl (preW F sumS k)), none, some (vi k), l4, l5, l6] [] M := by
    intro r
    induction r with
    | zero =>
      intro k l4 l5 l6 hk
      obtain rfl : k = F.l.length := by omega
      refine AW.run ck_Ro_strengthsInAll [32] 10 4 ?_
      simp only [wR, wB, wE0, wE1, wE2, wE3, g0, gS, s10, s11, s1S, s20, s21, s2S, kl0, kl1, kl2, kl3, sp0, sp1, sp2, sp3, cn1, cn2, cn3, cn4, cn5, cn6, jJa, lk0, lk1, jmS, jmN, s4_0, s4_1, s4_2, s4_3, s4_4, sw0, sw1, cKs, cKn, true_and, and_true, List.map_cons, List.map_nil, Nat.reduceAdd, Nat.zero_add, Int.reduceAdd, Nat.reduceEqDiff, reduceIte, Classical.not_not, b_Ro_strengthsInAll, shRo, h1, oa, h4.1, s1, s2]
      subst hQ
      (repeat' (first | omega | (with_reducible exact True.intro) | exact ⟨by omega, by omega⟩ | (with_reducible exact Or.inr trivial) | (with_reducible exact Or.inl trivial) | (with_reducible assumption) | (with_reducible exact Same.refl) | (with_reducible rfl) | (with_reducible refine And.intro ?_ ?_) | (with_reducible intro _)))
    | succ r ih =>
      intro k l4 l5 l6 hk
      have hkl : k < F.l.length := by omega
      obtain ⟨g1, g2, g3⟩ := h4.at hkl
      have hps : preW F sumS (k + 1) = preW F sumS k + F.wy (F.l.getD k 0) * sumS (F.l.getD k 0) := rfl
      have hm : preW F sumS (k + 1) ≤ preW F sumS F.l.length := sumN_mono (by omega)
      generalize hsi : F.l.getD k 0 = s at g1 g2 g3 hps
      have ih' := ih (k + 1) (some (vi s))
      have l32 : ∀ (r p : Nat), p + r = 5 → AW G d mi_Ro_strengthsInAll Q 32 [some (vr 56), some (vl (preW F sumS k)), none, some (vi k), some (vi s), some (vi (sumN (dig s) p)), some (vi p)] [] M := by
        intro r
        induction r with
        | zero =>
          intro p hp
          obtain rfl : p = 5 := by omega
          have hsl := sumS_le s
          rw [show sumN (dig s) 5 = sumS s from rfl]
          have hml : F.wy s * sumS s ≤ preW F sumS (k + 1) := by omega
          have em : (sumS s : Int) * (F.wy s : Int) = ((F.wy s * sumS s : Nat) : Int) := by rw [Int.natCast_mul, Int.mul_comm]
          have e2 : (preW F sumS k : Int) + ((F.wy s * sumS s : Nat) : Int) = (preW F sumS (k + 1) : Nat) := by rw [hps]; rfl
          have := ih' (some (vi (sumS s))) (some (vi 5)) (by omega)
          refine AW.run ck_Ro_strengthsInAll [4] 10 32 ?_
          simp only [wR, wB, wE0, wE1, wE2, wE3, g0, gS, s10, s11, s1S, s20, s21, s2S, kl0, kl1, kl2, kl3, sp0, sp1, sp2, sp3, cn1, cn2, cn3, cn4, cn5, cn6, jJa, lk0, lk1, jmS, jmN, s4_0, s4_1, s4_2, s4_3, s4_4, sw0, sw1, cKs, cKn, true_and, and_true, List.map_cons, List.map_nil, Nat.reduceAdd, Nat.zero_add, Int.reduceAdd, Nat.reduceEqDiff, reduceIte, Classical.not_not, b_Ro_strengthsInAll, shRo, nc5, Int.reduceEq, not_true_eq_false, not_false_eq_true, false_imp_iff, true_imp_iff, and_self, h1, oa, s2, g2, em, e2, ce]
          (repeat' (first | omega | (with_reducible exact True.intro) | exact ⟨by omega, by omega⟩ | (with_reducible exact Or.inr trivial) | (with_reducible exact Or.inl trivial) | (with_reducible assumption) | (with_reducible exact Same.refl) | (with_reducible rfl) | (with_reducible refine And.intro ?_ ?_) | (with_reducible intro _)))
        | succ r ih3 =>
          intro p hp
          have hdg := dig_lt s p
          have hsl : sumN (dig s) p ≤ 4 * p := sumN_le 4 p (fun q _ => by have := dig_lt s q; omega)
          have e2 : (sumN (dig s) p : Int) + (dig s p : Int) = (sumN (dig s) (p + 1) : Nat) := by rw [sumN_s]; rfl
          have hsl2 : sumN (dig s) (p + 1) ≤ 4 * (p + 1) := sumN_le 4 (p + 1) (fun q _ => by have := dig_lt s q; omega)
          have := ih3 (p + 1) (by omega)
          refine AW.run ck_Ro_strengthsInAll [32, 59] 10 32 ?_
          simp only [wR, wB, wE0, wE1, wE2, wE3, g0, gS, s10, s11, s1S, s20, s21, s2S, kl0, kl1, kl2, kl3, sp0, sp1, sp2, sp3, cn1, cn2, cn3, cn4, cn5, cn6, jJa, lk0, lk1, jmS, jmN, s4_0, s4_1, s4_2, s4_3, s4_4, sw0, sw1, cKs, cKn, true_and, and_true, List.map_cons, List.map_nil, Nat.reduceAdd, Nat.zero_add, Int.reduceAdd, Nat.reduceEqDiff, reduceIte, Classical.not_not, b_Ro_strengthsInAll]
          (repeat' (first | omega | (with_reducible exact True.intro) | exact ⟨by omega, by omega⟩ | (with_reducible exact Or.inr trivial) | (with_reducible exact Or.inl trivial) | (with_reducible assumption) | (with_reducible exact Same.refl) | (with_reducible rfl) | (with_reducible refine And.intro ?_ ?_) | (with_reducible intro _)))
          refine MS.to (c_St_strengthIn (show p < 5 by omega)) fun _ => ?_
          simp only [wR, wB, wE0, wE1, wE2, wE3, g0, gS, s10, s11, s1S, s20, s21, s2S, kl0, kl1, kl2, kl3, sp0, sp1, sp2, sp3, cn1, cn2, cn3, cn4, cn5, cn6, jJa, lk0, lk1, jmS, jmN, s4_0, s4_1, s4_2, s4_3, s4_4, sw0, sw1, cKs, cKn, true_and, and_true, List.map_cons, List.map_nil, Nat.reduceAdd, Nat.zero_add, Int.reduceAdd, Nat.reduceEqDiff, reduceIte, Classical.not_not, b_Ro_strengthsInAll, e2, ce]
          (repeat' (first | omega | (with_reducible exact True.intro) | exact ⟨by omega, by omega⟩ | (with_reducible exact Or.inr trivial) | (with_reducible exact Or.inl trivial) | (with_reducible assumption) | (with_reducible exact Same.refl) | (with_reducible rfl) | (with_reducible refine And.intro ?_ ?_) | (with_reducible intro _)))
      have := l32 5 0 (by omega)
      refine AW.run ck_Ro_strengthsInAll [32, 83] 10 4 ?_
      simp only [wR, wB, wE0, wE1, wE2, wE3, g0, gS, s10, s11, s1S, s20, s21, s2S, kl0, kl1, kl2, kl3, sp0, sp1, sp2, sp3, cn1, cn2, cn3, cn4, cn5, cn6, jJa, lk0, lk1, jmS, jmN, s4_0, s4_1, s4_2, s4_3, s4_4, sw0, sw1, cKs, cKn, true_and, and_true, List.map_cons, List.map_nil, Nat.reduceAdd, Nat.zero_add, Int.reduceAdd, Nat.reduceEqDiff, reduceIte, Classical.not_not, b_Ro_strengthsInAll, shRo, h1, oa, h4.1, s1, s2, g1]
      (repeat' (first | omega | (with_reducible exact True.intro) | exact ⟨by omega, by omega⟩ | (with_reducible exact Or.inr trivial) | (with_reducible exact Or.inl trivial) | (with_reducible assumption) | (with_reducible exact Same.refl) | (with_reducible rfl) | (with_reducible refine And.intro ?_ ?_) | (with_reducible intro _)))
      all_goals exact this
  have := loop F.l.length 0 none none none (by omega)
  refine AW.run ck_Ro_strengthsInAll [4] 10 0 ?_
  simp only [wR, wB, wE0, wE1, wE2, wE3, g0, gS, s10, s11, s1S, s20, s21, s2S, kl0, kl1, kl2, kl3, sp0, sp1, sp2, sp3, cn1, cn2, cn3, cn4, cn5, cn6, jJa, lk0, lk1, jmS, jmN, s4_0, s4_1, s4_2, s4_3, s4_4, sw0, sw1, cKs, cKn, true_and, and_true, List.map_cons, List.map_nil, Nat.reduceAdd, Nat.zero_add, Int.reduceAdd, Nat.reduceEqDiff, reduceIte, Classical.not_not, b_Ro_strengthsInAll]
  exact this
end FM
