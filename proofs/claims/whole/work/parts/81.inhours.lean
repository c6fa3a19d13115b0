/-- what a step makes of ways, the first states of a front done -/
def preV (ok : Nat → Nat → Bool) (nx : Nat → Nat → Nat) (F : FS) (N : Nat) (g : Nat → Nat) (i : Nat) : Nat := sumN (fun j => F.wy (F.l.getD j 0) * stp' ok nx g (F.l.getD j 0) N) i
theorem preV_all {ok : Nat → Nat → Bool} {nx : Nat → Nat → Nat} {F : FS} {N : Nat} {g : Nat → Nat} : preV ok nx F N g F.l.length = F.val (fun s => stp' ok nx g s N) := by
  unfold preV FS.val
  rw [sumL_idx]
theorem val_sum {F : FS} : F.val (fun _ => 1) = sumN (fun j => F.wy (F.l.getD j 0)) F.l.length := by
  unfold FS.val
  rw [sumL_idx]
  simp only [Nat.mul_one]
theorem sumN_mul {w c : Nat → Nat} {b : Nat} : ∀ n, (∀ j, j < n → c j ≤ b) → sumN (fun j => w j * c j) n ≤ b * sumN w n
  | 0, _ => Nat.zero_le _
  | n + 1, h => by
    have ih := sumN_mul (w := w) (c := c) (b := b) n (fun j hj => h j (by omega))
    rw [sumN_s, sumN_s, Nat.mul_add]
    have : w n * c n ≤ b * w n := by rw [Nat.mul_comm]; exact Nat.mul_le_mul_right _ (h n (by omega))
    omega
theorem preV_bd {ok : Nat → Nat → Bool} {nx : Nat → Nat → Nat} {F : FS} {N i set : Nat} (hN : N ≤ 32) (hs : set ≤ 32) (hi : i < F.l.length) : preV ok nx F N (fun _ => 1) i + F.wy (F.l.getD i 0) * stp' ok nx (fun _ => 1) (F.l.getD i 0) set ≤ 32 * F.val (fun _ => 1) := by
  have h1 := sumN_mul (w := fun j => F.wy (F.l.getD j 0)) (c := fun j => stp' ok nx (fun _ => 1) (F.l.getD j 0) N) (b := 32) i (fun j _ => by
    have := stp'_le (ok := ok) (nx := nx) (g := fun _ => 1) (s := F.l.getD j 0) 1 (fun _ => Nat.le_refl _) N
    show stp' ok nx (fun _ => 1) (F.l.getD j 0) N ≤ 32
    omega)
  have h2 : F.wy (F.l.getD i 0) * stp' ok nx (fun _ => 1) (F.l.getD i 0) set ≤ 32 * F.wy (F.l.getD i 0) := by
    rw [Nat.mul_comm]
    refine Nat.mul_le_mul_right _ ?_
    have := stp'_le (ok := ok) (nx := nx) (g := fun _ => 1) (s := F.l.getD i 0) 1 (fun _ => Nat.le_refl _) set
    omega
  have h3 : sumN (fun j => F.wy (F.l.getD j 0)) (i + 1) ≤ F.val (fun _ => 1) := by
    rw [val_sum]; exact sumN_mono (by omega)
  rw [sumN_s] at h3
  unfold preV
  omega
theorem val_le {F : FS} {g : Nat → Nat} {c : Nat} (h : ∀ s, g s ≤ c) : F.val g ≤ c * F.val (fun _ => 1) := by
  unfold FS.val
  rw [sumL_idx, sumL_idx]
  have := sumN_mul (w := fun j => F.wy (F.l.getD j 0)) (c := fun j => g (F.l.getD j 0)) (b := c) F.l.length (fun j _ => h _)
  simp only [Nat.mul_one]
  exact this
theorem abW_and {P W s : Nat} (hP : P ≤ 5) (hW : W < 32) : abW P W s = ablS P s &&& W := by
  rw [Nat.and_comm]
  unfold abW ablS
  rw [bits_and hW hP]
  refine bitsP_congr P (fun p hp => ?_)
  rfl
theorem okP_W {P W s set : Nat} (hP : P ≤ 5) (hW : W < 32) : okP P W s set = decide (set &&& (31 ^^^ abW P W s) = 0) := by
  unfold okP
  rw [abW_and hP hW]
theorem okP_big {P pe s set : Nat} (h32 : pe < 32) (h1 : 2 ^ P ≤ set) (h2 : set < 32) : okP P pe s set = false := by
  cases e : okP P pe s set with
  | false => rfl
  | true => have := okP_lt2 h2 h32 e; omega
def RwS (a b : Int) : Prop := True
theorem Same.rows {M N K : AM} (h : Same [33, 56, 58, 59, 60, 61, 62, 63, 64, 65, 66] M N) (h2 : Same [33, 56, 58, 59, 60, 61, 62, 63, 64, 65, 66] N K) : Same [33, 56, 58, 59, 60, 61, 62, 63, 64, 65, 66] M K := h.trans h2
section IH
variable {G : AG} {d : Nat} {M : AM}
set_option maxRecDepth 20000 in
theorem c_Ro_inHours {h : Hl} {sd : Nat → Nat} {cold side must s0 n : Nat} (hd : 8 ≤ d) (hok : HlOK h) (hS : StOK M h sd cold (sideS sd h.P side)) (hI : RwInv M) (hs0 : s0 < 5 ^ h.P) (hn : n ≤ 10) :
    MS G d mi_Ro_inHours [vr 56, vr 33, vi s0, vi n, vi must] M (fun r M' => r = some (vl (Wy (fun _ => okH h sd cold side (sideS sd h.P side) must) (nxW h sd cold (sideS sd h.P side)) n 0 s0)) ∧ StOK M' h sd cold (sideS sd h.P side) ∧ RwInv M' ∧ Same [33, 56, 58, 59, 60, 61, 62, 63, 64, 65, 66] M M') := by
  have hP := hok.1
  have h5 := p5 hP
  have h32 := p2_32 hP
  have hW := sideS_lt (sd := sd) (k := side) hP
  have hok' : ∀ s set, set < 32 → (okH h sd cold side (sideS sd h.P side) must s set = true ↔ set &&& (31 ^^^ abW h.P (sideS sd h.P side) s) = 0 ∧ must ≤ hands h sd cold s set side) := by
    intro s set hs
    unfold okH
    rw [okP_W hP hW, Bool.and_eq_true, decide_eq_true_eq, decide_eq_true_eq]
  have hbig : ∀ s y, 2 ^ h.P ≤ y → y < 32 → okH h sd cold side (sideS sd h.P side) must s y = false := fun s y h1 h2 => by
    unfold okH; rw [okP_big hW h1 h2]; rfl
  have hnx : ∀ s set, nxW h sd cold (sideS sd h.P side) s set < 5 ^ h.P := fun s set => nxW_lt
  have hWs : ∀ r i s, Wy (fun _ => okH h sd cold side (sideS sd h.P side) must) (nxW h sd cold (sideS sd h.P side)) (r + 1) i s = stp' (okH h sd cold side (sideS sd h.P side) must) (nxW h sd cold (sideS sd h.P side)) (Wy (fun _ => okH h sd cold side (sideS sd h.P side) must) (nxW h sd cold (sideS sd h.P side)) r (i + 1)) s (2 ^ h.P) := fun r i s => by
    show stp' _ _ _ s 32 = _
    exact stp'_out (hbig s) h32
  refine MS.by ck_Ro_inHours [some (vr 56), some (vr 33), some (vi s0), some (vi n), some (vi must), none, none, none, none] fun _ _ => ?_
  generalize hR : Wy (fun _ => okH h sd cold side (sideS sd h.P side) must) (nxW h sd cold (sideS sd h.P side)) n 0 s0 = R
  generalize hQ : (fun (r : Option AV) (M' : AM) => r = some (vl R) ∧ StOK M' h sd cold (sideS sd h.P side) ∧ RwInv M' ∧ Same [33, 56, 58, 59, 60, 61, 62, 63, 64, 65, 66] M M') = Q
  generalize hokf : okH h sd cold side (sideS sd h.P side) must = okf at hok' hbig hWs hR
  generalize hnxf : nxW h sd cold (sideS sd h.P side) = nxf at hnx hWs hR
  have l8 : ∀ (r k : Nat) (a b : Int) (F : FS) (N : AM) (l6 l7 l8 : Option AV), k + r = n → RwT N a b F FS.nil → (∀ s, s ∈ F.l → s < 5 ^ h.P ∧ F.hd s < 32) → F.val (Wy (fun _ => okf) nxf r k) = R → F.val (fun _ => 1) ≤ 32 ^ k → StOK N h sd cold (sideS sd h.P side) → Same [33, 56, 58, 59, 60, 61, 62, 63, 64, 65, 66] M N → AW G d mi_Ro_inHours Q 8 [some (vr 56), some (vr 33), some (vi s0), some (vi n), some (vi must), some (vi k), l6, l7, l8] [] N := by
    as_aux_lemma =>
      intro r
      induction r with
      | zero =>
        intro k a b F N l6 l7 l8 hk hT hF hv hb hSN hN
        have h10 : (32 : Nat) ^ k ≤ 32 ^ 10 := Nat.pow_le_pow_right (by omega) (by omega)
        have hv' : F.val (fun _ => 1) = R := hv
        refine AW.run ck_Ro_inHours [17] 10 8 ?_
        simp only [wR, wB, wE0, wE1, wE2, wE3, g0, gS, s10, s11, s1S, s20, s21, s2S, kl0, kl1, kl2, kl3, sp0, sp1, sp2, sp3, cn1, cn2, cn3, cn4, cn5, cn6, jJa, lk0, lk1, jmS, jmN, s4_0, s4_1, s4_2, s4_3, s4_4, sw0, sw1, cKs, cKn, true_and, and_true, List.map_cons, List.map_nil, Nat.reduceAdd, Nat.zero_add, Int.reduceAdd, Nat.reduceEqDiff, reduceIte, Classical.not_not, b_Ro_inHours, shRo]
        (repeat' (first | omega | (with_reducible exact True.intro) | exact ⟨by omega, by omega⟩ | (with_reducible exact Or.inr trivial) | (with_reducible exact Or.inl trivial) | (with_reducible assumption) | (with_reducible exact Same.refl) | (with_reducible rfl) | (with_reducible refine And.intro ?_ ?_) | (with_reducible intro _)))
        refine MS.to (c_Ro_total hT (by omega)) fun _ => ?_
        simp only [wR, wB, wE0, wE1, wE2, wE3, g0, gS, s10, s11, s1S, s20, s21, s2S, kl0, kl1, kl2, kl3, sp0, sp1, sp2, sp3, cn1, cn2, cn3, cn4, cn5, cn6, jJa, lk0, lk1, jmS, jmN, s4_0, s4_1, s4_2, s4_3, s4_4, sw0, sw1, cKs, cKn, true_and, and_true, List.map_cons, List.map_nil, Nat.reduceAdd, Nat.zero_add, Int.reduceAdd, Nat.reduceEqDiff, reduceIte, Classical.not_not, b_Ro_inHours]
        rw [hv']
        subst hQ
        exact ⟨rfl, hSN, hT.inv, hN⟩
      | succ r ih =>
        intro k a b F N l6 l7 l8 hk hT hF hv hb hSN hN
        have h10 : (32 : Nat) ^ k ≤ 32 ^ 9 := Nat.pow_le_pow_right (by omega) (by omega)
        have hz := hT.2.2.1
        have hz' := hz
        unfold fz at hz'
        obtain ⟨oa, ob⟩ := hz.o
        obtain ⟨s1, s2, s3⟩ := sh_Fr oa
        have l17 : ∀ (r' i : Nat) (A : FS) (N : AM) (l7 l8 : Option AV), i + r' = F.l.length → RwT N a b F A → (∀ s, s ∈ A.l → s < 5 ^ h.P ∧ A.hd s < 32) → (∀ g, A.val g = preV okf nxf F (2 ^ h.P) g i) → StOK N h sd cold (sideS sd h.P side) → Same [33, 56, 58, 59, 60, 61, 62, 63, 64, 65, 66] M N → AW G d mi_Ro_inHours Q 17 [some (vr 56), some (vr 33), some (vi s0), some (vi n), some (vi must), some (vi k), some (vi i), l7, l8] [] N := by
          intro r'
          induction r' with
          | zero =>
            intro i A N l7 l8 hi hT hA hval hSN hN
            have hilen : i = F.l.length := by omega
            have k1 := hT.1
            have k2 := hT.2.2.2.1.1
            refine AW.run ck_Ro_inHours [8, 50] 10 17 ?_
            simp only [wR, wB, wE0, wE1, wE2, wE3, g0, gS, s10, s11, s1S, s20, s21, s2S, kl0, kl1, kl2, kl3, sp0, sp1, sp2, sp3, cn1, cn2, cn3, cn4, cn5, cn6, jJa, lk0, lk1, jmS, jmN, s4_0, s4_1, s4_2, s4_3, s4_4, sw0, sw1, cKs, cKn, true_and, and_true, List.map_cons, List.map_nil, Nat.reduceAdd, Nat.zero_add, Int.reduceAdd, Nat.reduceEqDiff, reduceIte, Classical.not_not, b_Ro_inHours, shRo, k1, oa, k2, s1]
            (repeat' (first | omega | (with_reducible exact True.intro) | exact ⟨by omega, by omega⟩ | (with_reducible exact Or.inr trivial) | (with_reducible exact Or.inl trivial) | (with_reducible assumption) | (with_reducible exact Same.refl) | (with_reducible rfl) | (with_reducible refine And.intro ?_ ?_) | (with_reducible intro _)))
            refine (c_Ro_turnOver (d := d - 1) (by omega) hT).mono ?_
            rintro r'' N2 okN2 ⟨rfl, u1, u2, u3⟩
            have hg : ∀ g, A.val g = F.val (fun s => stp' okf nxf g s (2 ^ h.P)) := fun g => by rw [hval, hilen, preV_all]
            have := ih (k + 1) b a A N2 (some (vi i)) l7 l8 (by omega) u1 hA (by rw [hg, ← hv]; congr 1; funext s; exact (hWs r k s).symm) (by
              rw [hg, Nat.pow_succ]
              have h1 := val_le (F := F) (g := fun s => stp' okf nxf (fun _ => 1) s (2 ^ h.P)) (c := 32) (fun s => by
                have := stp'_le (ok := okf) (nx := nxf) (g := fun _ => 1) (s := s) 1 (fun _ => Nat.le_refl _) (2 ^ h.P)
                show stp' okf nxf (fun _ => 1) s (2 ^ h.P) ≤ 32
                omega)
              omega) (hSN.same u2 (fun x h1 h2 => by (first | decide | (simp only [List.mem_cons, List.not_mem_nil, or_false, not_or, not_false_eq_true, and_true]; omega) | (simp [List.mem_cons]; done)))) (hN.trans (u2.mono (by simp)))
            simp only [wR, wB, wE0, wE1, wE2, wE3, g0, gS, s10, s11, s1S, s20, s21, s2S, kl0, kl1, kl2, kl3, sp0, sp1, sp2, sp3, cn1, cn2, cn3, cn4, cn5, cn6, jJa, lk0, lk1, jmS, jmN, s4_0, s4_1, s4_2, s4_3, s4_4, sw0, sw1, cKs, cKn, true_and, and_true, List.map_cons, List.map_nil, Nat.reduceAdd, Nat.zero_add, Int.reduceAdd, Nat.reduceEqDiff, reduceIte, Classical.not_not, b_Ro_inHours, ce]
            (repeat' (first | omega | (with_reducible exact True.intro) | exact ⟨by omega, by omega⟩ | (with_reducible exact Or.inr trivial) | (with_reducible exact Or.inl trivial) | (with_reducible assumption) | (with_reducible exact Same.refl) | (with_reducible rfl) | (with_reducible refine And.intro ?_ ?_) | (with_reducible intro _)))
          | succ r' ih2 =>
            intro i A N l7 l8 hi hT hA hval hSN hN
            have hil : i < F.l.length := by omega
            have k1 := hT.1
            have k2 := hT.2.2.2.1.1
            obtain ⟨g1, g2, g3⟩ := hT.2.2.2.1.at hil
            have hlen := len_lt hT.2.2.2.1.2.2.2.2.1 hT.2.2.2.1.2.2.2.2.2.1
            have hsm := getD_mem hil
            have hs5 := (hF _ hsm).1
            have hwp := hT.2.2.2.1.2.2.2.2.2.2 _ hsm
            have hwv := val_one hsm
            have hbd := fun set (hset : set ≤ 32) => preV_bd (ok := okf) (nx := nxf) (F := F) (N := 2 ^ h.P) (i := i) (set := set) h32 hset hil
            have hps : ∀ g, preV okf nxf F (2 ^ h.P) g (i + 1) = preV okf nxf F (2 ^ h.P) g i + F.wy (F.l.getD i 0) * stp' okf nxf g (F.l.getD i 0) (2 ^ h.P) := fun g => rfl
            generalize hsi : F.l.getD i 0 = s at g1 g2 g3 hsm hs5 hwp hwv hbd hps
            have l50 : ∀ (r' set : Nat) (A : FS) (N : AM), set + r' = 2 ^ h.P → RwT N a b F A → (∀ s, s ∈ A.l → s < 5 ^ h.P ∧ A.hd s < 32) → (∀ g, A.val g = preV okf nxf F (2 ^ h.P) g i + F.wy s * stp' okf nxf g s set) → StAt N h sd cold (sideS sd h.P side) s → Same [33, 56, 58, 59, 60, 61, 62, 63, 64, 65, 66] M N → AW G d mi_Ro_inHours Q 50 [some (vr 56), some (vr 33), some (vi s0), some (vi n), some (vi must), some (vi k), some (vi i), some (vi s), some (vi set)] [] N := by
              intro r'
              induction r' with
              | zero =>
                intro set A N hset hT hA hval hSN hN
                obtain rfl : set = 2 ^ h.P := by omega
                have e2 : N 33 2 = ((2 ^ h.P : Nat) : Int) := hSN.1.2.2.1.2.1
                have := ih2 (i + 1) A N (some (vi s)) (some (vi ((2 ^ h.P : Nat) : Int))) (by omega) hT hA (fun g => by rw [hval, hps]) hSN.1 hN
                refine AW.run ck_Ro_inHours [17, 107] 10 50 ?_
                simp only [wR, wB, wE0, wE1, wE2, wE3, g0, gS, s10, s11, s1S, s20, s21, s2S, kl0, kl1, kl2, kl3, sp0, sp1, sp2, sp3, cn1, cn2, cn3, cn4, cn5, cn6, jJa, lk0, lk1, jmS, jmN, s4_0, s4_1, s4_2, s4_3, s4_4, sw0, sw1, cKs, cKn, true_and, and_true, List.map_cons, List.map_nil, Nat.reduceAdd, Nat.zero_add, Int.reduceAdd, Nat.reduceEqDiff, reduceIte, Classical.not_not, b_Ro_inHours, shRo, shSt, e2, ce]
                (repeat' (first | omega | (with_reducible exact True.intro) | exact ⟨by omega, by omega⟩ | (with_reducible exact Or.inr trivial) | (with_reducible exact Or.inl trivial) | (with_reducible assumption) | (with_reducible exact Same.refl) | (with_reducible rfl) | (with_reducible refine And.intro ?_ ?_) | (with_reducible intro _)))
              | succ r' ih3 =>
                intro set A N hset hT hA hval hSN hN
                have e2 : N 33 2 = ((2 ^ h.P : Nat) : Int) := hSN.1.2.2.1.2.1
                have e6 : N 33 6 = ((abW h.P (sideS sd h.P side) s : Nat) : Int) := hSN.2.1
                have habl := abW_lt (W := sideS sd h.P side) (s := s) hP
                have k1 := hT.1
                have k3 := hT.2.1
                have g2' : N (a + 2) (s : Int) = F.wy s := by
                  have := hT.2.2.2.1.2.2.1 s g3
                  rw [if_pos hsm] at this
                  exact this
                have hst : ∀ g, stp' okf nxf g s (set + 1) = stp' okf nxf g s set + (if okf s set = true then g (nxf s set) else 0) := fun g => rfl
                have a107 : ∀ (A : FS) (N : AM), RwT N a b F A → (∀ s, s ∈ A.l → s < 5 ^ h.P ∧ A.hd s < 32) → (∀ g, A.val g = preV okf nxf F (2 ^ h.P) g i + F.wy s * stp' okf nxf g s (set + 1)) → StAt N h sd cold (sideS sd h.P side) s → Same [33, 56, 58, 59, 60, 61, 62, 63, 64, 65, 66] M N → AW G d mi_Ro_inHours Q 107 [some (vr 56), some (vr 33), some (vi s0), some (vi n), some (vi must), some (vi k), some (vi i), some (vi s), some (vi set)] [] N := by
                  intro A N q1 q2 q3 q4 q5
                  have := ih3 (set + 1) A N (by omega) q1 q2 q3 q4 q5
                  refine AW.run ck_Ro_inHours [50] 10 107 ?_
                  simp only [wR, wB, wE0, wE1, wE2, wE3, g0, gS, s10, s11, s1S, s20, s21, s2S, kl0, kl1, kl2, kl3, sp0, sp1, sp2, sp3, cn1, cn2, cn3, cn4, cn5, cn6, jJa, lk0, lk1, jmS, jmN, s4_0, s4_1, s4_2, s4_3, s4_4, sw0, sw1, cKs, cKn, true_and, and_true, List.map_cons, List.map_nil, Nat.reduceAdd, Nat.zero_add, Int.reduceAdd, Nat.reduceEqDiff, reduceIte, Classical.not_not, b_Ro_inHours, ce]
                  (repeat' (first | omega | (with_reducible exact True.intro) | exact ⟨by omega, by omega⟩ | (with_reducible exact Or.inr trivial) | (with_reducible exact Or.inl trivial) | (with_reducible assumption) | (with_reducible exact Same.refl) | (with_reducible rfl) | (with_reducible refine And.intro ?_ ?_) | (with_reducible intro _)))
                have no : okf s set = false → AW G d mi_Ro_inHours Q 107 [some (vr 56), some (vr 33), some (vi s0), some (vi n), some (vi must), some (vi k), some (vi i), some (vi s), some (vi set)] [] N := by
                  intro e
                  refine a107 A N hT hA (fun g => ?_) hSN hN
                  rw [hval, hst, if_neg (by rw [e]; decide), Nat.add_zero]
                refine AW.run ck_Ro_inHours [107, 116] 10 50 ?_
                simp only [wR, wB, wE0, wE1, wE2, wE3, g0, gS, s10, s11, s1S, s20, s21, s2S, kl0, kl1, kl2, kl3, sp0, sp1, sp2, sp3, cn1, cn2, cn3, cn4, cn5, cn6, jJa, lk0, lk1, jmS, jmN, s4_0, s4_1, s4_2, s4_3, s4_4, sw0, sw1, cKs, cKn, true_and, and_true, List.map_cons, List.map_nil, Nat.reduceAdd, Nat.zero_add, Int.reduceAdd, Nat.reduceEqDiff, reduceIte, Classical.not_not, b_Ro_inHours, shRo, shSt, e2, e6, bAndN_n (show set < 32 by omega) habl]
                by_cases q : set &&& (31 ^^^ abW h.P (sideS sd h.P side) s) = 0
                · (repeat' (first | omega | (with_reducible exact True.intro) | exact ⟨by omega, by omega⟩ | (with_reducible exact Or.inr trivial) | (with_reducible exact Or.inl trivial) | (with_reducible assumption) | (with_reducible exact Same.refl) | (with_reducible rfl) | (with_reducible refine And.intro ?_ ?_) | (with_reducible intro _)))
                  refine MS.to (c_St_hands (d := d - 1) (by omega) hok hSN (by omega)) fun _ => ?_
                  rw [pop_handsW hP (by omega)]
                  simp only [wR, wB, wE0, wE1, wE2, wE3, g0, gS, s10, s11, s1S, s20, s21, s2S, kl0, kl1, kl2, kl3, sp0, sp1, sp2, sp3, cn1, cn2, cn3, cn4, cn5, cn6, jJa, lk0, lk1, jmS, jmN, s4_0, s4_1, s4_2, s4_3, s4_4, sw0, sw1, cKs, cKn, true_and, and_true, List.map_cons, List.map_nil, Nat.reduceAdd, Nat.zero_add, Int.reduceAdd, Nat.reduceEqDiff, reduceIte, Classical.not_not, b_Ro_inHours, shRo, shSt, k3, ob]
                  by_cases q2 : must ≤ hands h sd cold s set side
                  · have eo : okf s set = true := (hok' s set (by omega)).mpr ⟨q, q2⟩
                    have hsub : sub set (abW h.P (sideS sd h.P side) s) := (sub_iff (by omega) habl).mp q
                    (repeat' (first | omega | (with_reducible exact True.intro) | exact ⟨by omega, by omega⟩ | (with_reducible exact Or.inr trivial) | (with_reducible exact Or.inl trivial) | (with_reducible assumption) | (with_reducible exact Same.refl) | (with_reducible rfl) | (with_reducible refine And.intro ?_ ?_) | (with_reducible intro _)))
                    refine MS.to (c_St_to hok hSN (by omega) hsub) fun _ => ?_
                    rw [hnxf]
                    have hnl := hnx s set
                    simp only [wR, wB, wE0, wE1, wE2, wE3, g0, gS, s10, s11, s1S, s20, s21, s2S, kl0, kl1, kl2, kl3, sp0, sp1, sp2, sp3, cn1, cn2, cn3, cn4, cn5, cn6, jJa, lk0, lk1, jmS, jmN, s4_0, s4_1, s4_2, s4_3, s4_4, sw0, sw1, cKs, cKn, true_and, and_true, List.map_cons, List.map_nil, Nat.reduceAdd, Nat.zero_add, Int.reduceAdd, Nat.reduceEqDiff, reduceIte, Classical.not_not, b_Ro_inHours, shRo, k1, oa, s2, g2']
                    (repeat' (first | omega | (with_reducible exact True.intro) | exact ⟨by omega, by omega⟩ | (with_reducible exact Or.inr trivial) | (with_reducible exact Or.inl trivial) | (with_reducible assumption) | (with_reducible exact Same.refl) | (with_reducible rfl) | (with_reducible refine And.intro ?_ ?_) | (with_reducible intro _)))
                    have hA1 := hbd set (by omega)
                    have hA2 := hval (fun _ => 1)
                    refine (c_Fr_add (mask := 0) ob hT.2.2.2.2 (by omega) hwp (by omega) (by omega) (fun x hx => (hA x hx).2)).mono ?_
                    rintro r'' N2 okN2 ⟨rfl, u1, u2⟩
                    have hnn := hz.ne
                    have := a107 (addF A (nxf s set) (F.wy s) 0) N2 ⟨by rw [u2.at 56 _ (by simp <;> omega)]; exact k1, by rw [u2.at 56 _ (by simp <;> omega)]; exact k3, hz, hT.2.2.2.1.eq (u2 _ (by simp <;> omega)) (u2 _ (by simp <;> omega)) (u2 _ (by simp <;> omega)) (u2 _ (by simp <;> omega)), u1⟩ (fun x hx => by
                      unfold addF at hx ⊢
                      by_cases qm : nxf s set ∈ A.l
                      · rw [if_pos qm] at hx ⊢
                        refine ⟨(hA x hx).1, ?_⟩
                        show ud A.hd (nxf s set) (A.hd (nxf s set) &&& 0) x < 32
                        by_cases ex : x = nxf s set
                        · rw [ex, ud_eq]; simp
                        · rw [ud_ne ex]; exact (hA x hx).2
                      · rw [if_neg qm] at hx ⊢
                        show x < 5 ^ h.P ∧ ud A.hd (nxf s set) 0 x < 32
                        by_cases ex : x = nxf s set
                        · rw [ex, ud_eq]; exact ⟨hnl, by omega⟩
                        · have hx' : x ∈ A.l := (List.mem_append.mp (show x ∈ A.l ++ [nxf s set] from hx)).elim id (fun hh => absurd (List.mem_singleton.mp hh) ex)
                          rw [ud_ne ex]; exact hA x hx') (fun g => by
                      rw [addF_val hT.2.2.2.2.2.2.2.2.1, hval, hst, if_pos eo, Nat.mul_add]; omega) (hSN.same u2 (fun x h1 h2 => by simp <;> omega)) (hN.trans (u2.mono (by intro x hx; simp only [List.mem_cons, List.not_mem_nil, or_false] at hx ⊢; omega)))
                    simp only [wR, wB, wE0, wE1, wE2, wE3, g0, gS, s10, s11, s1S, s20, s21, s2S, kl0, kl1, kl2, kl3, sp0, sp1, sp2, sp3, cn1, cn2, cn3, cn4, cn5, cn6, jJa, lk0, lk1, jmS, jmN, s4_0, s4_1, s4_2, s4_3, s4_4, sw0, sw1, cKs, cKn, true_and, and_true, List.map_cons, List.map_nil, Nat.reduceAdd, Nat.zero_add, Int.reduceAdd, Nat.reduceEqDiff, reduceIte, Classical.not_not, b_Ro_inHours]
                    (repeat' (first | omega | (with_reducible exact True.intro) | exact ⟨by omega, by omega⟩ | (with_reducible exact Or.inr trivial) | (with_reducible exact Or.inl trivial) | (with_reducible assumption) | (with_reducible exact Same.refl) | (with_reducible rfl) | (with_reducible refine And.intro ?_ ?_) | (with_reducible intro _)))
                  · have := no (by
                      cases e : okf s set with
                      | false => rfl
                      | true => exact absurd ((hok' s set (by omega)).mp e).2 q2)
                    (repeat' (first | omega | (with_reducible exact True.intro) | exact ⟨by omega, by omega⟩ | (with_reducible exact Or.inr trivial) | (with_reducible exact Or.inl trivial) | (with_reducible assumption) | (with_reducible exact Same.refl) | (with_reducible rfl) | (with_reducible refine And.intro ?_ ?_) | (with_reducible intro _)))
                · have := no (by
                    cases e : okf s set with
                    | false => rfl
                    | true => exact absurd ((hok' s set (by omega)).mp e).1 q)
                  (repeat' (first | omega | (with_reducible exact True.intro) | exact ⟨by omega, by omega⟩ | (with_reducible exact Or.inr trivial) | (with_reducible exact Or.inl trivial) | (with_reducible assumption) | (with_reducible exact Same.refl) | (with_reducible rfl) | (with_reducible refine And.intro ?_ ?_) | (with_reducible intro _)))
            refine AW.run ck_Ro_inHours [50, 125] 10 17 ?_
            simp only [wR, wB, wE0, wE1, wE2, wE3, g0, gS, s10, s11, s1S, s20, s21, s2S, kl0, kl1, kl2, kl3, sp0, sp1, sp2, sp3, cn1, cn2, cn3, cn4, cn5, cn6, jJa, lk0, lk1, jmS, jmN, s4_0, s4_1, s4_2, s4_3, s4_4, sw0, sw1, cKs, cKn, true_and, and_true, List.map_cons, List.map_nil, Nat.reduceAdd, Nat.zero_add, Int.reduceAdd, Nat.reduceEqDiff, reduceIte, Classical.not_not, b_Ro_inHours, shRo, shSt, k1, oa, k2, s1, g1]
            (repeat' (first | omega | (with_reducible exact True.intro) | exact ⟨by omega, by omega⟩ | (with_reducible exact Or.inr trivial) | (with_reducible exact Or.inl trivial) | (with_reducible assumption) | (with_reducible exact Same.refl) | (with_reducible rfl) | (with_reducible refine And.intro ?_ ?_) | (with_reducible intro _)))
            refine (c_St_standAt hok hSN hs5).mono ?_
            rintro r'' N2 okN2 ⟨rfl, v1, v2⟩
            have := l50 (2 ^ h.P) 0 A N2 (by omega) (hT.eq (fun x hx => v2 x (by simp <;> omega))) hA (fun g => by
              rw [hval]
              show _ = _ + F.wy s * 0
              omega) v1 (hN.trans (v2.mono (by simp)))
            simp only [wR, wB, wE0, wE1, wE2, wE3, g0, gS, s10, s11, s1S, s20, s21, s2S, kl0, kl1, kl2, kl3, sp0, sp1, sp2, sp3, cn1, cn2, cn3, cn4, cn5, cn6, jJa, lk0, lk1, jmS, jmN, s4_0, s4_1, s4_2, s4_3, s4_4, sw0, sw1, cKs, cKn, true_and, and_true, List.map_cons, List.map_nil, Nat.reduceAdd, Nat.zero_add, Int.reduceAdd, Nat.reduceEqDiff, reduceIte, Classical.not_not, b_Ro_inHours]
            (repeat' (first | omega | (with_reducible exact True.intro) | exact ⟨by omega, by omega⟩ | (with_reducible exact Or.inr trivial) | (with_reducible exact Or.inl trivial) | (with_reducible assumption) | (with_reducible exact Same.refl) | (with_reducible rfl) | (with_reducible refine And.intro ?_ ?_) | (with_reducible intro _)))
        have := l17 F.l.length 0 FS.nil N l7 l8 (by omega) hT (fun s hs => absurd hs (List.not_mem_nil)) (fun g => rfl) hSN hN
        refine AW.run ck_Ro_inHours [17, 138] 10 8 ?_
        simp only [wR, wB, wE0, wE1, wE2, wE3, g0, gS, s10, s11, s1S, s20, s21, s2S, kl0, kl1, kl2, kl3, sp0, sp1, sp2, sp3, cn1, cn2, cn3, cn4, cn5, cn6, jJa, lk0, lk1, jmS, jmN, s4_0, s4_1, s4_2, s4_3, s4_4, sw0, sw1, cKs, cKn, true_and, and_true, List.map_cons, List.map_nil, Nat.reduceAdd, Nat.zero_add, Int.reduceAdd, Nat.reduceEqDiff, reduceIte, Classical.not_not, b_Ro_inHours, shRo]
        (repeat' (first | omega | (with_reducible exact True.intro) | exact ⟨by omega, by omega⟩ | (with_reducible exact Or.inr trivial) | (with_reducible exact Or.inl trivial) | (with_reducible assumption) | (with_reducible exact Same.refl) | (with_reducible rfl) | (with_reducible refine And.intro ?_ ?_) | (with_reducible intro _)))
  refine AW.run ck_Ro_inHours [8] 10 0 ?_
  simp only [wR, wB, wE0, wE1, wE2, wE3, g0, gS, s10, s11, s1S, s20, s21, s2S, kl0, kl1, kl2, kl3, sp0, sp1, sp2, sp3, cn1, cn2, cn3, cn4, cn5, cn6, jJa, lk0, lk1, jmS, jmN, s4_0, s4_1, s4_2, s4_3, s4_4, sw0, sw1, cKs, cKn, true_and, and_true, List.map_cons, List.map_nil, Nat.reduceAdd, Nat.zero_add, Int.reduceAdd, Nat.reduceEqDiff, reduceIte, Classical.not_not, b_Ro_inHours, shRo]
  refine ⟨by omega, (c_Ro_begin (d := d - 1) (by omega) hI (show s0 < 3125 by omega)).mono ?_⟩
  rintro r' N okN ⟨rfl, ⟨a, b, u1⟩, u2⟩
  simp only [wR, wB, wE0, wE1, wE2, wE3, g0, gS, s10, s11, s1S, s20, s21, s2S, kl0, kl1, kl2, kl3, sp0, sp1, sp2, sp3, cn1, cn2, cn3, cn4, cn5, cn6, jJa, lk0, lk1, jmS, jmN, s4_0, s4_1, s4_2, s4_3, s4_4, sw0, sw1, cKs, cKn, true_and, and_true, List.map_cons, List.map_nil, Nat.reduceAdd, Nat.zero_add, Int.reduceAdd, Nat.reduceEqDiff, reduceIte, Classical.not_not, b_Ro_inHours]
  have e0 : addF FS.nil s0 1 0 = mkF ([] ++ [s0]) (ud (fun _ => 0) s0 1) (ud (fun _ => 0) s0 0) := by unfold addF; rw [if_neg (show ¬ s0 ∈ FS.nil.l from List.not_mem_nil)]; rfl
  refine l8 n 0 a b _ N _ _ _ (by omega) u1 (fun s hs => ?_) ?_ ?_ (hS.same u2 (fun x h1 h2 => by (first | decide | (simp only [List.mem_cons, List.not_mem_nil, or_false, not_or, not_false_eq_true, and_true]; omega) | (simp [List.mem_cons]; done)))) (u2.mono (by simp))
  · rw [e0] at hs ⊢
    have hs' : s = s0 := by simpa using (show s ∈ [] ++ [s0] from hs)
    subst hs'
    refine ⟨hs0, ?_⟩
    show ud (fun _ => 0) s 0 s < 32
    rw [ud_eq]; omega
  · rw [addF_val (F := FS.nil) List.nodup_nil, ← hR]
    show sumL _ [] + _ = _
    simp [sumL]
  · rw [addF_val (F := FS.nil) List.nodup_nil]
    show sumL _ [] + _ ≤ _
    simp [sumL]
end IH
