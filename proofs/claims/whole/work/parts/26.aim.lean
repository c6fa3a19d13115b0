/-! Steps made ready for a hall and a moment -/
theorem sideS_sd {sd sd' : Nat → Nat} {P k : Nat} (e : ∀ p, p < P → sd p = sd' p) : sideS sd P k = sideS sd' P k := bitsP_congr P (fun p hp => by rw [e p hp])
theorem sdB_sd {sd sd' : Nat → Nat} {P : Nat} (e : ∀ p, p < P → sd p = sd' p) : sdB sd P = sdB sd' P := sideS_sd e
theorem tired_sd {h : Hl} {sd sd' : Nat → Nat} {cold set p str : Nat} (e : ∀ p, p < h.P → sd p = sd' p) (hp : p < h.P) : tired h sd cold set p str = tired h sd' cold set p str := by
  unfold tired wvT
  rw [e p hp, sideS_sd e]
theorem cnts_sd {h : Hl} {sd sd' : Nat → Nat} {cold p str : Nat} (e : ∀ p, p < h.P → sd p = sd' p) (hp : p < h.P) : cnts h sd cold p str = cnts h sd' cold p str := by
  unfold cnts wvC
  rw [e p hp]
theorem prt_sd {h : Hl} {sd sd' : Nat → Nat} {cold set p str : Nat} (e : ∀ p, p < h.P → sd p = sd' p) (hp : p < h.P) : prt h sd cold set p str = prt h sd' cold set p str := by
  unfold prt
  rw [tired_sd e hp]
theorem sumN_congr {f g : Nat → Nat} : ∀ n, (∀ p, p < n → f p = g p) → sumN f n = sumN g n
  | 0, _ => rfl
  | n + 1, h => by simp only [sumN, sumN_congr n (fun p hp => h p (by omega)), h n (by omega)]
theorem PT.sd {M : AM} {h : Hl} {sd sd' : Nat → Nat} {cold : Nat} (e : ∀ p, p < h.P → sd p = sd' p) (H : PT M h sd cold (5 * h.P)) : PT M h sd' cold (5 * h.P) := by
  intro row hr
  obtain ⟨a, b⟩ := H row hr
  have hp : row / 5 < h.P := by omega
  exact ⟨by rw [← cnts_sd e hp]; exact a, fun set hset => by rw [← prt_sd e hp]; exact b set hset⟩
theorem LY.sd {M : AM} {tb ab ct : Int} {h : Hl} {sd sd' : Nat → Nat} {cold W f n c : Nat} (e : ∀ p, p < h.P → sd p = sd' p) (hn : n = 0 ∨ f + n ≤ h.P) (H : LY M tb ab ct h sd cold W f n c) : LY M tb ab ct h sd' cold W f n c := by
  intro code hc
  obtain ⟨a, b, x⟩ := H code hc
  refine ⟨a, ?_, fun set hset => ?_⟩
  · rw [b]
    congr 1
    refine sumN_congr n (fun i hi => ?_)
    rw [cnts_sd e (by omega)]
  · rw [x set hset]
    congr 1
    refine sumN_congr n (fun i hi => ?_)
    rw [prt_sd e (by omega)]
theorem sdB_inj {sd sd' : Nat → Nat} {P : Nat} (h1 : ∀ p, p < P → sd p ≤ 1) (h2 : ∀ p, p < P → sd' p ≤ 1) (e : sdB sd P = sdB sd' P) : ∀ p, p < P → sd p = sd' p := by
  intro p hp
  have a := bitsP_bit (fun p => decide (sd p = 1)) P p
  have b := bitsP_bit (fun p => decide (sd' p = 1)) P p
  have e' : bitsP (fun p => decide (sd p = 1)) P = bitsP (fun p => decide (sd' p = 1)) P := e
  rw [e', b] at a
  have := h1 p hp
  have := h2 p hp
  simp only [decide_eq_true_eq] at a
  by_cases q : sd p = 1 <;> by_cases q' : sd' p = 1
  · omega
  · rw [if_neg (by omega), if_pos (by omega)] at a; omega
  · rw [if_pos (by omega), if_neg (by omega)] at a; omega
  · omega
def lowN (P : Nat) : Nat := if P < 3 then P else 3
/-- Steps hold what an hour makes of all states, of the people told in W -/
def StB (M : AM) (h : Hl) (sd : Nat → Nat) (cold : Nat) : Prop := M 33 1 = h.P ∧ M 33 2 = ((2 ^ h.P : Nat) : Int) ∧ M 33 3 = h.must ∧ M 33 10 = ((sdB sd h.P : Nat) : Int) ∧ M 33 11 = cold ∧ M 34 0 = ((sideS sd h.P 0 : Nat) : Int) ∧ M 34 1 = ((sideS sd h.P 1 : Nat) : Int) ∧ PT M h sd cold (5 * h.P)
def StOK (M : AM) (h : Hl) (sd : Nat → Nat) (cold W : Nat) : Prop := M 33 0 = 0 ∧ M 33 4 = W ∧ StB M h sd cold ∧ LY M 37 39 40 h sd cold W 0 (lowN h.P) (5 ^ lowN h.P) ∧ LY M 38 41 42 h sd cold W 3 (h.P - 3) (5 ^ (h.P - 3))
def StInv (M : AM) (h : Hl) : Prop := M 33 0 ≠ 0 ∨ ∃ (sd : Nat → Nat) (cold W : Nat), (∀ p, p < h.P → sd p ≤ 1) ∧ StOK M h sd cold W
theorem StOK.sd {M : AM} {h : Hl} {sd sd' : Nat → Nat} {cold W : Nat} (e : ∀ p, p < h.P → sd p = sd' p) (H : StOK M h sd cold W) : StOK M h sd' cold W := by
  obtain ⟨a, b, ⟨b1, b2, b3, b4, b5, b6, b7, b8⟩, c, x⟩ := H
  refine ⟨a, b, ⟨b1, b2, b3, by rw [← sdB_sd e]; exact b4, b5, by rw [← sideS_sd e]; exact b6, by rw [← sideS_sd e]; exact b7, b8.sd e⟩, c.sd e ?_, x.sd e ?_⟩
  · unfold lowN; split <;> omega
  · omega
theorem StOK.inv {M : AM} {h : Hl} {sd : Nat → Nat} {cold W : Nat} (hsd : ∀ p, p < h.P → sd p ≤ 1) (H : StOK M h sd cold W) : StInv M h := Or.inr ⟨sd, cold, W, hsd, H⟩
theorem PT.same {M N : AM} {h : Hl} {sd : Nat → Nat} {cold n : Nat} {ps : List Int} (H : PT M h sd cold n) (hs : Same ps M N) (h1 : (35 : Int) ∉ ps) (h2 : (36 : Int) ∉ ps) : PT N h sd cold n := fun row hr => by
  rw [hs 35 h1, hs 36 h2]
  exact H row hr
theorem LY.same {M N : AM} {tb ab ct : Int} {h : Hl} {sd : Nat → Nat} {cold W f n c : Nat} {ps : List Int} (H : LY M tb ab ct h sd cold W f n c) (hs : Same ps M N) (h1 : tb ∉ ps) (h2 : ab ∉ ps) (h3 : ct ∉ ps) : LY N tb ab ct h sd cold W f n c := fun code hc => by
  rw [hs tb h1, hs ab h2, hs ct h3]
  exact H code hc
theorem up_rd {M : AM} {z i v x y : Int} : up M z i v x y = if x = z ∧ y = i then v else M x y := rfl
section AI
variable {G : AG} {d : Nat} {M : AM}
set_option maxRecDepth 20000 in
theorem c_St_aim {z : Int} {h : Hl} {m : Mo} {W : Nat} (hd : 5 ≤ d) (hz : isO z 2) (ok : HlOK h) (mok : MoOK m) (hC : CH M z h) (hM : CM M 25 h.P m) (hI : StInv M h) (hW : W < 32) :
    MS G d mi_St_aim [vr 33, vr z, vr 25, vi W] M (fun r M' => r = none ∧ StOK M' h m.sd m.cold W ∧ Same [33, 34, 35, 36, 37, 38, 39, 40, 41, 42, z + 7, z + 8] M M') := by
  have hP5 := ok.1
  have h32 := p2_32 hP5
  have hzz : z = 7 ∨ z = 16 ∨ z = 95 ∨ z = 106 := isO_Ha hz
  have hsd : ∀ p, p < h.P → m.sd p ≤ 1 := fun p _ => (mok.1 p).1
  have o25 : isO 25 4 := shO0.2.2.2.2.2.2.2.2.1
  refine MS.by ck_St_aim [some (vr 33), some (vr z), some (vr 25), some (vi W), none] fun _ _ => ?_
  generalize hQ : (fun (r : Option AV) (M' : AM) => r = none ∧ StOK M' h m.sd m.cold W ∧ Same [33, 34, 35, 36, 37, 38, 39, 40, 41, 42, z + 7, z + 8] M M') = Q
  have a136 : ∀ (N : AM) (l4 : Option AV), N 33 0 = 0 → StB N h m.sd m.cold → Same [33, 34, 35, 36, 37, 38, 39, 40, 41, 42, z + 7, z + 8] M N → AW G d mi_St_aim Q 136 [some (vr 33), some (vr z), some (vr 25), some (vi W), l4] [] N := by
    as_aux_lemma =>
      intro N l4 h0 hB hN
      obtain ⟨b1, b2, b3, b4, b5, b6, b7, b8⟩ := hB
      refine AW.run ck_St_aim [] 8 136 ?_
      simp only [wR, wB, wE0, wE1, wE2, wE3, g0, gS, s10, s11, s1S, s20, s21, s2S, kl0, kl1, kl2, kl3, sp0, sp1, sp2, sp3, cn1, cn2, cn3, cn4, cn5, cn6, jJa, lk0, lk1, jmS, jmN, s4_0, s4_1, s4_2, s4_3, s4_4, sw0, sw1, cKs, cKn, true_and, and_true, List.map_cons, List.map_nil, Nat.reduceAdd, Nat.zero_add, Int.reduceAdd, Nat.reduceEqDiff, reduceIte, Classical.not_not, b_St_aim, shSt]
      (repeat' (first | omega | exact ⟨by omega, by omega⟩ | (with_reducible exact Or.inr trivial) | (with_reducible exact Or.inl trivial) | (with_reducible assumption) | (with_reducible exact Same.refl) | (with_reducible rfl) | (with_reducible refine And.intro ?_ ?_) | (with_reducible intro _)))
      have l5 : 5 ^ lowN h.P ≤ 5 ^ 3 := Nat.pow_le_pow_right (by omega) (by unfold lowN; split <;> omega)
      have l6 : 5 ^ (h.P - 3) ≤ 5 ^ 2 := Nat.pow_le_pow_right (by omega) (by omega)
      refine (c_St_layOut (h := h) (sd := m.sd) (cold := m.cold) (W := W) (f := 0) (en := 3) (n := lowN h.P) (k := 125) (tb := 37) (ab := 39) (ct := 40) (by omega) ok ?_ (by rw [up_ne2 (by omega)]; exact b1) (by rw [up_ne2 (by omega)]; exact b2) (by rw [up_eq]) hW (by omega) (by omega) (by omega) rfl shSt.2.2.2.2.1.1 shSt.2.2.2.2.2.2.1.1 shSt.2.2.2.2.2.2.2.1.1 shSt.2.2.2.2.1.2 shSt.2.2.2.2.2.2.1.2 shSt.2.2.2.2.2.2.2.1.2 (by omega) (by omega) (by omega) (by omega) (by omega) (by omega) (by omega) (by omega) (by omega) (by omega) (by omega)).mono ?_
      · exact b8.same (ps := [33]) (Same.refl.up (by simp)) (by (first | decide | (simp only [List.mem_cons, List.not_mem_nil, or_false, not_or, not_false_eq_true, and_true]; omega) | (simp [List.mem_cons]; done))) (by (first | decide | (simp only [List.mem_cons, List.not_mem_nil, or_false, not_or, not_false_eq_true, and_true]; omega) | (simp [List.mem_cons]; done)))
      rintro r M1 okM1 ⟨rfl, y1, s1⟩
      have t1 : Same [33, 37, 39, 40] N M1 := ((Same.refl (M := N)).up (z := 33) (i := 4) (v := W) (by simp)).trans (s1.mono (by simp))
      have e33 : ∀ y, y ≠ 4 → M1 33 y = N 33 y := fun y hy => by rw [s1.at 33 y (by (first | decide | (simp only [List.mem_cons, List.not_mem_nil, or_false, not_or, not_false_eq_true, and_true]; omega) | (simp [List.mem_cons]; done))), up_ne2 hy]
      have e334 : M1 33 4 = W := by rw [s1.at 33 4 (by (first | decide | (simp only [List.mem_cons, List.not_mem_nil, or_false, not_or, not_false_eq_true, and_true]; omega) | (simp [List.mem_cons]; done))), up_eq]
      simp only [wR, wB, wE0, wE1, wE2, wE3, g0, gS, s10, s11, s1S, s20, s21, s2S, kl0, kl1, kl2, kl3, sp0, sp1, sp2, sp3, cn1, cn2, cn3, cn4, cn5, cn6, jJa, lk0, lk1, jmS, jmN, s4_0, s4_1, s4_2, s4_3, s4_4, sw0, sw1, cKs, cKn, true_and, and_true, List.map_cons, List.map_nil, Nat.reduceAdd, Nat.zero_add, Int.reduceAdd, Nat.reduceEqDiff, reduceIte, Classical.not_not, b_St_aim, shSt]
      (repeat' (first | omega | exact ⟨by omega, by omega⟩ | (with_reducible exact Or.inr trivial) | (with_reducible exact Or.inl trivial) | (with_reducible assumption) | (with_reducible exact Same.refl) | (with_reducible rfl) | (with_reducible refine And.intro ?_ ?_) | (with_reducible intro _)))
      refine (c_St_layOut (h := h) (sd := m.sd) (cold := m.cold) (W := W) (f := 3) (en := 5) (n := h.P - 3) (k := 25) (tb := 38) (ab := 41) (ct := 42) (by omega) ok (b8.same t1 (by (first | decide | (simp only [List.mem_cons, List.not_mem_nil, or_false, not_or, not_false_eq_true, and_true]; omega) | (simp [List.mem_cons]; done))) (by (first | decide | (simp only [List.mem_cons, List.not_mem_nil, or_false, not_or, not_false_eq_true, and_true]; omega) | (simp [List.mem_cons]; done)))) (by rw [e33 1 (by omega)]; exact b1) (by rw [e33 2 (by omega)]; exact b2) e334 hW (by omega) (by omega) (by omega) (by split <;> omega) shSt.2.2.2.2.2.1.1 shSt.2.2.2.2.2.2.2.2.1.1 shSt.2.2.2.2.2.2.2.2.2.1 shSt.2.2.2.2.2.1.2 shSt.2.2.2.2.2.2.2.2.1.2 shSt.2.2.2.2.2.2.2.2.2.2 (by omega) (by omega) (by omega) (by omega) (by omega) (by omega) (by omega) (by omega) (by omega) (by omega) (by omega)).mono ?_
      rintro r M2 okM2 ⟨rfl, y2, s2⟩
      simp only [wR, wB, wE0, wE1, wE2, wE3, g0, gS, s10, s11, s1S, s20, s21, s2S, kl0, kl1, kl2, kl3, sp0, sp1, sp2, sp3, cn1, cn2, cn3, cn4, cn5, cn6, jJa, lk0, lk1, jmS, jmN, s4_0, s4_1, s4_2, s4_3, s4_4, sw0, sw1, cKs, cKn, true_and, and_true, List.map_cons, List.map_nil, Nat.reduceAdd, Nat.zero_add, Int.reduceAdd, Nat.reduceEqDiff, reduceIte, Classical.not_not, b_St_aim]
      subst hQ
      have t2 : Same [33, 37, 38, 39, 40, 41, 42] N M2 := (t1.mono (by simp)).trans (s2.mono (by simp))
      have f33 : ∀ y, y ≠ 4 → M2 33 y = N 33 y := fun y hy => by rw [s2.at 33 y (by (first | decide | (simp only [List.mem_cons, List.not_mem_nil, or_false, not_or, not_false_eq_true, and_true]; omega) | (simp [List.mem_cons]; done))), e33 y hy]
      refine ⟨rfl, ⟨?_, ?_, ⟨?_, ?_, ?_, ?_, ?_, ?_, ?_, b8.same t2 (by (first | decide | (simp only [List.mem_cons, List.not_mem_nil, or_false, not_or, not_false_eq_true, and_true]; omega) | (simp [List.mem_cons]; done))) (by (first | decide | (simp only [List.mem_cons, List.not_mem_nil, or_false, not_or, not_false_eq_true, and_true]; omega) | (simp [List.mem_cons]; done)))⟩, y1.same s2 (by (first | decide | (simp only [List.mem_cons, List.not_mem_nil, or_false, not_or, not_false_eq_true, and_true]; omega) | (simp [List.mem_cons]; done))) (by (first | decide | (simp only [List.mem_cons, List.not_mem_nil, or_false, not_or, not_false_eq_true, and_true]; omega) | (simp [List.mem_cons]; done))) (by (first | decide | (simp only [List.mem_cons, List.not_mem_nil, or_false, not_or, not_false_eq_true, and_true]; omega) | (simp [List.mem_cons]; done))), y2⟩, hN.trans (t2.mono (by simp))⟩
      · rw [f33 0 (by omega)]; exact h0
      · rw [s2.at 33 4 (by (first | decide | (simp only [List.mem_cons, List.not_mem_nil, or_false, not_or, not_false_eq_true, and_true]; omega) | (simp [List.mem_cons]; done)))]; exact e334
      · rw [f33 1 (by omega)]; exact b1
      · rw [f33 2 (by omega)]; exact b2
      · rw [f33 3 (by omega)]; exact b3
      · rw [f33 10 (by omega)]; exact b4
      · rw [f33 11 (by omega)]; exact b5
      · rw [t2.at 34 0 (by (first | decide | (simp only [List.mem_cons, List.not_mem_nil, or_false, not_or, not_false_eq_true, and_true]; omega) | (simp [List.mem_cons]; done)))]; exact b6
      · rw [t2.at 34 1 (by (first | decide | (simp only [List.mem_cons, List.not_mem_nil, or_false, not_or, not_false_eq_true, and_true]; omega) | (simp [List.mem_cons]; done)))]; exact b7
  have a34c : AW G d mi_St_aim Q 34 [some (vr 33), some (vr z), some (vr 25), some (vi W), none] [vi 1] M := by
    as_aux_lemma =>
      refine AW.run ck_St_aim [136] 8 34 ?_
      have z33 : (z = 33) = False := eq_false (by omega)
      have e1 : bShl 1 (h.P : Int) = ((2 ^ h.P : Nat) : Int) := by
        rw [show (1 : Int) = ((1 : Nat) : Int) from rfl, bShl_n (by omega) (by omega), Nat.one_mul]
      simp only [wR, wB, wE0, wE1, wE2, wE3, g0, gS, s10, s11, s1S, s20, s21, s2S, kl0, kl1, kl2, kl3, sp0, sp1, sp2, sp3, cn1, cn2, cn3, cn4, cn5, cn6, jJa, lk0, lk1, jmS, jmN, s4_0, s4_1, s4_2, s4_3, s4_4, sw0, sw1, cKs, cKn, true_and, and_true, List.map_cons, List.map_nil, Nat.reduceAdd, Nat.zero_add, Int.reduceAdd, Nat.reduceEqDiff, reduceIte, Classical.not_not, b_St_aim, shSt, hz, o25, up_rd, Int.reduceEq, and_false, false_and, and_self, reduceIte, not_true_eq_false, not_false_eq_true, false_imp_iff, true_imp_iff, true_or, or_true, z33, hM.1, hM.2.1, hC.2.2.1, hC.2.1, e1]
      refine ⟨by omega, MS.to (c_Ha_ofSide (P := h.P) (side := 0) (sd := m.sd) (by omega) hz (by rw [up_ne1 (by omega), up_ne1 (by omega), up_ne1 (by omega), up_ne1 (by omega), up_ne1 (by omega), up_ne1 (by omega)]; exact hC.2.2.1) hP5 (by omega) hsd) fun _ => ?_⟩
      simp only [wR, wB, wE0, wE1, wE2, wE3, g0, gS, s10, s11, s1S, s20, s21, s2S, kl0, kl1, kl2, kl3, sp0, sp1, sp2, sp3, cn1, cn2, cn3, cn4, cn5, cn6, jJa, lk0, lk1, jmS, jmN, s4_0, s4_1, s4_2, s4_3, s4_4, sw0, sw1, cKs, cKn, true_and, and_true, List.map_cons, List.map_nil, Nat.reduceAdd, Nat.zero_add, Int.reduceAdd, Nat.reduceEqDiff, reduceIte, Classical.not_not, b_St_aim, shSt, hz, o25, up_rd, Int.reduceEq, and_false, false_and, and_self, reduceIte, not_true_eq_false, not_false_eq_true, false_imp_iff, true_imp_iff, true_or, or_true]
      refine ⟨by omega, by omega, MS.to (c_Ha_ofSide (P := h.P) (side := 1) (sd := m.sd) (by omega) hz (by rw [up_ne1 (by omega), up_ne1 (by omega), up_ne1 (by omega), up_ne1 (by omega), up_ne1 (by omega), up_ne1 (by omega), up_ne1 (by omega)]; exact hC.2.2.1) hP5 (by omega) hsd) fun _ => ?_⟩
      simp only [wR, wB, wE0, wE1, wE2, wE3, g0, gS, s10, s11, s1S, s20, s21, s2S, kl0, kl1, kl2, kl3, sp0, sp1, sp2, sp3, cn1, cn2, cn3, cn4, cn5, cn6, jJa, lk0, lk1, jmS, jmN, s4_0, s4_1, s4_2, s4_3, s4_4, sw0, sw1, cKs, cKn, true_and, and_true, List.map_cons, List.map_nil, Nat.reduceAdd, Nat.zero_add, Int.reduceAdd, Nat.reduceEqDiff, reduceIte, Classical.not_not, b_St_aim, shSt, hz, o25, up_rd, Int.reduceEq, and_false, false_and, and_self, reduceIte, not_true_eq_false, not_false_eq_true, false_imp_iff, true_imp_iff, true_or, or_true]
      refine ⟨by omega, by omega, ?_⟩
      generalize hN : up (up (up (up (up (up (up (up M 33 0 0) 33 10 _) 33 11 _) 33 1 _) 33 2 _) 33 3 _) 34 0 _) 34 1 _ = N
      have hs1 : Same [33, 34] M N := by subst hN; exact ((((((((Same.refl.up (by simp)).up (by simp)).up (by simp)).up (by simp)).up (by simp)).up (by simp)).up (by simp)).up (by simp))
      have n0 : N 33 0 = 0 := by subst hN; rfl
      have n1 : N 33 1 = h.P := by subst hN; rfl
      have n2 : N 33 2 = ((2 ^ h.P : Nat) : Int) := by subst hN; rfl
      have n3 : N 33 3 = h.must := by subst hN; rfl
      have n10 : N 33 10 = ((sdB m.sd h.P : Nat) : Int) := by subst hN; rfl
      have n11 : N 33 11 = m.cold := by subst hN; rfl
      have k0 : N 34 0 = ((sideS m.sd h.P 0 : Nat) : Int) := by subst hN; rfl
      have k1 : N 34 1 = ((sideS m.sd h.P 1 : Nat) : Int) := by subst hN; rfl
      refine (c_St_fillParts (h := h) (sd := m.sd) (cold := m.cold) (by omega) hz ok (hC.same hs1 (by (first | decide | (simp only [List.mem_cons, List.not_mem_nil, or_false, not_or, not_false_eq_true, and_true]; omega) | (simp [List.mem_cons]; done))) (by (first | decide | (simp only [List.mem_cons, List.not_mem_nil, or_false, not_or, not_false_eq_true, and_true]; omega) | (simp [List.mem_cons]; done))) (by (first | decide | (simp only [List.mem_cons, List.not_mem_nil, or_false, not_or, not_false_eq_true, and_true]; omega) | (simp [List.mem_cons]; done))) (by (first | decide | (simp only [List.mem_cons, List.not_mem_nil, or_false, not_or, not_false_eq_true, and_true]; omega) | (simp [List.mem_cons]; done))) (by (first | decide | (simp only [List.mem_cons, List.not_mem_nil, or_false, not_or, not_false_eq_true, and_true]; omega) | (simp [List.mem_cons]; done))) (by (first | decide | (simp only [List.mem_cons, List.not_mem_nil, or_false, not_or, not_false_eq_true, and_true]; omega) | (simp [List.mem_cons]; done)))) hsd mok.2 n1 n2 n10 n11).mono ?_
      rintro r M1 okM1 ⟨rfl, hT, hs2⟩
      simp only [wR, wB, wE0, wE1, wE2, wE3, g0, gS, s10, s11, s1S, s20, s21, s2S, kl0, kl1, kl2, kl3, sp0, sp1, sp2, sp3, cn1, cn2, cn3, cn4, cn5, cn6, jJa, lk0, lk1, jmS, jmN, s4_0, s4_1, s4_2, s4_3, s4_4, sw0, sw1, cKs, cKn, true_and, and_true, List.map_cons, List.map_nil, Nat.reduceAdd, Nat.zero_add, Int.reduceAdd, Nat.reduceEqDiff, reduceIte, Classical.not_not, b_St_aim, shSt, up_rd, Int.reduceEq, and_false, false_and, and_self, reduceIte, not_true_eq_false, not_false_eq_true, false_imp_iff, true_imp_iff, true_or, or_true]
      refine a136 M1 _ ?_ ⟨?_, ?_, ?_, ?_, ?_, ?_, ?_, hT⟩ ((hs1.mono (by simp)).trans (hs2.mono (by simp)))
      · rw [hs2.at 33 _ (by (first | decide | (simp only [List.mem_cons, List.not_mem_nil, or_false, not_or, not_false_eq_true, and_true]; omega) | (simp [List.mem_cons]; done)))]; exact n0
      · rw [hs2.at 33 _ (by (first | decide | (simp only [List.mem_cons, List.not_mem_nil, or_false, not_or, not_false_eq_true, and_true]; omega) | (simp [List.mem_cons]; done)))]; exact n1
      · rw [hs2.at 33 _ (by (first | decide | (simp only [List.mem_cons, List.not_mem_nil, or_false, not_or, not_false_eq_true, and_true]; omega) | (simp [List.mem_cons]; done)))]; exact n2
      · rw [hs2.at 33 _ (by (first | decide | (simp only [List.mem_cons, List.not_mem_nil, or_false, not_or, not_false_eq_true, and_true]; omega) | (simp [List.mem_cons]; done)))]; exact n3
      · rw [hs2.at 33 _ (by (first | decide | (simp only [List.mem_cons, List.not_mem_nil, or_false, not_or, not_false_eq_true, and_true]; omega) | (simp [List.mem_cons]; done)))]; exact n10
      · rw [hs2.at 33 _ (by (first | decide | (simp only [List.mem_cons, List.not_mem_nil, or_false, not_or, not_false_eq_true, and_true]; omega) | (simp [List.mem_cons]; done)))]; exact n11
      · rw [hs2.at 34 _ (by (first | decide | (simp only [List.mem_cons, List.not_mem_nil, or_false, not_or, not_false_eq_true, and_true]; omega) | (simp [List.mem_cons]; done)))]; exact k0
      · rw [hs2.at 34 _ (by (first | decide | (simp only [List.mem_cons, List.not_mem_nil, or_false, not_or, not_false_eq_true, and_true]; omega) | (simp [List.mem_cons]; done)))]; exact k1
  have a34s : ∀ W', StOK M h m.sd m.cold W' → AW G d mi_St_aim Q 34 [some (vr 33), some (vr z), some (vr 25), some (vi W), none] [vi 0] M := by
    as_aux_lemma =>
      intro W' hS
      refine AW.run ck_St_aim [136] 8 34 ?_
      simp only [wR, wB, wE0, wE1, wE2, wE3, g0, gS, s10, s11, s1S, s20, s21, s2S, kl0, kl1, kl2, kl3, sp0, sp1, sp2, sp3, cn1, cn2, cn3, cn4, cn5, cn6, jJa, lk0, lk1, jmS, jmN, s4_0, s4_1, s4_2, s4_3, s4_4, sw0, sw1, cKs, cKn, true_and, and_true, List.map_cons, List.map_nil, Nat.reduceAdd, Nat.zero_add, Int.reduceAdd, Nat.reduceEqDiff, reduceIte, Classical.not_not, b_St_aim, shSt, hz, o25, up_rd, Int.reduceEq, and_false, false_and, and_self, reduceIte, not_true_eq_false, not_false_eq_true, false_imp_iff, true_imp_iff, true_or, or_true]
      refine ⟨fun e => ?_, fun _ => a136 M _ hS.1 hS.2.2.1 Same.refl⟩
      subst hQ
      have : W' = W := by have := hS.2.1; omega
      subst this
      exact ⟨rfl, hS, Same.refl⟩
  have a29 : AW G d mi_St_aim Q 29 [some (vr 33), some (vr z), some (vr 25), some (vi W), none] [] M := by
    refine AW.run ck_St_aim [34] 8 29 ?_
    simp only [wR, wB, wE0, wE1, wE2, wE3, g0, gS, s10, s11, s1S, s20, s21, s2S, kl0, kl1, kl2, kl3, sp0, sp1, sp2, sp3, cn1, cn2, cn3, cn4, cn5, cn6, jJa, lk0, lk1, jmS, jmN, s4_0, s4_1, s4_2, s4_3, s4_4, sw0, sw1, cKs, cKn, true_and, and_true, List.map_cons, List.map_nil, Nat.reduceAdd, Nat.zero_add, Int.reduceAdd, Nat.reduceEqDiff, reduceIte, Classical.not_not, b_St_aim]
    exact a34c
  refine AW.run ck_St_aim [29, 34] 8 0 ?_
  simp only [wR, wB, wE0, wE1, wE2, wE3, g0, gS, s10, s11, s1S, s20, s21, s2S, kl0, kl1, kl2, kl3, sp0, sp1, sp2, sp3, cn1, cn2, cn3, cn4, cn5, cn6, jJa, lk0, lk1, jmS, jmN, s4_0, s4_1, s4_2, s4_3, s4_4, sw0, sw1, cKs, cKn, true_and, and_true, List.map_cons, List.map_nil, Nat.reduceAdd, Nat.zero_add, Int.reduceAdd, Nat.reduceEqDiff, reduceIte, Classical.not_not, b_St_aim, shSt, hz, o25]
  refine ⟨fun _ => a29, fun h0 => ⟨fun _ => a29, fun h1 => ⟨fun h2 => ?_, fun _ => a29⟩⟩⟩
  rcases hI with q | ⟨sd, cold, W', hs, hS⟩
  · exact absurd h0 q
  · obtain ⟨b1, b2, b3, b4, b5, b6, b7, b8⟩ := hS.2.2.1
    have e := sdB_inj hs hsd (by have := hM.1; omega)
    have ec : cold = m.cold := by have := hM.2.1; omega
    subst ec
    exact a34s W' (hS.sd e)
end AI
