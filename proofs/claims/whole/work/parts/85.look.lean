/-! the class's look at rows -/
def okSn (h : Hl) (told : Nat → Int) (i s set : Nat) : Bool := decide (set &&& (31 ^^^ ablS h.P s) = 0) && decide (told i = -1 ∨ told i = (pop set : Int))
theorem okSn_out {h : Hl} {told : Nat → Int} (hP : h.P ≤ 5) : ∀ i s y, 2 ^ h.P ≤ y → y < 32 → okSn h told i s y = false := by
  intro i s y h1 h2
  have : okA h (fun _ => 0) 0 false s y = false := okA_out hP h1 h2
  unfold okA at this
  unfold okSn
  simp only [Bool.not_false, Bool.true_or, Bool.and_true] at this
  rw [this]; rfl
def c66 (M : AM) (hr : Nat) (l : List Nat) (cm : Nat → Nat) : Prop := ∀ x, x ∈ l → M 66 ((hr : Int) * 3125 + (x : Int)) = cm x
section LK
variable {G : AG} {d : Nat} {M : AM}
set_option maxRecDepth 20000 in
theorem c_Ro_lookFrom {h : Hl} {sd : Nat → Nat} {cold s hr : Nat} {told : Nat → Int} {a b : Int} {F A : FS} {cm : Nat → Nat} (hd : 6 ≤ d) (hok : HlOK h) (hS : StAt M h sd cold (2 ^ h.P - 1) s) (hT : RwT M a b F A) (hs : s ∈ F.l) (hF : F.hd s < 32) (hA : ∀ x, x ∈ A.l → A.hd x < 32) (hb : A.val (fun _ => 1) + 33 * F.wy s < 2 ^ 62) (hr8 : hr < 8) (hc : c66 M hr A.l cm) :
    MS G d mi_Ro_lookFrom [vr 56, vr 33, vi s, vi hr, vl (told hr)] M (fun r M' => r = none ∧ StAt M' h sd cold (2 ^ h.P - 1) s ∧ RwT M' a b F (lkSet (okSn h told hr) (nxt h sd cold) F s (2 ^ h.P) (A, cm)).1 ∧ c66 M' hr (lkSet (okSn h told hr) (nxt h sd cold) F s (2 ^ h.P) (A, cm)).1.l (lkSet (okSn h told hr) (nxt h sd cold) F s (2 ^ h.P) (A, cm)).2 ∧ Same [58, 59, 60, 61, 62, 63, 64, 65, 66] M M' ∧ ∀ y : Int, (y < (hr : Int) * 3125 ∨ (hr : Int) * 3125 + 3125 ≤ y) → M' 66 y = M 66 y) := by
  have hP := hok.1
  have h32 := p2_32 hP
  have hz := hT.2.2.1
  have hz' := hz
  unfold fz at hz'
  obtain ⟨oa, ob⟩ := hz.o
  obtain ⟨s1, s2, s3⟩ := sh_Fr oa
  have hs3 := hT.2.2.2.1.2.2.2.2.2.1 s hs
  have hwp := hT.2.2.2.1.2.2.2.2.2.2 s hs
  have hAnd := hT.2.2.2.2.2.2.2.2.1
  have hab : ablS h.P s < 32 := bitsP32 hP
  refine MS.by ck_Ro_lookFrom [some (vr 56), some (vr 33), some (vi s), some (vi hr), some (vl (told hr)), none, none, none, none] fun _ _ => ?_
  generalize hokf : okSn h told hr = okf
  generalize hnxf : nxt h sd cold = nxf
  generalize hQ : (fun (r : Option AV) (M' : AM) => r = none ∧ StAt M' h sd cold (2 ^ h.P - 1) s ∧ RwT M' a b F (lkSet okf nxf F s (2 ^ h.P) (A, cm)).1 ∧ c66 M' hr (lkSet okf nxf F s (2 ^ h.P) (A, cm)).1.l (lkSet okf nxf F s (2 ^ h.P) (A, cm)).2 ∧ Same [58, 59, 60, 61, 62, 63, 64, 65, 66] M M' ∧ ∀ y : Int, (y < (hr : Int) * 3125 ∨ (hr : Int) * 3125 + 3125 ≤ y) → M' 66 y = M 66 y) = Q
  have loop : ∀ (r set : Nat) (N : AM) (l7 l8 : Option AV), set + r = 2 ^ h.P → StAt N h sd cold (2 ^ h.P - 1) s → RwT N a b F (lkSet okf nxf F s set (A, cm)).1 → c66 N hr (lkSet okf nxf F s set (A, cm)).1.l (lkSet okf nxf F s set (A, cm)).2 → Same [58, 59, 60, 61, 62, 63, 64, 65, 66] M N → (∀ y : Int, (y < (hr : Int) * 3125 ∨ (hr : Int) * 3125 + 3125 ≤ y) → N 66 y = M 66 y) → AW G d mi_Ro_lookFrom Q 3 [some (vr 56), some (vr 33), some (vi s), some (vi hr), some (vl (told hr)), none, some (vi set), l7, l8] [] N := by
    as_aux_lemma =>
      intro r
      induction r with
      | zero =>
        intro set N l7 l8 hset hSN hTN hcN hN hy
        obtain rfl : set = 2 ^ h.P := by omega
        have e2 : N 33 2 = ((2 ^ h.P : Nat) : Int) := hSN.1.2.2.1.2.1
        refine AW.run ck_Ro_lookFrom [29] 10 3 ?_
        simp only [wR, wB, wE0, wE1, wE2, wE3, g0, gS, s10, s11, s1S, s20, s21, s2S, kl0, kl1, kl2, kl3, sp0, sp1, sp2, sp3, cn1, cn2, cn3, cn4, cn5, cn6, jJa, lk0, lk1, jmS, jmN, s4_0, s4_1, s4_2, s4_3, s4_4, sw0, sw1, cKs, cKn, true_and, and_true, List.map_cons, List.map_nil, Nat.reduceAdd, Nat.zero_add, Int.reduceAdd, Nat.reduceEqDiff, reduceIte, Classical.not_not, b_Ro_lookFrom, shRo, shSt, e2]
        subst hQ
        (repeat' (first | omega | (with_reducible exact True.intro) | exact ⟨by omega, by omega⟩ | (with_reducible exact Or.inr trivial) | (with_reducible exact Or.inl trivial) | (with_reducible assumption) | (with_reducible exact Same.refl) | (with_reducible rfl) | (with_reducible refine And.intro ?_ ?_) | (with_reducible intro _)))
      | succ r ih =>
        intro set N l7 l8 hset hSN hTN hcN hN hy
        have e2 : N 33 2 = ((2 ^ h.P : Nat) : Int) := hSN.1.2.2.1.2.1
        have e6 : N 33 6 = ((ablS h.P s : Nat) : Int) := by rw [hSN.2.1, abW_all hP]
        have k1 := hTN.1
        have k2 := hTN.2.1
        have g2 : N (a + 2) (s : Int) = F.wy s := by
          have := hTN.2.2.2.1.2.2.1 s hs3
          rw [if_pos hs] at this
          exact this
        have g3 : N (a + 3) (s : Int) = F.hd s := hTN.2.2.2.1.2.2.2.1 s hs
        have a118 : ∀ (N : AM) (l7 l8 : Option AV), StAt N h sd cold (2 ^ h.P - 1) s → RwT N a b F (lkSet okf nxf F s (set + 1) (A, cm)).1 → c66 N hr (lkSet okf nxf F s (set + 1) (A, cm)).1.l (lkSet okf nxf F s (set + 1) (A, cm)).2 → Same [58, 59, 60, 61, 62, 63, 64, 65, 66] M N → (∀ y : Int, (y < (hr : Int) * 3125 ∨ (hr : Int) * 3125 + 3125 ≤ y) → N 66 y = M 66 y) → AW G d mi_Ro_lookFrom Q 118 [some (vr 56), some (vr 33), some (vi s), some (vi hr), some (vl (told hr)), none, some (vi set), l7, l8] [] N := by
          intro N l7 l8 q1 q2 q3 q4 q5
          have := ih (set + 1) N l7 l8 (by omega) q1 q2 q3 q4 q5
          refine AW.run ck_Ro_lookFrom [3] 10 118 ?_
          simp only [wR, wB, wE0, wE1, wE2, wE3, g0, gS, s10, s11, s1S, s20, s21, s2S, kl0, kl1, kl2, kl3, sp0, sp1, sp2, sp3, cn1, cn2, cn3, cn4, cn5, cn6, jJa, lk0, lk1, jmS, jmN, s4_0, s4_1, s4_2, s4_3, s4_4, sw0, sw1, cKs, cKn, true_and, and_true, List.map_cons, List.map_nil, Nat.reduceAdd, Nat.zero_add, Int.reduceAdd, Nat.reduceEqDiff, reduceIte, Classical.not_not, b_Ro_lookFrom, ce]
          (repeat' (first | omega | (with_reducible exact True.intro) | exact ⟨by omega, by omega⟩ | (with_reducible exact Or.inr trivial) | (with_reducible exact Or.inl trivial) | (with_reducible assumption) | (with_reducible exact Same.refl) | (with_reducible rfl) | (with_reducible refine And.intro ?_ ?_) | (with_reducible intro _)))
        have no : okf s set = false → ∀ l7 l8, AW G d mi_Ro_lookFrom Q 118 [some (vr 56), some (vr 33), some (vi s), some (vi hr), some (vl (told hr)), none, some (vi set), l7, l8] [] N := by
          intro e l7 l8
          have e' : lkSet okf nxf F s (set + 1) (A, cm) = lkSet okf nxf F s set (A, cm) := by simp only [lkSet]; rw [if_neg (by rw [e]; decide)]
          exact a118 N l7 l8 hSN (by rw [e']; exact hTN) (by rw [e']; exact hcN) hN hy
        have a57 : okf s set = true → AW G d mi_Ro_lookFrom Q 57 [some (vr 56), some (vr 33), some (vi s), some (vi hr), some (vl (told hr)), none, some (vi set), some (vi 1), l8] [] N := by
          intro eo
          have eo' := eo
          rw [← hokf] at eo'
          unfold okSn at eo'
          rw [Bool.and_eq_true, decide_eq_true_eq] at eo'
          have hsub : sub set (abW h.P (2 ^ h.P - 1) s) := by
            rw [abW_all hP]; exact (sub_iff (by omega) hab).mp eo'.1
          have e1 : lkSet okf nxf F s (set + 1) (A, cm) = (addF (lkSet okf nxf F s set (A, cm)).1 (nxf s set) (F.wy s) (F.hd s ||| set), if nxf s set ∈ (lkSet okf nxf F s set (A, cm)).1.l then (lkSet okf nxf F s set (A, cm)).2 else ud (lkSet okf nxf F s set (A, cm)).2 (nxf s set) (s * 32 + set)) := by simp only [lkSet]; rw [if_pos eo]
          have hval := lkSet_val (okf := okf) (nx := nxf) (F := F) (s := s) (st := (A, cm)) hAnd (fun _ => 1) set
          have hval' : (lkSet okf nxf F s set (A, cm)).1.val (fun _ => 1) = A.val (fun _ => 1) + F.wy s * stp' okf nxf (fun _ => 1) s set := hval
          have hst := stp'_le (ok := okf) (nx := nxf) (g := fun _ => 1) (s := s) 1 (fun _ => Nat.le_refl _) set
          have hb2 : F.wy s * stp' okf nxf (fun _ => 1) s set ≤ 32 * F.wy s := by rw [Nat.mul_comm]; exact Nat.mul_le_mul_right _ (by omega)
          have h32' := lkSet_32 (okf := okf) (nx := nxf) (F := F) (s := s) (st := (A, cm)) hF hA set (by omega)
          have hnl : nxf s set < 3125 := by rw [← hnxf]; exact nxt_lt hok
          have hor := or_lt hF (show set < 32 by omega)
          rw [e1] at a118
          generalize lkSet okf nxf F s set (A, cm) = S at *
          refine AW.run ck_Ro_lookFrom [118] 10 57 ?_
          simp only [wR, wB, wE0, wE1, wE2, wE3, g0, gS, s10, s11, s1S, s20, s21, s2S, kl0, kl1, kl2, kl3, sp0, sp1, sp2, sp3, cn1, cn2, cn3, cn4, cn5, cn6, jJa, lk0, lk1, jmS, jmN, s4_0, s4_1, s4_2, s4_3, s4_4, sw0, sw1, cKs, cKn, true_and, and_true, List.map_cons, List.map_nil, Nat.reduceAdd, Nat.zero_add, Int.reduceAdd, Nat.reduceEqDiff, reduceIte, Classical.not_not, b_Ro_lookFrom, shRo, shSt]
          refine ⟨by omega, MS.to (c_St_to hok hSN (by omega) hsub) fun _ => ?_⟩
          rw [nxW_all hP, hnxf]
          simp only [wR, wB, wE0, wE1, wE2, wE3, g0, gS, s10, s11, s1S, s20, s21, s2S, kl0, kl1, kl2, kl3, sp0, sp1, sp2, sp3, cn1, cn2, cn3, cn4, cn5, cn6, jJa, lk0, lk1, jmS, jmN, s4_0, s4_1, s4_2, s4_3, s4_4, sw0, sw1, cKs, cKn, true_and, and_true, List.map_cons, List.map_nil, Nat.reduceAdd, Nat.zero_add, Int.reduceAdd, Nat.reduceEqDiff, reduceIte, Classical.not_not, b_Ro_lookFrom, shRo, k1, k2, oa, ob, s2, s3, g2, g3, bOr_n (show F.hd s < 2 ^ 31 by omega) (show set < 2 ^ 31 by omega)]
          (repeat' (first | omega | (with_reducible exact True.intro) | exact ⟨by omega, by omega⟩ | (with_reducible exact Or.inr trivial) | (with_reducible exact Or.inl trivial) | (with_reducible assumption) | (with_reducible exact Same.refl) | (with_reducible rfl) | (with_reducible refine And.intro ?_ ?_) | (with_reducible intro _)))
          refine (c_Fr_add ob hTN.2.2.2.2 hnl hwp (by omega) hor h32').mono ?_
          rintro r' N2 okN2 ⟨rfl, u1, u2⟩
          have hT2 : RwT N2 a b F (addF S.1 (nxf s set) (F.wy s) (F.hd s ||| set)) := ⟨by rw [u2.at 56 _ (by simp <;> omega)]; exact k1, by rw [u2.at 56 _ (by simp <;> omega)]; exact k2, hz, hTN.2.2.2.1.eq (u2 _ (by simp <;> omega)) (u2 _ (by simp <;> omega)) (u2 _ (by simp <;> omega)) (u2 _ (by simp <;> omega)), u1⟩
          have hS2 := hSN.same u2 (fun x h1 h2 => by simp <;> omega)
          have hN2 : Same [58, 59, 60, 61, 62, 63, 64, 65, 66] M N2 := hN.trans (u2.mono (by intro x hx; simp only [List.mem_cons, List.not_mem_nil, or_false] at hx ⊢; omega))
          have h66 : N2 66 = N 66 := u2 66 (by simp <;> omega)
          simp only [wR, wB, wE0, wE1, wE2, wE3, g0, gS, s10, s11, s1S, s20, s21, s2S, kl0, kl1, kl2, kl3, sp0, sp1, sp2, sp3, cn1, cn2, cn3, cn4, cn5, cn6, jJa, lk0, lk1, jmS, jmN, s4_0, s4_1, s4_2, s4_3, s4_4, sw0, sw1, cKs, cKn, true_and, and_true, List.map_cons, List.map_nil, Nat.reduceAdd, Nat.zero_add, Int.reduceAdd, Nat.reduceEqDiff, reduceIte, Classical.not_not, b_Ro_lookFrom, shRo]
          by_cases qm : nxf s set ∈ S.1.l
          · rw [if_pos qm] at a118 ⊢
            have := a118 N2 (some (vi 1)) (some (vi (nxf s set))) hS2 hT2 (fun x hx => by
              show N2 66 _ = ((S.2 x : Nat) : Int)
              rw [h66]
              refine hcN x ?_
              rcases addF_mem.mp hx with q | q
              · exact q
              · rw [q]; exact qm) hN2 (fun y hy' => by rw [h66]; exact hy y hy')
            (repeat' (first | omega | (with_reducible exact True.intro) | exact ⟨by omega, by omega⟩ | (with_reducible exact Or.inr trivial) | (with_reducible exact Or.inl trivial) | (with_reducible assumption) | (with_reducible exact Same.refl) | (with_reducible rfl) | (with_reducible refine And.intro ?_ ?_) | (with_reducible intro _)))
          · rw [if_neg qm] at a118 ⊢
            have ec : (s : Int) * 32 + (set : Int) = ((s * 32 + set : Nat) : Int) := by omega
            have := a118 (up N2 66 ((hr : Int) * 3125 + (nxf s set : Int)) ((s * 32 + set : Nat) : Int)) (some (vi 1)) (some (vi (nxf s set))) (hS2.same (ps := [66]) (Same.refl.up (by simp)) (fun x h1 h2 => by simp <;> omega)) (hT2.eq (fun x hx => by funext y; exact up_ne1 (by omega))) (fun x hx => by
              show _ = ((ud S.2 (nxf s set) (s * 32 + set) x : Nat) : Int)
              by_cases ex : x = nxf s set
              · subst ex; rw [up_eq, ud_eq]
              · rw [up_ne2 (by omega), ud_ne ex, h66]
                exact hcN x ((addF_mem.mp hx).elim id (fun q => absurd q ex))) (hN2.up (by simp)) (fun y hy' => by rw [up_ne2 (by omega), h66]; exact hy y hy')
            simp only [wR, wB, wE0, wE1, wE2, wE3, g0, gS, s10, s11, s1S, s20, s21, s2S, kl0, kl1, kl2, kl3, sp0, sp1, sp2, sp3, cn1, cn2, cn3, cn4, cn5, cn6, jJa, lk0, lk1, jmS, jmN, s4_0, s4_1, s4_2, s4_3, s4_4, sw0, sw1, cKs, cKn, true_and, and_true, List.map_cons, List.map_nil, Nat.reduceAdd, Nat.zero_add, Int.reduceAdd, Nat.reduceEqDiff, reduceIte, Classical.not_not, ec, Int.reduceEq, not_true_eq_false, not_false_eq_true, false_imp_iff, true_imp_iff, and_self]
            (repeat' (first | omega | (with_reducible exact True.intro) | exact ⟨by omega, by omega⟩ | (with_reducible exact Or.inr trivial) | (with_reducible exact Or.inl trivial) | (with_reducible assumption) | (with_reducible exact Same.refl) | (with_reducible rfl) | (with_reducible refine And.intro ?_ ?_) | (with_reducible intro _)))
        have a29 : ∀ x : Int, x = (if set &&& (31 ^^^ ablS h.P s) = 0 then 1 else 0) → AW G d mi_Ro_lookFrom Q 29 [some (vr 56), some (vr 33), some (vi s), some (vi hr), some (vl (told hr)), none, some (vi set), l7, l8] [vi x] N := by
          intro x hx
          refine AW.run ck_Ro_lookFrom [57, 118] 10 29 ?_
          simp only [wR, wB, wE0, wE1, wE2, wE3, g0, gS, s10, s11, s1S, s20, s21, s2S, kl0, kl1, kl2, kl3, sp0, sp1, sp2, sp3, cn1, cn2, cn3, cn4, cn5, cn6, jJa, lk0, lk1, jmS, jmN, s4_0, s4_1, s4_2, s4_3, s4_4, sw0, sw1, cKs, cKn, true_and, and_true, List.map_cons, List.map_nil, Nat.reduceAdd, Nat.zero_add, Int.reduceAdd, Nat.reduceEqDiff, reduceIte, Classical.not_not, b_Ro_lookFrom, shRo, cmp3_eq]
          by_cases q : set &&& (31 ^^^ ablS h.P s) = 0
          · rw [if_pos q] at hx
            subst hx
            by_cases q1 : told hr = -1
            · have := a57 (by rw [← hokf]; unfold okSn; simp [q, q1])
              (repeat' (first | omega | (with_reducible exact True.intro) | exact ⟨by omega, by omega⟩ | (with_reducible exact Or.inr trivial) | (with_reducible exact Or.inl trivial) | (with_reducible assumption) | (with_reducible exact Same.refl) | (with_reducible rfl) | (with_reducible refine And.intro ?_ ?_) | (with_reducible intro _)))
            · (repeat' (first | omega | (with_reducible exact True.intro) | exact ⟨by omega, by omega⟩ | (with_reducible exact Or.inr trivial) | (with_reducible exact Or.inl trivial) | (with_reducible assumption) | (with_reducible exact Same.refl) | (with_reducible rfl) | (with_reducible refine And.intro ?_ ?_) | (with_reducible intro _)))
              refine MS.to (c_JI_bitCount (show set < 32 by omega)) fun _ => ?_
              simp only [wR, wB, wE0, wE1, wE2, wE3, g0, gS, s10, s11, s1S, s20, s21, s2S, kl0, kl1, kl2, kl3, sp0, sp1, sp2, sp3, cn1, cn2, cn3, cn4, cn5, cn6, jJa, lk0, lk1, jmS, jmN, s4_0, s4_1, s4_2, s4_3, s4_4, sw0, sw1, cKs, cKn, true_and, and_true, List.map_cons, List.map_nil, Nat.reduceAdd, Nat.zero_add, Int.reduceAdd, Nat.reduceEqDiff, reduceIte, Classical.not_not, b_Ro_lookFrom, shRo, cmp3_eq]
              by_cases q2 : told hr = (pop set : Int)
              · have := a57 (by rw [← hokf]; unfold okSn; simp [q, q2])
                (repeat' (first | omega | (with_reducible exact True.intro) | exact ⟨by omega, by omega⟩ | (with_reducible exact Or.inr trivial) | (with_reducible exact Or.inl trivial) | (with_reducible assumption) | (with_reducible exact Same.refl) | (with_reducible rfl) | (with_reducible refine And.intro ?_ ?_) | (with_reducible intro _)))
              · have := no (by rw [← hokf]; unfold okSn; simp [q1, q2]) (some (vi 1)) l8
                (repeat' (first | omega | (with_reducible exact True.intro) | exact ⟨by omega, by omega⟩ | (with_reducible exact Or.inr trivial) | (with_reducible exact Or.inl trivial) | (with_reducible assumption) | (with_reducible exact Same.refl) | (with_reducible rfl) | (with_reducible refine And.intro ?_ ?_) | (with_reducible intro _)))
          · rw [if_neg q] at hx
            subst hx
            have := no (by rw [← hokf]; unfold okSn; simp [q]) (some (vi 0)) l8
            (repeat' (first | omega | (with_reducible exact True.intro) | exact ⟨by omega, by omega⟩ | (with_reducible exact Or.inr trivial) | (with_reducible exact Or.inl trivial) | (with_reducible assumption) | (with_reducible exact Same.refl) | (with_reducible rfl) | (with_reducible refine And.intro ?_ ?_) | (with_reducible intro _)))
        refine AW.run ck_Ro_lookFrom [29, 127] 10 3 ?_
        simp only [wR, wB, wE0, wE1, wE2, wE3, g0, gS, s10, s11, s1S, s20, s21, s2S, kl0, kl1, kl2, kl3, sp0, sp1, sp2, sp3, cn1, cn2, cn3, cn4, cn5, cn6, jJa, lk0, lk1, jmS, jmN, s4_0, s4_1, s4_2, s4_3, s4_4, sw0, sw1, cKs, cKn, true_and, and_true, List.map_cons, List.map_nil, Nat.reduceAdd, Nat.zero_add, Int.reduceAdd, Nat.reduceEqDiff, reduceIte, Classical.not_not, b_Ro_lookFrom, shSt, e2, e6, bAndN_n (show set < 32 by omega) hab]
        by_cases q : set &&& (31 ^^^ ablS h.P s) = 0
        · have := a29 1 (by rw [if_pos q])
          (repeat' (first | omega | (with_reducible exact True.intro) | exact ⟨by omega, by omega⟩ | (with_reducible exact Or.inr trivial) | (with_reducible exact Or.inl trivial) | (with_reducible assumption) | (with_reducible exact Same.refl) | (with_reducible rfl) | (with_reducible refine And.intro ?_ ?_) | (with_reducible intro _)))
        · have := a29 0 (by rw [if_neg q])
          (repeat' (first | omega | (with_reducible exact True.intro) | exact ⟨by omega, by omega⟩ | (with_reducible exact Or.inr trivial) | (with_reducible exact Or.inl trivial) | (with_reducible assumption) | (with_reducible exact Same.refl) | (with_reducible rfl) | (with_reducible refine And.intro ?_ ?_) | (with_reducible intro _)))
  have := loop (2 ^ h.P) 0 M none none (by omega) hS hT hc Same.refl (fun _ _ => rfl)
  refine AW.run ck_Ro_lookFrom [3] 10 0 ?_
  simp only [wR, wB, wE0, wE1, wE2, wE3, g0, gS, s10, s11, s1S, s20, s21, s2S, kl0, kl1, kl2, kl3, sp0, sp1, sp2, sp3, cn1, cn2, cn3, cn4, cn5, cn6, jJa, lk0, lk1, jmS, jmN, s4_0, s4_1, s4_2, s4_3, s4_4, sw0, sw1, cKs, cKn, true_and, and_true, List.map_cons, List.map_nil, Nat.reduceAdd, Nat.zero_add, Int.reduceAdd, Nat.reduceEqDiff, reduceIte, Classical.not_not, b_Ro_lookFrom]
  exact this
end LK
