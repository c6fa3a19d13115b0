noncomputable def sbI (okI : Nat → Nat → Nat → Bool) (nx : Nat → Nat → Nat) (s0 n i : Nat) : Int := if Wy okI nx n 0 s0 = 0 ∨ n ≤ i then -1 else Classical.epsilon (fun r : Int => ∃ c t, Chl okI nx s0 n c t ∧ r = (t i : Nat))
theorem sbI_c {okI : Nat → Nat → Nat → Bool} {nx : Nat → Nat → Nat} {s0 n i : Nat} {c t : Nat → Nat} (h : Chl okI nx s0 n c t) (hw : 0 < Wy okI nx n 0 s0) (hi : i < n) : sbI okI nx s0 n i = (t i : Nat) := by
  unfold sbI
  rw [if_neg (by omega)]
  have := Classical.epsilon_spec (p := fun r : Int => ∃ c t, Chl okI nx s0 n c t ∧ r = (t i : Nat)) ⟨_, c, t, h, rfl⟩
  obtain ⟨c', t', h', e⟩ := this
  rw [e, (Chl_un h' h i (by omega)).2 hi]
def surI (okI : Nat → Nat → Nat → Bool) (nx : Nat → Nat → Nat) (P s0 n : Nat) : Nat := if Wy okI nx n 0 s0 = 0 then 0 else bitsP (fun p => decide (Wy (okB okI p) nx n 0 s0 = 0)) P
theorem Wy_congr {okI okI' : Nat → Nat → Nat → Bool} {nx : Nat → Nat → Nat} (h : ∀ i s y, y < 32 → okI i s y = okI' i s y) : ∀ r i s, Wy okI nx r i s = Wy okI' nx r i s
  | 0, _, _ => rfl
  | r + 1, i, s => by
    show sumN (fun y => if okI i s y = true then Wy okI nx r (i + 1) (nx s y) else 0) 32 = sumN (fun y => if okI' i s y = true then Wy okI' nx r (i + 1) (nx s y) else 0) 32
    refine sumN_congr 32 (fun y hy => ?_)
    show (if okI i s y = true then Wy okI nx r (i + 1) (nx s y) else 0) = (if okI' i s y = true then Wy okI' nx r (i + 1) (nx s y) else 0)
    rw [h i s y hy, Wy_congr h r]
/-- a look done -/
def LkD (M : AM) (okI : Nat → Nat → Nat → Bool) (nx : Nat → Nat → Nat) (N s0 n : Nat) : Prop := (∃ a b, RwT M a b (lkH okI nx N s0 n) FS.nil) ∧ M 56 4 = n ∧ ∀ h, h < n → c66 M h (lkH okI nx N s0 (h + 1)).l (cmH okI nx N s0 h)
theorem val_nil {F : FS} (hp : ∀ s, s ∈ F.l → 0 < F.wy s) : F.l.length = 0 ↔ F.val (fun _ => 1) = 0 := by
  constructor
  · intro h
    rw [val_sum, h]; rfl
  · intro h
    rcases Nat.eq_zero_or_pos F.l.length with q | q
    · exact q
    · have hm := getD_mem q
      have := hp _ hm
      have := val_one hm
      omega
section LK2
variable {G : AG} {d : Nat} {M : AM}
set_option maxRecDepth 20000 in
theorem c_Ro_look {h : Hl} {sd : Nat → Nat} {cold s0 n : Nat} {told : Nat → Int} {z : Int} (hd : 10 ≤ d) (hok : HlOK h) (hS : StOK M h sd cold (2 ^ h.P - 1)) (hI : RwInv M) (hs0 : s0 < 5 ^ h.P) (hz : isO z 11) (hz8 : 87 ≤ z) (hn : M z 0 = n) (hn1 : 1 ≤ n) (hn8 : n ≤ 8) (ht : ∀ i : Nat, i < n → M (z + 1) i = told i) :
    MS G d mi_Ro_look [vr 56, vr 33, vi s0, vr z] M (fun r M' => r = none ∧ LkD M' (okSn h told) (nxt h sd cold) (2 ^ h.P) s0 n ∧ StOK M' h sd cold (2 ^ h.P - 1) ∧ Same [33, 56, 58, 59, 60, 61, 62, 63, 64, 65, 66] M M') := by
  have hP := hok.1
  have h5 := p5 hP
  have h32 := p2_32 hP
  refine MS.by ck_Ro_look [some (vr 56), some (vr 33), some (vi s0), some (vr z), none, none] fun _ _ => ?_
  generalize hQ : (fun (r : Option AV) (M' : AM) => r = none ∧ LkD M' (okSn h told) (nxt h sd cold) (2 ^ h.P) s0 n ∧ StOK M' h sd cold (2 ^ h.P - 1) ∧ Same [33, 56, 58, 59, 60, 61, 62, 63, 64, 65, 66] M M') = Q
  have hnx : ∀ s y, nxt h sd cold s y < 5 ^ h.P := fun s y => codT_lt _ 0 (fun p _ _ => tired_le _ _ _ _ _ _)
  have l21 : ∀ (r k : Nat) (a b : Int) (N : AM) (l5 : Option AV), k + r = n → RwT N a b (lkH (okSn h told) (nxt h sd cold) (2 ^ h.P) s0 k) FS.nil → N 56 4 = n → (∀ j, j < k → c66 N j (lkH (okSn h told) (nxt h sd cold) (2 ^ h.P) s0 (j + 1)).l (cmH (okSn h told) (nxt h sd cold) (2 ^ h.P) s0 j)) → StOK N h sd cold (2 ^ h.P - 1) → Same [33, 56, 58, 59, 60, 61, 62, 63, 64, 65, 66] M N → AW G d mi_Ro_look Q 21 [some (vr 56), some (vr 33), some (vi s0), some (vr z), some (vi k), l5] [] N := by
    as_aux_lemma =>
      intro r
      induction r with
      | zero =>
        intro k a b N l5 hk hT h4 hc hSN hN
        obtain rfl : k = n := by omega
        refine AW.run ck_Ro_look [33] 10 21 ?_
        simp only [wR, wB, wE0, wE1, wE2, wE3, g0, gS, s10, s11, s1S, s20, s21, s2S, kl0, kl1, kl2, kl3, sp0, sp1, sp2, sp3, cn1, cn2, cn3, cn4, cn5, cn6, jJa, lk0, lk1, jmS, jmN, s4_0, s4_1, s4_2, s4_3, s4_4, sw0, sw1, cKs, cKn, true_and, and_true, List.map_cons, List.map_nil, Nat.reduceAdd, Nat.zero_add, Int.reduceAdd, Nat.reduceEqDiff, reduceIte, Classical.not_not, b_Ro_look, shRo, h4]
        subst hQ
        (repeat' (first | omega | (with_reducible exact True.intro) | exact ⟨by omega, by omega⟩ | (with_reducible exact Or.inr trivial) | (with_reducible exact Or.inl trivial) | (with_reducible assumption) | (with_reducible exact Same.refl) | (with_reducible rfl) | (with_reducible refine And.intro ?_ ?_) | (with_reducible intro _)))
        exact ⟨⟨a, b, hT⟩, h4, hc⟩
      | succ r ih =>
        intro k a b N l5 hk hT h4 hc hSN hN
        have hz' := hT.2.2.1
        have hzz := hz'
        unfold fz at hzz
        obtain ⟨oa, ob⟩ := hz'.o
        obtain ⟨s1, s2, s3⟩ := sh_Fr oa
        have hF32 := lkH_32 (okI := okSn h told) (nx := nxt h sd cold) (s0 := s0) h32 k
        have hF5 := lkH_lt (okI := okSn h told) (nx := nxt h sd cold) (N := 2 ^ h.P) (s0 := s0) hs0 hnx k
        have hbd := lkH_bd (okI := okSn h told) (nx := nxt h sd cold) (s0 := s0) h32 k
        have h7 : (32 : Nat) ^ k ≤ 32 ^ 8 := Nat.pow_le_pow_right (by omega) (by omega)
        have hnext : lkH (okSn h told) (nxt h sd cold) (2 ^ h.P) s0 (k + 1) = (lkAll (okSn h told k) (nxt h sd cold) (lkH (okSn h told) (nxt h sd cold) (2 ^ h.P) s0 k) (2 ^ h.P) (lkH (okSn h told) (nxt h sd cold) (2 ^ h.P) s0 k).l.length (FS.nil, fun _ => 0)).1 := rfl
        have hcmk : cmH (okSn h told) (nxt h sd cold) (2 ^ h.P) s0 k = (lkAll (okSn h told k) (nxt h sd cold) (lkH (okSn h told) (nxt h sd cold) (2 ^ h.P) s0 k) (2 ^ h.P) (lkH (okSn h told) (nxt h sd cold) (2 ^ h.P) s0 k).l.length (FS.nil, fun _ => 0)).2 := rfl
        generalize hFF : lkH (okSn h told) (nxt h sd cold) (2 ^ h.P) s0 k = F at hT hF32 hF5 hbd hnext hcmk
        have l33 : ∀ (r' i : Nat) (N : AM), i + r' = F.l.length → RwT N a b F (lkAll (okSn h told k) (nxt h sd cold) F (2 ^ h.P) i (FS.nil, fun _ => 0)).1 → c66 N k (lkAll (okSn h told k) (nxt h sd cold) F (2 ^ h.P) i (FS.nil, fun _ => 0)).1.l (lkAll (okSn h told k) (nxt h sd cold) F (2 ^ h.P) i (FS.nil, fun _ => 0)).2 → N 56 4 = n → (∀ j, j < k → c66 N j (lkH (okSn h told) (nxt h sd cold) (2 ^ h.P) s0 (j + 1)).l (cmH (okSn h told) (nxt h sd cold) (2 ^ h.P) s0 j)) → StOK N h sd cold (2 ^ h.P - 1) → Same [33, 56, 58, 59, 60, 61, 62, 63, 64, 65, 66] M N → AW G d mi_Ro_look Q 33 [some (vr 56), some (vr 33), some (vi s0), some (vr z), some (vi k), some (vi i)] [] N := by
          intro r'
          induction r' with
          | zero =>
            intro i N hi hT hcA h4 hc hSN hN
            obtain rfl : i = F.l.length := by omega
            have k1 := hT.1
            have k2 := hT.2.2.2.1.1
            refine AW.run ck_Ro_look [21, 33] 10 33 ?_
            simp only [wR, wB, wE0, wE1, wE2, wE3, g0, gS, s10, s11, s1S, s20, s21, s2S, kl0, kl1, kl2, kl3, sp0, sp1, sp2, sp3, cn1, cn2, cn3, cn4, cn5, cn6, jJa, lk0, lk1, jmS, jmN, s4_0, s4_1, s4_2, s4_3, s4_4, sw0, sw1, cKs, cKn, true_and, and_true, List.map_cons, List.map_nil, Nat.reduceAdd, Nat.zero_add, Int.reduceAdd, Nat.reduceEqDiff, reduceIte, Classical.not_not, b_Ro_look, shRo, k1, oa, k2, s1]
            (repeat' (first | omega | (with_reducible exact True.intro) | exact ⟨by omega, by omega⟩ | (with_reducible exact Or.inr trivial) | (with_reducible exact Or.inl trivial) | (with_reducible assumption) | (with_reducible exact Same.refl) | (with_reducible rfl) | (with_reducible refine And.intro ?_ ?_) | (with_reducible intro _)))
            refine (c_Ro_turnOver (d := d - 1) (by omega) hT).mono ?_
            rintro r'' N2 okN2 ⟨rfl, u1, u2, u3⟩
            have h66 : N2 66 = N 66 := u2 66 (by (first | decide | (simp only [List.mem_cons, List.not_mem_nil, or_false, not_or, not_false_eq_true, and_true]; omega) | (simp [List.mem_cons]; done)))
            have := ih (k + 1) b a N2 (some (vi (F.l.length : Int))) (by omega) (by rw [hnext]; exact u1) (by rw [u3]; exact h4) (fun j hj => by
              intro x hx
              rw [h66]
              by_cases e : j = k
              · subst e
                rw [hnext] at hx
                rw [hcmk]
                exact hcA x hx
              · exact hc j (by omega) x hx) (hSN.same u2 (fun x h1 h2 => by (first | decide | (simp only [List.mem_cons, List.not_mem_nil, or_false, not_or, not_false_eq_true, and_true]; omega) | (simp [List.mem_cons]; done)))) (hN.trans (u2.mono (by simp)))
            simp only [wR, wB, wE0, wE1, wE2, wE3, g0, gS, s10, s11, s1S, s20, s21, s2S, kl0, kl1, kl2, kl3, sp0, sp1, sp2, sp3, cn1, cn2, cn3, cn4, cn5, cn6, jJa, lk0, lk1, jmS, jmN, s4_0, s4_1, s4_2, s4_3, s4_4, sw0, sw1, cKs, cKn, true_and, and_true, List.map_cons, List.map_nil, Nat.reduceAdd, Nat.zero_add, Int.reduceAdd, Nat.reduceEqDiff, reduceIte, Classical.not_not, b_Ro_look, ce]
            (repeat' (first | omega | (with_reducible exact True.intro) | exact ⟨by omega, by omega⟩ | (with_reducible exact Or.inr trivial) | (with_reducible exact Or.inl trivial) | (with_reducible assumption) | (with_reducible exact Same.refl) | (with_reducible rfl) | (with_reducible refine And.intro ?_ ?_) | (with_reducible intro _)))
          | succ r' ih2 =>
            intro i N hi hT hcA h4 hc hSN hN
            have hil : i < F.l.length := by omega
            have k1 := hT.1
            have k2 := hT.2.2.2.1.1
            obtain ⟨g1, g2, g3⟩ := hT.2.2.2.1.at hil
            have hlen := len_lt hT.2.2.2.1.2.2.2.2.1 hT.2.2.2.1.2.2.2.2.2.1
            have hsm := getD_mem hil
            have hs5 := hF5 _ hsm
            have hwv := val_one hsm
            have hA32 := lkAll_32 (okf := okSn h told k) (nx := nxt h sd cold) (F := F) (N := 2 ^ h.P) (st := (FS.nil, fun _ => 0)) h32 hF32 (fun x hx => absurd hx (List.not_mem_nil)) i (by omega)
            have hval := lkAll_val (okf := okSn h told k) (nx := nxt h sd cold) (F := F) (N := 2 ^ h.P) (st := (FS.nil, fun _ => 0)) List.nodup_nil (fun _ => 1) i
            have hpb := preV_bd (ok := okSn h told k) (nx := nxt h sd cold) (F := F) (N := 2 ^ h.P) (i := i) (set := 0) h32 (by omega) hil
            have hvn : FS.val (FS.nil, fun (_ : Nat) => (0 : Nat)).1 (fun _ => 1) = 0 := rfl
            have etold : ∀ N : AM, Same [33, 56, 58, 59, 60, 61, 62, 63, 64, 65, 66] M N → N (z + 1) (k : Int) = told k := fun N hN => by rw [hN.at (z + 1) _ (by simp <;> omega)]; exact ht k (by omega)
            have hnx1 : lkAll (okSn h told k) (nxt h sd cold) F (2 ^ h.P) (i + 1) (FS.nil, fun _ => 0) = lkSet (okSn h told k) (nxt h sd cold) F (F.l.getD i 0) (2 ^ h.P) (lkAll (okSn h told k) (nxt h sd cold) F (2 ^ h.P) i (FS.nil, fun _ => 0)) := rfl
            have hbb : (lkAll (okSn h told k) (nxt h sd cold) F (2 ^ h.P) i (FS.nil, fun _ => 0)).1.val (fun _ => 1) + 33 * F.wy (F.l.getD i 0) < 2 ^ 62 := by
              rw [hval, hvn]
              have h8 : (32 : Nat) ^ 8 = 1099511627776 := by decide
              omega
            generalize hsi : F.l.getD i 0 = s at g1 g2 g3 hsm hs5 hwv hnx1 hbb
            have ih2' := ih2 (i + 1)
            rw [hnx1] at ih2'
            generalize hSS : lkAll (okSn h told k) (nxt h sd cold) F (2 ^ h.P) i (FS.nil, fun _ => 0) = S at hT hcA hA32 ih2' hbb
            refine AW.run ck_Ro_look [33, 91] 10 33 ?_
            simp only [wR, wB, wE0, wE1, wE2, wE3, g0, gS, s10, s11, s1S, s20, s21, s2S, kl0, kl1, kl2, kl3, sp0, sp1, sp2, sp3, cn1, cn2, cn3, cn4, cn5, cn6, jJa, lk0, lk1, jmS, jmN, s4_0, s4_1, s4_2, s4_3, s4_4, sw0, sw1, cKs, cKn, true_and, and_true, List.map_cons, List.map_nil, Nat.reduceAdd, Nat.zero_add, Int.reduceAdd, Nat.reduceEqDiff, reduceIte, Classical.not_not, b_Ro_look, shRo, shSt, k1, oa, k2, s1, g1]
            (repeat' (first | omega | (with_reducible exact True.intro) | exact ⟨by omega, by omega⟩ | (with_reducible exact Or.inr trivial) | (with_reducible exact Or.inl trivial) | (with_reducible assumption) | (with_reducible exact Same.refl) | (with_reducible rfl) | (with_reducible refine And.intro ?_ ?_) | (with_reducible intro _)))
            refine (c_St_standAt hok hSN hs5).mono ?_
            rintro r'' N2 okN2 ⟨rfl, v1, v2⟩
            have k1' : N2 56 1 = a := by rw [v2.at 56 _ (by (first | decide | (simp only [List.mem_cons, List.not_mem_nil, or_false, not_or, not_false_eq_true, and_true]; omega) | (simp [List.mem_cons]; done)))]; exact k1
            have g1' : N2 (a + 1) (i : Int) = s := by rw [v2.at (a + 1) _ (by simp <;> omega)]; exact g1
            simp only [wR, wB, wE0, wE1, wE2, wE3, g0, gS, s10, s11, s1S, s20, s21, s2S, kl0, kl1, kl2, kl3, sp0, sp1, sp2, sp3, cn1, cn2, cn3, cn4, cn5, cn6, jJa, lk0, lk1, jmS, jmN, s4_0, s4_1, s4_2, s4_3, s4_4, sw0, sw1, cKs, cKn, true_and, and_true, List.map_cons, List.map_nil, Nat.reduceAdd, Nat.zero_add, Int.reduceAdd, Nat.reduceEqDiff, reduceIte, Classical.not_not, b_Ro_look, shRo, k1', oa, s1, g1', hz]
            (repeat' (first | omega | (with_reducible exact True.intro) | exact ⟨by omega, by omega⟩ | (with_reducible exact Or.inr trivial) | (with_reducible exact Or.inl trivial) | (with_reducible assumption) | (with_reducible exact Same.refl) | (with_reducible rfl) | (with_reducible refine And.intro ?_ ?_) | (with_reducible intro _)))
            refine MS.to (c_Tr_at hz) fun _ => ?_
            rw [if_pos ⟨by omega, by omega⟩, etold N2 (hN.trans (v2.mono (by simp)))]
            simp only [wR, wB, wE0, wE1, wE2, wE3, g0, gS, s10, s11, s1S, s20, s21, s2S, kl0, kl1, kl2, kl3, sp0, sp1, sp2, sp3, cn1, cn2, cn3, cn4, cn5, cn6, jJa, lk0, lk1, jmS, jmN, s4_0, s4_1, s4_2, s4_3, s4_4, sw0, sw1, cKs, cKn, true_and, and_true, List.map_cons, List.map_nil, Nat.reduceAdd, Nat.zero_add, Int.reduceAdd, Nat.reduceEqDiff, reduceIte, Classical.not_not, b_Ro_look, shRo]
            have hT2 := hT.eq (N := N2) (fun x hx => v2 x (by simp <;> omega))
            refine ⟨by omega, (c_Ro_lookFrom (d := d - 1) (cm := S.2) (by omega) hok v1 hT2 hsm (hF32 s hsm) hA32 hbb (by omega) (fun x hx => by rw [v2.at 66 _ (by (first | decide | (simp only [List.mem_cons, List.not_mem_nil, or_false, not_or, not_false_eq_true, and_true]; omega) | (simp [List.mem_cons]; done)))]; exact hcA x hx)).mono ?_⟩
            rintro r'' N3 okN3 ⟨rfl, w1, w2, w3, w4, w5⟩
            have eS : (S.1, S.2) = S := rfl
            rw [eS] at w2 w3
            have := ih2' N3 (by omega) w2 w3 (by rw [w4.at 56 _ (by (first | decide | (simp only [List.mem_cons, List.not_mem_nil, or_false, not_or, not_false_eq_true, and_true]; omega) | (simp [List.mem_cons]; done))), v2.at 56 _ (by (first | decide | (simp only [List.mem_cons, List.not_mem_nil, or_false, not_or, not_false_eq_true, and_true]; omega) | (simp [List.mem_cons]; done)))]; exact h4) (fun j hj x hx => by
              have hx3 : x < 3125 := by
                have := lkH_lt (okI := okSn h told) (nx := nxt h sd cold) (N := 2 ^ h.P) (s0 := s0) hs0 hnx (j + 1) x hx
                omega
              rw [w5 _ (by omega), v2.at 66 _ (by (first | decide | (simp only [List.mem_cons, List.not_mem_nil, or_false, not_or, not_false_eq_true, and_true]; omega) | (simp [List.mem_cons]; done)))]
              exact hc j hj x hx) w1.1 (hN.trans ((v2.mono (by simp)).trans (w4.mono (by simp))))
            simp only [wR, wB, wE0, wE1, wE2, wE3, g0, gS, s10, s11, s1S, s20, s21, s2S, kl0, kl1, kl2, kl3, sp0, sp1, sp2, sp3, cn1, cn2, cn3, cn4, cn5, cn6, jJa, lk0, lk1, jmS, jmN, s4_0, s4_1, s4_2, s4_3, s4_4, sw0, sw1, cKs, cKn, true_and, and_true, List.map_cons, List.map_nil, Nat.reduceAdd, Nat.zero_add, Int.reduceAdd, Nat.reduceEqDiff, reduceIte, Classical.not_not, b_Ro_look, ce]
            (repeat' (first | omega | (with_reducible exact True.intro) | exact ⟨by omega, by omega⟩ | (with_reducible exact Or.inr trivial) | (with_reducible exact Or.inl trivial) | (with_reducible assumption) | (with_reducible exact Same.refl) | (with_reducible rfl) | (with_reducible refine And.intro ?_ ?_) | (with_reducible intro _)))
        have := l33 F.l.length 0 N (by omega) hT (fun x hx => absurd hx (List.not_mem_nil)) h4 hc hSN hN
        refine AW.run ck_Ro_look [33, 104] 10 21 ?_
        simp only [wR, wB, wE0, wE1, wE2, wE3, g0, gS, s10, s11, s1S, s20, s21, s2S, kl0, kl1, kl2, kl3, sp0, sp1, sp2, sp3, cn1, cn2, cn3, cn4, cn5, cn6, jJa, lk0, lk1, jmS, jmN, s4_0, s4_1, s4_2, s4_3, s4_4, sw0, sw1, cKs, cKn, true_and, and_true, List.map_cons, List.map_nil, Nat.reduceAdd, Nat.zero_add, Int.reduceAdd, Nat.reduceEqDiff, reduceIte, Classical.not_not, b_Ro_look, shRo, h4]
        (repeat' (first | omega | (with_reducible exact True.intro) | exact ⟨by omega, by omega⟩ | (with_reducible exact Or.inr trivial) | (with_reducible exact Or.inl trivial) | (with_reducible assumption) | (with_reducible exact Same.refl) | (with_reducible rfl) | (with_reducible refine And.intro ?_ ?_) | (with_reducible intro _)))
  refine AW.run ck_Ro_look [21] 10 0 ?_
  simp only [wR, wB, wE0, wE1, wE2, wE3, g0, gS, s10, s11, s1S, s20, s21, s2S, kl0, kl1, kl2, kl3, sp0, sp1, sp2, sp3, cn1, cn2, cn3, cn4, cn5, cn6, jJa, lk0, lk1, jmS, jmN, s4_0, s4_1, s4_2, s4_3, s4_4, sw0, sw1, cKs, cKn, true_and, and_true, List.map_cons, List.map_nil, Nat.reduceAdd, Nat.zero_add, Int.reduceAdd, Nat.reduceEqDiff, reduceIte, Classical.not_not, b_Ro_look, shRo]
  refine ⟨by omega, (c_Ro_begin (d := d - 1) (by omega) hI (show s0 < 3125 by omega)).mono ?_⟩
  rintro r' N okN ⟨rfl, ⟨a, b, u1⟩, u2⟩
  have hn' : N z 0 = n := by rw [u2.at z _ (by simp <;> omega)]; exact hn
  simp only [wR, wB, wE0, wE1, wE2, wE3, g0, gS, s10, s11, s1S, s20, s21, s2S, kl0, kl1, kl2, kl3, sp0, sp1, sp2, sp3, cn1, cn2, cn3, cn4, cn5, cn6, jJa, lk0, lk1, jmS, jmN, s4_0, s4_1, s4_2, s4_3, s4_4, sw0, sw1, cKs, cKn, true_and, and_true, List.map_cons, List.map_nil, Nat.reduceAdd, Nat.zero_add, Int.reduceAdd, Nat.reduceEqDiff, reduceIte, Classical.not_not, b_Ro_look, shRo, hz, hn']
  rw [show (if (8 : Int) < n then (8 : Int) else n) = (n : Int) by rw [if_neg (by omega)]]
  (repeat' (first | omega | (with_reducible exact True.intro) | exact ⟨by omega, by omega⟩ | (with_reducible exact Or.inr trivial) | (with_reducible exact Or.inl trivial) | (with_reducible assumption) | (with_reducible exact Same.refl) | (with_reducible rfl) | (with_reducible refine And.intro ?_ ?_) | (with_reducible intro _)))
  refine l21 n 0 a b _ _ (by omega) ⟨by rw [up_ne2 (by omega)]; exact u1.1, by rw [up_ne2 (by omega)]; exact u1.2.1, u1.2.2.1, ?_, ?_⟩ (by rw [up_eq]) (fun j hj => absurd hj (by omega)) ((hS.same u2 (fun x h1 h2 => by (first | decide | (simp only [List.mem_cons, List.not_mem_nil, or_false, not_or, not_false_eq_true, and_true]; omega) | (simp [List.mem_cons]; done)))).same (ps := [56]) (Same.refl.up (by simp)) (fun x h1 h2 => by (first | decide | (simp only [List.mem_cons, List.not_mem_nil, or_false, not_or, not_false_eq_true, and_true]; omega) | (simp [List.mem_cons]; done)))) ((u2.mono (by simp)).up (by simp))
  · have := u1.2.2.1
    unfold fz at this
    exact u1.2.2.2.1.eq (by funext y; exact up_ne1 (by omega)) (by funext y; exact up_ne1 (by omega)) (by funext y; exact up_ne1 (by omega)) (by funext y; exact up_ne1 (by omega))
  · have := u1.2.2.1
    unfold fz at this
    exact u1.2.2.2.2.eq (by funext y; exact up_ne1 (by omega)) (by funext y; exact up_ne1 (by omega)) (by funext y; exact up_ne1 (by omega)) (by funext y; exact up_ne1 (by omega))
end LK2
