/-- a watch done -/
def WaD (M : AM) (ok : Nat → Nat → Bool) (nx : Nat → Nat → Nat) (B s0 : Nat) : Prop := M 43 6 = s0 ∧ ∃ S : Nat → Prop, S s0 ∧ ∀ s, S s → s < B ∧ M 46 s = pkI ok nx s ∧ ∀ x : Nat, pkI ok nx s = x → S (nx s x)
theorem WaD.eq {M N : AM} {ok : Nat → Nat → Bool} {nx : Nat → Nat → Nat} {B s0 : Nat} (H : WaD M ok nx B s0) (h43 : N 43 = M 43) (h46 : N 46 = M 46) : WaD N ok nx B s0 := by
  unfold WaD
  rw [h43, h46]
  exact H
theorem pkI_ok {ok : Nat → Nat → Bool} {nx : Nat → Nat → Nat} {s x : Nat} (h : pkI ok nx s = x) : x < 32 ∧ ok s x = true := by
  rcases pkI_S (ok := ok) (nx := nx) s with ⟨y, y0, y1, y2, _⟩ | ⟨k, a, b⟩
  · have : y = x := by omega
    subst this; exact ⟨y1, y2⟩
  · rcases b with ⟨_, b⟩ | ⟨y, y0, y1, y2, _⟩
    · omega
    · have : y = x := by omega
      subst this; exact ⟨y1, y2⟩
theorem pkI_n {ok : Nat → Nat → Bool} {nx : Nat → Nat → Nat} (s : Nat) : pkI ok nx s = -1 ∨ ∃ x : Nat, pkI ok nx s = x := by
  rcases pkI_S (ok := ok) (nx := nx) s with ⟨y, y0, y1, y2, _⟩ | ⟨k, a, b⟩
  · exact Or.inr ⟨y, y0⟩
  · rcases b with ⟨_, b⟩ | ⟨y, y0, y1, y2, _⟩
    · exact Or.inl b
    · exact Or.inr ⟨y, y0⟩
section WL
variable {G : AG} {d : Nat} {M : AM}
set_option maxRecDepth 20000 in
theorem c_Wa_longest {h : Hl} {sd : Nat → Nat} {cold side pe must s0 : Nat} (hd : 8 ≤ d) (hok : HlOK h) (hS : StOK M h sd cold (sideS sd h.P side)) (hpe : sub pe (sideS sd h.P side)) (h32 : pe < 32) (hs0 : s0 < 5 ^ h.P) :
    MS G d mi_Wa_longest [vr 43, vr 33, vi s0, vi must, vi pe] M (fun r M' => r = some (vi (hldI (okH h sd cold side pe must) (nxW h sd cold (sideS sd h.P side)) s0)) ∧ WaD M' (okH h sd cold side pe must) (nxW h sd cold (sideS sd h.P side)) (5 ^ h.P) s0 ∧ StOK M' h sd cold (sideS sd h.P side) ∧ Same [33, 43, 44, 45, 46, 47, 48] M M') := by
  have hP := hok.1
  have h5 := p5 hP
  have hs3 : s0 < 3125 := by omega
  refine MS.by ck_Wa_longest [some (vr 43), some (vr 33), some (vi s0), some (vi must), some (vi pe), none] fun _ _ => ?_
  generalize hQ : (fun (r : Option AV) (M' : AM) => r = some (vi (hldI (okH h sd cold side pe must) (nxW h sd cold (sideS sd h.P side)) s0)) ∧ WaD M' (okH h sd cold side pe must) (nxW h sd cold (sideS sd h.P side)) (5 ^ h.P) s0 ∧ StOK M' h sd cold (sideS sd h.P side) ∧ Same [33, 43, 44, 45, 46, 47, 48] M M') = Q
  have loop : ∀ (μ i : Nat) (N : AM) (mk : Nat → Nat) (hr pk : Nat → Int) (pa : Nat → Nat) (tu : Nat → Int) (dp : Nat), mu mk tu dp = μ → i + μ ≤ 150000 → DFM N mk hr pk pa tu dp → DInv (okH h sd cold side pe must) (okP h.P pe) (nxW h sd cold (sideS sd h.P side)) (5 ^ h.P) s0 mk hr pk pa tu dp → StOK N h sd cold (sideS sd h.P side) → Same [33, 43, 44, 45, 46, 47, 48] M N → N 43 6 = s0 → AW G d mi_Wa_longest Q 26 [some (vr 43), some (vr 33), some (vi s0), some (vi must), some (vi pe), some (vi i)] [] N := by
    as_aux_lemma =>
      intro μ
      induction μ using Nat.strongRecOn with
      | ind μ ih =>
        intro i N mk hr pk pa tu dp hμ hi hD hI hSN hN h6
        have d5 := hD.1
        cases dp with
        | zero =>
          have hcl : ∀ s, s < 5 ^ h.P → mk s ≠ 0 → mk s = 2 := by
            intro s hs hm
            have := hI.1 s
            rcases (show mk s = 1 ∨ mk s = 2 by omega) with q | q
            · obtain ⟨j, hj, _⟩ := hI.2.2.2.2.1 s hs q
              omega
            · exact q
          have hpk : ∀ s, s < 5 ^ h.P → mk s = 2 → pkI (okH h sd cold side pe must) (nxW h sd cold (sideS sd h.P side)) s = pk s := by
            intro s hs hm
            refine pkI_of ?_
            rcases hI.2.2.2.2.2.2.2.1 s hs hm with ⟨_, b⟩ | ⟨x, _, b⟩
            · exact Or.inl b
            · exact Or.inr ⟨x, b⟩
          have h02 := hcl s0 hs0 hI.2.1.2
          have hans : hldI (okH h sd cold side pe must) (nxW h sd cold (sideS sd h.P side)) s0 = hr s0 := by
            rcases hI.2.2.2.2.2.2.2.1 s0 hs0 h02 with ⟨b, c⟩ | ⟨x, b, c⟩
            · rw [hldI_e c.ev, b]
            · rw [hldI_v c.vl, b]
          have e45 := (hD.2.2.1 s0 hs3 (by omega)).1
          have key : Q (some (vi (hr s0))) N := by
            subst hQ
            refine ⟨by rw [hans], ⟨h6, fun s => s < 5 ^ h.P ∧ mk s = 2, ⟨hs0, h02⟩, fun s hs => ⟨hs.1, ?_, fun x hx => ⟨nxW_lt, ?_⟩⟩⟩, hSN, hN⟩
            · rw [hpk s hs.1 hs.2]
              exact (hD.2.2.1 s (by omega) (by omega)).2
            · rw [hpk s hs.1 hs.2] at hx
              exact hcl _ nxW_lt (hI.2.2.2.2.2.2.2.2 s hs.1 (by omega) x hx)
          refine AW.run ck_Wa_longest [] 10 26 ?_
          simp only [wR, wB, wE0, wE1, wE2, wE3, g0, gS, s10, s11, s1S, s20, s21, s2S, kl0, kl1, kl2, kl3, sp0, sp1, sp2, sp3, cn1, cn2, cn3, cn4, cn5, cn6, jJa, lk0, lk1, jmS, jmN, s4_0, s4_1, s4_2, s4_3, s4_4, sw0, sw1, cKs, cKn, true_and, and_true, List.map_cons, List.map_nil, Nat.reduceAdd, Nat.zero_add, Int.reduceAdd, Nat.reduceEqDiff, reduceIte, Classical.not_not, b_Wa_longest, shWa, d5, nc0]
          (repeat' (first | omega | (with_reducible exact True.intro) | exact ⟨by omega, by omega⟩ | (with_reducible exact Or.inr trivial) | (with_reducible exact Or.inl trivial) | (with_reducible assumption) | (with_reducible exact Same.refl) | (with_reducible rfl) | (with_reducible refine And.intro ?_ ?_) | (with_reducible intro _)))
          refine MS.to c_Wa_inStates fun _ => ?_
          rw [if_pos ⟨by omega, by omega⟩]
          simp only [wR, wB, wE0, wE1, wE2, wE3, g0, gS, s10, s11, s1S, s20, s21, s2S, kl0, kl1, kl2, kl3, sp0, sp1, sp2, sp3, cn1, cn2, cn3, cn4, cn5, cn6, jJa, lk0, lk1, jmS, jmN, s4_0, s4_1, s4_2, s4_3, s4_4, sw0, sw1, cKs, cKn, true_and, and_true, List.map_cons, List.map_nil, Nat.reduceAdd, Nat.zero_add, Int.reduceAdd, Nat.reduceEqDiff, reduceIte, Classical.not_not, b_Wa_longest, shWa, e45, up_rd, Int.reduceEq, and_false, false_and, and_self, reduceIte, not_true_eq_false, not_false_eq_true, false_imp_iff, true_imp_iff, true_or, or_true]
          (repeat' (first | omega | (with_reducible exact True.intro) | exact ⟨by omega, by omega⟩ | (with_reducible exact Or.inr trivial) | (with_reducible exact Or.inl trivial) | (with_reducible assumption) | (with_reducible exact Same.refl) | (with_reducible rfl) | (with_reducible refine And.intro ?_ ?_) | (with_reducible intro _)))
        | succ k =>
          have hpos : 0 < mu mk tu (k + 1) := mu_pos (by omega) (fun j hj => by
            rcases hI.2.2.2.2.2.2.1 j hj with ⟨b, _⟩ | ⟨x, n, _, _, ⟨b, _⟩ | ⟨b, c, _⟩⟩ <;> omega)
          refine AW.run ck_Wa_longest [26, 57] 10 26 ?_
          simp only [wR, wB, wE0, wE1, wE2, wE3, g0, gS, s10, s11, s1S, s20, s21, s2S, kl0, kl1, kl2, kl3, sp0, sp1, sp2, sp3, cn1, cn2, cn3, cn4, cn5, cn6, jJa, lk0, lk1, jmS, jmN, s4_0, s4_1, s4_2, s4_3, s4_4, sw0, sw1, cKs, cKn, true_and, and_true, List.map_cons, List.map_nil, Nat.reduceAdd, Nat.zero_add, Int.reduceAdd, Nat.reduceEqDiff, reduceIte, Classical.not_not, b_Wa_longest, shWa, d5]
          (repeat' (first | omega | (with_reducible exact True.intro) | exact ⟨by omega, by omega⟩ | (with_reducible exact Or.inr trivial) | (with_reducible exact Or.inl trivial) | (with_reducible assumption) | (with_reducible exact Same.refl) | (with_reducible rfl) | (with_reducible refine And.intro ?_ ?_) | (with_reducible intro _)))
          refine (c_Wa_goOn (d := d - 1) (by omega) hok hSN hpe h32 hD hI).mono ?_
          rintro r' N2 okN2 ⟨rfl, ⟨mk', hr', pk', pa', tu', dp', g1, g2, g3⟩, g4, g5, g6⟩
          have := ih _ (by omega) (i + 1) N2 mk' hr' pk' pa' tu' dp' rfl (by omega) g1 g2 g4 (hN.trans g5) (by rw [g6]; exact h6)
          simp only [wR, wB, wE0, wE1, wE2, wE3, g0, gS, s10, s11, s1S, s20, s21, s2S, kl0, kl1, kl2, kl3, sp0, sp1, sp2, sp3, cn1, cn2, cn3, cn4, cn5, cn6, jJa, lk0, lk1, jmS, jmN, s4_0, s4_1, s4_2, s4_3, s4_4, sw0, sw1, cKs, cKn, true_and, and_true, List.map_cons, List.map_nil, Nat.reduceAdd, Nat.zero_add, Int.reduceAdd, Nat.reduceEqDiff, reduceIte, Classical.not_not, b_Wa_longest, shWa, ce]
          (repeat' (first | omega | (with_reducible exact True.intro) | exact ⟨by omega, by omega⟩ | (with_reducible exact Or.inr trivial) | (with_reducible exact Or.inl trivial) | (with_reducible assumption) | (with_reducible exact Same.refl) | (with_reducible rfl) | (with_reducible refine And.intro ?_ ?_) | (with_reducible intro _)))
  refine AW.run ck_Wa_longest [26] 10 0 ?_
  simp only [wR, wB, wE0, wE1, wE2, wE3, g0, gS, s10, s11, s1S, s20, s21, s2S, kl0, kl1, kl2, kl3, sp0, sp1, sp2, sp3, cn1, cn2, cn3, cn4, cn5, cn6, jJa, lk0, lk1, jmS, jmN, s4_0, s4_1, s4_2, s4_3, s4_4, sw0, sw1, cKs, cKn, true_and, and_true, List.map_cons, List.map_nil, Nat.reduceAdd, Nat.zero_add, Int.reduceAdd, Nat.reduceEqDiff, reduceIte, Classical.not_not, b_Wa_longest, shWa]
  refine ⟨by omega, MS.to (c_JA_fill2 shWa.2.1.1) fun _ => ?_⟩
  rw [shWa.2.1.2]
  simp only [wR, wB, wE0, wE1, wE2, wE3, g0, gS, s10, s11, s1S, s20, s21, s2S, kl0, kl1, kl2, kl3, sp0, sp1, sp2, sp3, cn1, cn2, cn3, cn4, cn5, cn6, jJa, lk0, lk1, jmS, jmN, s4_0, s4_1, s4_2, s4_3, s4_4, sw0, sw1, cKs, cKn, true_and, and_true, List.map_cons, List.map_nil, Nat.reduceAdd, Nat.zero_add, Int.reduceAdd, Nat.reduceEqDiff, reduceIte, Classical.not_not, b_Wa_longest, shWa]
  (repeat' (first | omega | (with_reducible exact True.intro) | exact ⟨by omega, by omega⟩ | (with_reducible exact Or.inr trivial) | (with_reducible exact Or.inl trivial) | (with_reducible assumption) | (with_reducible exact Same.refl) | (with_reducible rfl) | (with_reducible refine And.intro ?_ ?_) | (with_reducible intro _)))
  refine MS.to (c_Wa_open (d := d - 1) (dp := 0) (by omega) hs3 (by rw [up_eq]; rfl) (by omega)) fun _ => ?_
  simp only [wR, wB, wE0, wE1, wE2, wE3, g0, gS, s10, s11, s1S, s20, s21, s2S, kl0, kl1, kl2, kl3, sp0, sp1, sp2, sp3, cn1, cn2, cn3, cn4, cn5, cn6, jJa, lk0, lk1, jmS, jmN, s4_0, s4_1, s4_2, s4_3, s4_4, sw0, sw1, cKs, cKn, true_and, and_true, List.map_cons, List.map_nil, Nat.reduceAdd, Nat.zero_add, Int.reduceAdd, Nat.reduceEqDiff, reduceIte, Classical.not_not, b_Wa_longest, shWa]
  have hfil : Same [44] M (fil M 44 0 3125 0) := fun x hx => by
    funext y
    unfold fil
    rw [if_neg (fun e => hx (by simp [e.1]))]
  have hsame : Same [33, 43, 44, 45, 46, 47, 48] M (opM (up (up (fil M 44 0 3125 0) 43 6 s0) 43 5 0) s0 0) := by
    have h0 : Same [33, 43, 44, 45, 46, 47, 48] M (fil M 44 0 3125 0) := hfil.mono (by simp)
    unfold opM
    exact (((((((h0.up (by simp)).up (by simp)).up (by simp)).up (by simp)).up (by simp)).up (by simp)).up (by simp)).up (by simp)
  refine loop _ 0 _ _ _ _ _ _ 1 rfl (by have := mu_le (mk := ud (fun _ => 0) s0 1); omega) ⟨?_, fun s hs => ?_, fun s hs hm => ?_, fun j hj => ?_⟩ (DInv.start hs0 (by unfold okP; simp)) (hS.same (ps := [43, 44, 45, 46, 47, 48]) (fun x hx => ?_) (fun x h1 h2 => by (first | decide | (simp only [List.mem_cons, List.not_mem_nil, or_false, not_or, not_false_eq_true, and_true]; omega) | (simp [List.mem_cons]; done)))) hsame ?_
  · unfold opM; rw [up_eq]; rfl
  · unfold opM
    rw [up_ne1 (by omega), up_ne1 (by omega), up_ne1 (by omega), up_ne1 (by omega), up_ne1 (by omega)]
    by_cases e : s = s0
    · subst e; rw [up_eq, ud_eq]; rfl
    · rw [up_ne2 (by omega), up_ne1 (by omega), up_ne1 (by omega), ud_ne e]
      unfold fil
      rw [if_pos (by omega)]; rfl
  · have e : s = s0 := by
      by_cases e : s = s0
      · exact e
      · rw [ud_ne e] at hm; exact absurd rfl hm
    subst e
    unfold opM
    rw [up_ne1 (by omega), up_ne1 (by omega), up_ne1 (by omega), up_ne1 (by omega), up_eq, up_ne1 (by omega), up_ne1 (by omega), up_ne1 (by omega), up_eq]
    exact ⟨rfl, rfl⟩
  · obtain rfl : j = 0 := by omega
    unfold opM
    rw [up_ne1 (by omega), up_ne1 (by omega), up_eq, up_ne1 (by omega), up_eq]
    exact ⟨rfl, rfl⟩
  · unfold opM
    by_cases e33 : x = 33
    · subst e33
      funext y
      rw [up_ne1 (by omega), up_ne1 (by omega), up_ne1 (by omega), up_ne1 (by omega), up_ne1 (by omega), up_ne1 (by omega), up_ne1 (by omega), up_ne1 (by omega)]
      unfold fil
      rw [if_neg (by omega)]
    · exact hsame x (by simp only [List.mem_cons, List.not_mem_nil, or_false, not_or] at hx ⊢; omega)
  · unfold opM
    rw [up_ne2 (by omega), up_ne1 (by omega), up_ne1 (by omega), up_ne1 (by omega), up_ne1 (by omega), up_ne1 (by omega), up_ne2 (by omega), up_eq]
theorem c_Wa_pickAt {s : Nat} (hd : 1 ≤ d) (hs : s < 3125) : MS G d mi_Wa_pickAt [vr 43, vi s] M (fun r M' => r = some (vi (M 46 s)) ∧ M' = M) := by
  refine MS.by ck_Wa_pickAt [some (vr 43), some (vi s)] fun _ _ => ?_
  refine AW.run ck_Wa_pickAt [] 10 0 ?_
  simp only [wR, wB, wE0, wE1, wE2, wE3, g0, gS, s10, s11, s1S, s20, s21, s2S, kl0, kl1, kl2, kl3, sp0, sp1, sp2, sp3, cn1, cn2, cn3, cn4, cn5, cn6, jJa, lk0, lk1, jmS, jmN, s4_0, s4_1, s4_2, s4_3, s4_4, sw0, sw1, cKs, cKn, true_and, and_true, List.map_cons, List.map_nil, Nat.reduceAdd, Nat.zero_add, Int.reduceAdd, Nat.reduceEqDiff, reduceIte, Classical.not_not, b_Wa_pickAt, shWa]
  refine ⟨by omega, MS.to c_Wa_inStates fun _ => ?_⟩
  rw [if_pos ⟨by omega, by omega⟩]
  simp only [wR, wB, wE0, wE1, wE2, wE3, g0, gS, s10, s11, s1S, s20, s21, s2S, kl0, kl1, kl2, kl3, sp0, sp1, sp2, sp3, cn1, cn2, cn3, cn4, cn5, cn6, jJa, lk0, lk1, jmS, jmN, s4_0, s4_1, s4_2, s4_3, s4_4, sw0, sw1, cKs, cKn, true_and, and_true, List.map_cons, List.map_nil, Nat.reduceAdd, Nat.zero_add, Int.reduceAdd, Nat.reduceEqDiff, reduceIte, Classical.not_not, b_Wa_pickAt, shWa, up_rd, Int.reduceEq, and_false, false_and, and_self, reduceIte, not_true_eq_false, not_false_eq_true, false_imp_iff, true_imp_iff, true_or, or_true]
  (repeat' (first | omega | (with_reducible exact True.intro) | exact ⟨by omega, by omega⟩ | (with_reducible exact Or.inr trivial) | (with_reducible exact Or.inl trivial) | (with_reducible assumption) | (with_reducible exact Same.refl) | (with_reducible rfl) | (with_reducible refine And.intro ?_ ?_) | (with_reducible intro _)))
theorem c_Wa_setAt {h : Hl} {sd : Nat → Nat} {cold side pe must s0 i : Nat} (hd : 8 ≤ d) (hi : i ≤ 1000) (hok : HlOK h) (hS : StOK M h sd cold (sideS sd h.P side)) (hpe : sub pe (sideS sd h.P side)) (h32 : pe < 32) (hW : WaD M (okH h sd cold side pe must) (nxW h sd cold (sideS sd h.P side)) (5 ^ h.P) s0) :
    MS G d mi_Wa_setAt [vr 43, vr 33, vi i] M (fun r M' => r = some (vi (rosI (okH h sd cold side pe must) (nxW h sd cold (sideS sd h.P side)) i s0)) ∧ StOK M' h sd cold (sideS sd h.P side) ∧ Same [33] M M') := by
  have hP := hok.1
  have h5 := p5 hP
  obtain ⟨h6, S, hS0, hSS⟩ := hW
  have h03 := (hSS s0 hS0).1
  refine MS.by ck_Wa_setAt [some (vr 43), some (vr 33), some (vi i), none, none, none] fun _ _ => ?_
  generalize hR : rosI (okH h sd cold side pe must) (nxW h sd cold (sideS sd h.P side)) i s0 = R
  generalize hQ : (fun (r : Option AV) (M' : AM) => r = some (vi R) ∧ StOK M' h sd cold (sideS sd h.P side) ∧ Same [33] M M') = Q
  have loop : ∀ (r k s : Nat) (N : AM), k + r = i → S s → rosI (okH h sd cold side pe must) (nxW h sd cold (sideS sd h.P side)) r s = R → StOK N h sd cold (sideS sd h.P side) → Same [33] M N → AW G d mi_Wa_setAt Q 15 [some (vr 43), some (vr 33), some (vi i), some (vi s), some (vi (pkI (okH h sd cold side pe must) (nxW h sd cold (sideS sd h.P side)) s)), some (vi k)] [] N := by
    intro r
    induction r with
    | zero =>
      intro k s N hk hs hro hSN hN
      have hro' : pkI (okH h sd cold side pe must) (nxW h sd cold (sideS sd h.P side)) s = R := hro
      rw [hro']
      refine AW.run ck_Wa_setAt [] 10 15 ?_
      simp only [wR, wB, wE0, wE1, wE2, wE3, g0, gS, s10, s11, s1S, s20, s21, s2S, kl0, kl1, kl2, kl3, sp0, sp1, sp2, sp3, cn1, cn2, cn3, cn4, cn5, cn6, jJa, lk0, lk1, jmS, jmN, s4_0, s4_1, s4_2, s4_3, s4_4, sw0, sw1, cKs, cKn, true_and, and_true, List.map_cons, List.map_nil, Nat.reduceAdd, Nat.zero_add, Int.reduceAdd, Nat.reduceEqDiff, reduceIte, Classical.not_not, b_Wa_setAt]
      subst hQ
      (repeat' (first | omega | (with_reducible exact True.intro) | exact ⟨by omega, by omega⟩ | (with_reducible exact Or.inr trivial) | (with_reducible exact Or.inl trivial) | (with_reducible assumption) | (with_reducible exact Same.refl) | (with_reducible rfl) | (with_reducible refine And.intro ?_ ?_) | (with_reducible intro _)))
    | succ r ih =>
      intro k s N hk hs hro hSN hN
      obtain ⟨s1, s2, s3⟩ := hSS s hs
      rcases pkI_n (ok := okH h sd cold side pe must) (nx := nxW h sd cold (sideS sd h.P side)) s with e | ⟨x, e⟩
      · rw [rosI_0 e] at hro
        rw [e]
        refine AW.run ck_Wa_setAt [] 10 15 ?_
        simp only [wR, wB, wE0, wE1, wE2, wE3, g0, gS, s10, s11, s1S, s20, s21, s2S, kl0, kl1, kl2, kl3, sp0, sp1, sp2, sp3, cn1, cn2, cn3, cn4, cn5, cn6, jJa, lk0, lk1, jmS, jmN, s4_0, s4_1, s4_2, s4_3, s4_4, sw0, sw1, cKs, cKn, true_and, and_true, List.map_cons, List.map_nil, Nat.reduceAdd, Nat.zero_add, Int.reduceAdd, Nat.reduceEqDiff, reduceIte, Classical.not_not, b_Wa_setAt, up_rd, Int.reduceEq, and_false, false_and, and_self, reduceIte, not_true_eq_false, not_false_eq_true, false_imp_iff, true_imp_iff, true_or, or_true]
        subst hQ
        rw [← hro]
        (repeat' (first | omega | (with_reducible exact True.intro) | exact ⟨by omega, by omega⟩ | (with_reducible exact Or.inr trivial) | (with_reducible exact Or.inl trivial) | (with_reducible assumption) | (with_reducible exact Same.refl) | (with_reducible rfl) | (with_reducible refine And.intro ?_ ?_) | (with_reducible intro _)))
      · rw [rosI_s e] at hro
        rw [e]
        obtain ⟨x1, x2⟩ := pkI_ok e
        have xP := (okH_P x2).1
        refine AW.run ck_Wa_setAt [15] 10 15 ?_
        simp only [wR, wB, wE0, wE1, wE2, wE3, g0, gS, s10, s11, s1S, s20, s21, s2S, kl0, kl1, kl2, kl3, sp0, sp1, sp2, sp3, cn1, cn2, cn3, cn4, cn5, cn6, jJa, lk0, lk1, jmS, jmN, s4_0, s4_1, s4_2, s4_3, s4_4, sw0, sw1, cKs, cKn, true_and, and_true, List.map_cons, List.map_nil, Nat.reduceAdd, Nat.zero_add, Int.reduceAdd, Nat.reduceEqDiff, reduceIte, Classical.not_not, b_Wa_setAt, shWa, shSt]
        (repeat' (first | omega | (with_reducible exact True.intro) | exact ⟨by omega, by omega⟩ | (with_reducible exact Or.inr trivial) | (with_reducible exact Or.inl trivial) | (with_reducible assumption) | (with_reducible exact Same.refl) | (with_reducible rfl) | (with_reducible refine And.intro ?_ ?_) | (with_reducible intro _)))
        refine (c_St_standAt hok hSN s1).mono ?_
        rintro r' N2 okN2 ⟨rfl, hS2, hN2⟩
        simp only [wR, wB, wE0, wE1, wE2, wE3, g0, gS, s10, s11, s1S, s20, s21, s2S, kl0, kl1, kl2, kl3, sp0, sp1, sp2, sp3, cn1, cn2, cn3, cn4, cn5, cn6, jJa, lk0, lk1, jmS, jmN, s4_0, s4_1, s4_2, s4_3, s4_4, sw0, sw1, cKs, cKn, true_and, and_true, List.map_cons, List.map_nil, Nat.reduceAdd, Nat.zero_add, Int.reduceAdd, Nat.reduceEqDiff, reduceIte, Classical.not_not, b_Wa_setAt, shWa, shSt]
        refine ⟨by omega, MS.to (c_St_to hok hS2 (okP_lt2 x1 h32 xP) (okP_sub hP hpe h32 x1 xP)) fun _ => ?_⟩
        have hn := s3 x e
        have hnB := (hSS _ hn).1
        simp only [wR, wB, wE0, wE1, wE2, wE3, g0, gS, s10, s11, s1S, s20, s21, s2S, kl0, kl1, kl2, kl3, sp0, sp1, sp2, sp3, cn1, cn2, cn3, cn4, cn5, cn6, jJa, lk0, lk1, jmS, jmN, s4_0, s4_1, s4_2, s4_3, s4_4, sw0, sw1, cKs, cKn, true_and, and_true, List.map_cons, List.map_nil, Nat.reduceAdd, Nat.zero_add, Int.reduceAdd, Nat.reduceEqDiff, reduceIte, Classical.not_not, b_Wa_setAt, shWa, shSt]
        refine ⟨by omega, MS.to (c_Wa_pickAt (d := d - 1) (by omega) (by omega)) fun _ => ?_⟩
        have e46 : N2 46 (nxW h sd cold (sideS sd h.P side) s x : Nat) = pkI (okH h sd cold side pe must) (nxW h sd cold (sideS sd h.P side)) (nxW h sd cold (sideS sd h.P side) s x) := by
          rw [(hN.trans hN2).at 46 _ (by (first | decide | (simp only [List.mem_cons, List.not_mem_nil, or_false, not_or, not_false_eq_true, and_true]; omega) | (simp [List.mem_cons]; done)))]
          exact (hSS _ hn).2.1
        have := ih (k + 1) _ N2 (by omega) hn hro hS2.1 (hN.trans hN2)
        rw [e46]
        simp only [wR, wB, wE0, wE1, wE2, wE3, g0, gS, s10, s11, s1S, s20, s21, s2S, kl0, kl1, kl2, kl3, sp0, sp1, sp2, sp3, cn1, cn2, cn3, cn4, cn5, cn6, jJa, lk0, lk1, jmS, jmN, s4_0, s4_1, s4_2, s4_3, s4_4, sw0, sw1, cKs, cKn, true_and, and_true, List.map_cons, List.map_nil, Nat.reduceAdd, Nat.zero_add, Int.reduceAdd, Nat.reduceEqDiff, reduceIte, Classical.not_not, b_Wa_setAt, ce]
        (repeat' (first | omega | (with_reducible exact True.intro) | exact ⟨by omega, by omega⟩ | (with_reducible exact Or.inr trivial) | (with_reducible exact Or.inl trivial) | (with_reducible assumption) | (with_reducible exact Same.refl) | (with_reducible rfl) | (with_reducible refine And.intro ?_ ?_) | (with_reducible intro _)))
  have := loop i 0 s0 M (by omega) hS0 hR hS Same.refl
  have e46 := (hSS s0 hS0).2.1
  refine AW.run ck_Wa_setAt [15] 10 0 ?_
  simp only [wR, wB, wE0, wE1, wE2, wE3, g0, gS, s10, s11, s1S, s20, s21, s2S, kl0, kl1, kl2, kl3, sp0, sp1, sp2, sp3, cn1, cn2, cn3, cn4, cn5, cn6, jJa, lk0, lk1, jmS, jmN, s4_0, s4_1, s4_2, s4_3, s4_4, sw0, sw1, cKs, cKn, true_and, and_true, List.map_cons, List.map_nil, Nat.reduceAdd, Nat.zero_add, Int.reduceAdd, Nat.reduceEqDiff, reduceIte, Classical.not_not, b_Wa_setAt, shWa, h6]
  refine ⟨by omega, MS.to (c_Wa_pickAt (d := d - 1) (by omega) (by omega)) fun _ => ?_⟩
  rw [e46]
  simp only [wR, wB, wE0, wE1, wE2, wE3, g0, gS, s10, s11, s1S, s20, s21, s2S, kl0, kl1, kl2, kl3, sp0, sp1, sp2, sp3, cn1, cn2, cn3, cn4, cn5, cn6, jJa, lk0, lk1, jmS, jmN, s4_0, s4_1, s4_2, s4_3, s4_4, sw0, sw1, cKs, cKn, true_and, and_true, List.map_cons, List.map_nil, Nat.reduceAdd, Nat.zero_add, Int.reduceAdd, Nat.reduceEqDiff, reduceIte, Classical.not_not, b_Wa_setAt]
  (repeat' (first | omega | (with_reducible exact True.intro) | exact ⟨by omega, by omega⟩ | (with_reducible exact Or.inr trivial) | (with_reducible exact Or.inl trivial) | (with_reducible assumption) | (with_reducible exact Same.refl) | (with_reducible rfl) | (with_reducible refine And.intro ?_ ?_) | (with_reducible intro _)))
end WL
