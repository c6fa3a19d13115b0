def cntL (h : Hl) (sd : Nat → Nat) (cold r : Nat) (l : List Nat) : Nat := sumL (fun s => if VV 32 h sd cold r s = 0 then 0 else 1) l
theorem sumL_le2 {f g : Nat → Nat} : ∀ {l : List Nat}, (∀ s, s ∈ l → f s ≤ g s) → sumL f l ≤ sumL g l
  | [], _ => Nat.le_refl _
  | x :: l, h => by
    have e1 : sumL f (x :: l) = f x + sumL f l := by simp [sumL]
    have e2 : sumL g (x :: l) = g x + sumL g l := by simp [sumL]
    have := h x List.mem_cons_self
    have := sumL_le2 (l := l) (fun s hs => h s (List.mem_cons_of_mem _ hs))
    omega
theorem sumL_lt2 {f g : Nat → Nat} : ∀ {l : List Nat}, (∀ s, s ∈ l → f s ≤ g s) → (∃ s, s ∈ l ∧ f s < g s) → sumL f l < sumL g l
  | [], _, ⟨s, hs, _⟩ => absurd hs (List.not_mem_nil)
  | x :: l, h, ⟨s, hs, hlt⟩ => by
    have e1 : sumL f (x :: l) = f x + sumL f l := by simp [sumL]
    have e2 : sumL g (x :: l) = g x + sumL g l := by simp [sumL]
    have h1 := h x List.mem_cons_self
    have h2 := sumL_le2 (l := l) (fun s hs => h s (List.mem_cons_of_mem _ hs))
    rcases List.mem_cons.mp hs with e | e
    · subst e; omega
    · have := sumL_lt2 (l := l) (fun s hs => h s (List.mem_cons_of_mem _ hs)) ⟨s, e, hlt⟩
      omega
theorem cnt_up {h : Hl} {sd : Nat → Nat} {cold r : Nat} {l : List Nat} (hr : r ≤ 4000) (hx : ∃ s, s ∈ l ∧ VV 32 h sd cold (r + 1) s ≠ VV 32 h sd cold r s) : cntL h sd cold r l + 1 ≤ cntL h sd cold (r + 1) l := by
  have hp := fun s => VV_P (N := 32) (h := h) (sd := sd) (cold := cold) (by omega) r s (by omega)
  unfold cntL
  refine sumL_lt2 (fun s _ => ?_) ?_
  · rcases hp s with e | ⟨e, _⟩
    · rw [e]; exact Nat.le_refl _
    · rw [e]; exact Nat.zero_le _
  · obtain ⟨s, hs, hne⟩ := hx
    refine ⟨s, hs, ?_⟩
    rcases hp s with e | ⟨e, _⟩
    · exact absurd e hne
    · have h1 : (if VV 32 h sd cold r s = 0 then 0 else 1) = 0 := if_pos e
      have h2 : (if VV 32 h sd cold (r + 1) s = 0 then 0 else 1) = 1 := if_neg (fun e2 => hne (by rw [e2, e]))
      show (if VV 32 h sd cold r s = 0 then 0 else 1) < (if VV 32 h sd cold (r + 1) s = 0 then 0 else 1)
      rw [h1, h2]; omega
theorem cnt_le {h : Hl} {sd : Nat → Nat} {cold r : Nat} {l : List Nat} : cntL h sd cold r l ≤ l.length := sumL_len (fun s => by split <;> omega) l
theorem cnt_lt {h : Hl} {sd : Nat → Nat} {cold r s0 : Nat} {l : List Nat} (hs : s0 ∈ l) (h0 : VV 32 h sd cold r s0 = 0) : cntL h sd cold r l < l.length := by
  have e : sumL (fun _ => 1) l = l.length := by
    have : ∀ l : List Nat, sumL (fun _ => 1) l = l.length := by
      intro l
      induction l with
      | nil => rfl
      | cons x l ih =>
        have e1 : sumL (fun _ => 1) (x :: l) = 1 + sumL (fun _ => 1) l := by simp [sumL]
        rw [e1, ih, List.length_cons]; omega
    exact this l
  rw [← e]
  unfold cntL
  refine sumL_lt2 (fun s _ => by show (if VV 32 h sd cold r s = 0 then 0 else 1) ≤ 1; split <;> omega) ⟨s0, hs, ?_⟩
  show (if VV 32 h sd cold r s0 = 0 then 0 else 1) < 1
  rw [if_pos h0]; omega
/-- closed under hours in which both stand -/
def clB (h : Hl) (sd : Nat → Nat) (cold : Nat) (l : List Nat) : Prop := ∀ s own ans, s ∈ l → own < 32 → ans < 32 → sbM (mO h sd s) own → sbM (mA h sd s) ans → h.must ≤ hands h sd cold s own 0 → h.must ≤ hands h sd cold s ans 1 → nxt h sd cold s (own ||| ans) ∈ l
theorem VV_end {h : Hl} {sd : Nat → Nat} {cold : Nat} {l : List Nat} (hc : clB h sd cold l) (hl : l.length ≤ 3125) : ∃ r, r ≤ 3125 ∧ ∀ k s, s ∈ l → VV 32 h sd cold (r + k) s = VV 32 h sd cold r s := by
  have key : ∀ r, r ≤ 3126 → (∃ r', r' < r ∧ ∀ s, s ∈ l → VV 32 h sd cold (r' + 1) s = VV 32 h sd cold r' s) ∨ r ≤ cntL h sd cold r l := by
    intro r
    induction r with
    | zero => intro _; exact Or.inr (Nat.zero_le _)
    | succ r ih =>
      intro hr
      rcases ih (by omega) with ⟨r', h1, h2⟩ | h1
      · exact Or.inl ⟨r', by omega, h2⟩
      · by_cases q : ∃ s, s ∈ l ∧ VV 32 h sd cold (r + 1) s ≠ VV 32 h sd cold r s
        · have := cnt_up (by omega) q
          exact Or.inr (by omega)
        · refine Or.inl ⟨r, by omega, fun s hs => Classical.byContradiction (fun hne => q ⟨s, hs, hne⟩)⟩
  rcases key 3126 (by omega) with ⟨r', h1, h2⟩ | h1
  · exact ⟨r', by omega, VV_fix (N := 32) (by omega) (S := fun s => s ∈ l) hc h2⟩
  · have := cnt_le (h := h) (sd := sd) (cold := cold) (r := 3126) (l := l)
    omega
theorem VF_fix {h : Hl} {sd : Nat → Nat} {cold r : Nat} {l : List Nat} (hc : clB h sd cold l) (hl : l.length ≤ 3125) (hr : r ≤ 4000) (hS : ∀ s, s ∈ l → VV 32 h sd cold (r + 1) s = VV 32 h sd cold r s) : ∀ s, s ∈ l → VF 32 h sd cold s = VV 32 h sd cold r s := by
  intro s hs
  have := VV_fix (N := 32) (by omega) (S := fun s => s ∈ l) hc hS (4000 - r) s hs
  rw [show r + (4000 - r) = 4000 by omega] at this
  exact this
theorem VF_max {h : Hl} {sd : Nat → Nat} {cold : Nat} {l : List Nat} (hc : clB h sd cold l) (hl : l.length ≤ 3125) {s : Nat} (hs : s ∈ l) : (∃ own, own < 32 ∧ sbM (mO h sd s) own ∧ cmT 32 h sd cold (VF 32 h sd cold) s own = VF 32 h sd cold s) ∧ ∀ own, own < 32 → sbM (mO h sd s) own → cmT 32 h sd cold (VF 32 h sd cold) s own ≤ VF 32 h sd cold s := by
  obtain ⟨r, hr, hst⟩ := VV_end hc hl
  have e1 := hst (4000 - r) s hs
  have e2 := hst (4001 - r) s hs
  rw [show r + (4000 - r) = 4000 by omega] at e1
  rw [show r + (4001 - r) = 4000 + 1 by omega] at e2
  have hge := fun (c : Int) (hc : -268435456 < c) => VV_ge (N := 32) (h := h) (sd := sd) (cold := cold) (r := 4000) (s := s) hc
  have hin := VV_in (N := 32) (h := h) (sd := sd) (cold := cold) (by omega) 4000 s
  have hVF : VV 32 h sd cold 4000 = VF 32 h sd cold := rfl
  rw [hVF] at hge hin e1
  have hcin := fun own => cmT_in (N := 32) (h := h) (sd := sd) (cold := cold) (by omega) (V := VF 32 h sd cold) (fun x => by rw [← hVF]; exact VV_in (N := 32) (by omega) 4000 x) s own
  rw [e2, ← e1] at hge
  have hle : ∀ own, own < 32 → sbM (mO h sd s) own → cmT 32 h sd cold (VF 32 h sd cold) s own ≤ VF 32 h sd cold s := by
    intro own h1 h2
    have := hcin own
    exact (hge _ (by omega)).mpr ⟨own, h1, h2, Int.le_refl _⟩
  refine ⟨?_, hle⟩
  obtain ⟨own, o1, o2, o3⟩ := (hge (VF 32 h sd cold s) (by omega)).mp (Int.le_refl _)
  exact ⟨own, o1, o2, Int.le_antisymm (hle own o1 o2) o3⟩
section DL3
variable {G : AG} {d : Nat} {M : AM}
set_option maxRecDepth 20000 in
theorem c_Du_settleRound {h : Hl} {sd : Nat → Nat} {cold r : Nat} {w : WS} (hd : 12 ≤ d) (hok : HlOK h) (hS : StOK M h sd cold (2 ^ h.P - 1)) (hw : WK M w) (hw5 : ∀ s, s ∈ w.l → s < 5 ^ h.P) (hD : DU M w.l (VV 32 h sd cold r)) (hr : r ≤ 4000) (hcl : clB h sd cold w.l) :
    MS G d mi_Du_settleRound [vr 53, vr 33, vr 49, vi ((r + 1 : Nat) : Int)] M (fun r' M' => (∃ b : Nat, b ≤ 1 ∧ r' = some (vi b) ∧ (b = 1 ↔ ∃ s, s ∈ w.l ∧ VV 32 h sd cold (r + 1) s ≠ VV 32 h sd cold r s)) ∧ DU M' w.l (VV 32 h sd cold (r + 1)) ∧ StOK M' h sd cold (2 ^ h.P - 1) ∧ Same [33, 54, 55] M M') := by
  have hP := hok.1
  have h5 := p5 hP
  have hlen := len_lt hw.2.2.2.2.1 hw.2.2.2.2.2
  have hnd := hw.2.2.2.2.1
  have hp := fun s => VV_P (N := 32) (h := h) (sd := sd) (cold := cold) (by omega) r s (by omega)
  have h2 := fun s => VV_2 (N := 32) (h := h) (sd := sd) (cold := cold) (by omega) (r + 1) s (by omega)
  have hset : ∀ (N : AM) (s : Nat) (U : Nat → Int), StAt N h sd cold (2 ^ h.P - 1) s → DU N w.l U → MixU h sd cold r U → s ∈ w.l → MS G (d - 1) mi_Du_settled [vr 53, vr 33, vi ((r + 1 : Nat) : Int)] N (fun r' M' => r' = some (vi (sgI (VV 32 h sd cold (r + 1) s))) ∧ M' = N) := fun N s U a b c e => c_Du_settled (d := d - 1) (by omega) hok a b hr c (fun own ans => hcl s own ans e)
  have hmix : ∀ U : Nat → Int, MixU h sd cold r U ↔ ∀ x, U x = VV 32 h sd cold r x ∨ U x = VV 32 h sd cold (r + 1) x := fun U => Iff.rfl
  refine MS.by ck_Du_settleRound [some (vr 53), some (vr 33), some (vr 49), some (vi ((r + 1 : Nat) : Int)), none, none, none, none] fun _ _ => ?_
  generalize hV0 : VV 32 h sd cold r = V0 at *
  generalize hV1 : VV 32 h sd cold (r + 1) = V1 at *
  generalize hQ : (fun (r' : Option AV) (M' : AM) => (∃ b : Nat, b ≤ 1 ∧ r' = some (vi b) ∧ (b = 1 ↔ ∃ s, s ∈ w.l ∧ V1 s ≠ V0 s)) ∧ DU M' w.l V1 ∧ StOK M' h sd cold (2 ^ h.P - 1) ∧ Same [33, 54, 55] M M') = Q
  have loop : ∀ (k i b : Nat) (U : Nat → Int) (N : AM) (l6 l7 : Option AV), i + k = w.l.length → b ≤ 1 → (b = 1 ↔ ∃ j, j < i ∧ V1 (w.l.getD j 0) ≠ V0 (w.l.getD j 0)) → MixU h sd cold r U → DU N w.l U → (∀ j, j < w.l.length → U (w.l.getD j 0) = if j < i then V1 (w.l.getD j 0) else V0 (w.l.getD j 0)) → StOK N h sd cold (2 ^ h.P - 1) → Same [33, 54, 55] M N → AW G d mi_Du_settleRound Q 6 [some (vr 53), some (vr 33), some (vr 49), some (vi ((r + 1 : Nat) : Int)), some (vi b), some (vi i), l6, l7] [] N := by
    as_aux_lemma =>
      intro k
      induction k with
      | zero =>
        intro i b U N l6 l7 hi hb hbi hM hDN hUj hSN hN
        have hwN : WK N w := hw.eq (hN.at 49 _ (by (first | decide | (simp only [List.mem_cons, List.not_mem_nil, or_false, not_or, not_false_eq_true, and_true]; omega) | (simp [List.mem_cons]; done)))) (hN 50 (by (first | decide | (simp only [List.mem_cons, List.not_mem_nil, or_false, not_or, not_false_eq_true, and_true]; omega) | (simp [List.mem_cons]; done)))) (hN 51 (by (first | decide | (simp only [List.mem_cons, List.not_mem_nil, or_false, not_or, not_false_eq_true, and_true]; omega) | (simp [List.mem_cons]; done)))) (hN 52 (by (first | decide | (simp only [List.mem_cons, List.not_mem_nil, or_false, not_or, not_false_eq_true, and_true]; omega) | (simp [List.mem_cons]; done))))
        have e1 := hwN.1
        refine AW.run ck_Du_settleRound [73] 10 6 ?_
        simp only [wR, wB, wE0, wE1, wE2, wE3, g0, gS, s10, s11, s1S, s20, s21, s2S, kl0, kl1, kl2, kl3, sp0, sp1, sp2, sp3, cn1, cn2, cn3, cn4, cn5, cn6, jJa, lk0, lk1, jmS, jmN, s4_0, s4_1, s4_2, s4_3, s4_4, sw0, sw1, cKs, cKn, true_and, and_true, List.map_cons, List.map_nil, Nat.reduceAdd, Nat.zero_add, Int.reduceAdd, Nat.reduceEqDiff, reduceIte, Classical.not_not, b_Du_settleRound, shWk, e1]
        subst hQ
        have hDf : DU N w.l V1 := fun s hs => by
          obtain ⟨j, hj, ej⟩ := mem_getD hs
          have := hUj j hj
          rw [if_pos (by omega), ej] at this
          rw [← this]; exact hDN s hs
        have hbf : b = 1 ↔ ∃ s, s ∈ w.l ∧ V1 s ≠ V0 s := by
          rw [hbi]
          constructor
          · rintro ⟨j, hj, hne⟩
            exact ⟨_, getD_mem (by omega), hne⟩
          · rintro ⟨s, hs, hne⟩
            obtain ⟨j, hj, ej⟩ := mem_getD hs
            exact ⟨j, by omega, by rw [ej]; exact hne⟩
        (repeat' (first | omega | (with_reducible exact True.intro) | exact ⟨by omega, by omega⟩ | (with_reducible exact Or.inr trivial) | (with_reducible exact Or.inl trivial) | (with_reducible assumption) | (with_reducible exact Same.refl) | (with_reducible rfl) | (with_reducible refine And.intro ?_ ?_) | (with_reducible intro _)))
        exact ⟨b, hb, rfl, hbf⟩
      | succ k ih =>
        intro i b U N l6 l7 hi hb hbi hM hDN hUj hSN hN
        have hwN : WK N w := hw.eq (hN.at 49 _ (by (first | decide | (simp only [List.mem_cons, List.not_mem_nil, or_false, not_or, not_false_eq_true, and_true]; omega) | (simp [List.mem_cons]; done)))) (hN 50 (by (first | decide | (simp only [List.mem_cons, List.not_mem_nil, or_false, not_or, not_false_eq_true, and_true]; omega) | (simp [List.mem_cons]; done)))) (hN 51 (by (first | decide | (simp only [List.mem_cons, List.not_mem_nil, or_false, not_or, not_false_eq_true, and_true]; omega) | (simp [List.mem_cons]; done)))) (hN 52 (by (first | decide | (simp only [List.mem_cons, List.not_mem_nil, or_false, not_or, not_false_eq_true, and_true]; omega) | (simp [List.mem_cons]; done))))
        have e1 := hwN.1
        have hil : i < w.l.length := by omega
        have ei := hwN.2.1 i hil
        have hsm := getD_mem hil
        have hUi := hUj i hil
        rw [if_neg (by omega)] at hUi
        have hne : ∀ j, j < w.l.length → j ≠ i → w.l.getD j 0 ≠ w.l.getD i 0 := fun j hj hji e => hji (getD_inj hnd hj hil e)
        generalize hsi : w.l.getD i 0 = s at ei hsm hUi hne
        have hs5 := hw5 s hsm
        have hs3 := hwN.2.2.2.2.2 s hsm
        obtain ⟨d1, d2⟩ := hDN s hsm
        rw [hUi] at d1 d2
        have a73 : ∀ (b' : Nat) (U' : Nat → Int) (N : AM) (l7 : Option AV), b' ≤ 1 → (b' = 1 ↔ b = 1 ∨ V1 s ≠ V0 s) → MixU h sd cold r U' → DU N w.l U' → U' s = V1 s → (∀ x, x ≠ s → U' x = U x) → StOK N h sd cold (2 ^ h.P - 1) → Same [33, 54, 55] M N → AW G d mi_Du_settleRound Q 73 [some (vr 53), some (vr 33), some (vr 49), some (vi ((r + 1 : Nat) : Int)), some (vi b'), some (vi i), some (vi s), l7] [] N := by
          intro b' U' N l7 q1 q2 q3 q4 q5 q6 q7 q8
          have := ih (i + 1) b' U' N (some (vi s)) l7 (by omega) q1 (by
            rw [q2, hbi]
            constructor
            · rintro (⟨j, hj, hn⟩ | hn)
              · exact ⟨j, by omega, hn⟩
              · exact ⟨i, by omega, by rw [hsi]; exact hn⟩
            · rintro ⟨j, hj, hn⟩
              by_cases e : j = i
              · subst e; rw [hsi] at hn; exact Or.inr hn
              · exact Or.inl ⟨j, by omega, hn⟩) q3 q4 (fun j hj => by
            by_cases e : j = i
            · subst e; rw [hsi, if_pos (by omega)]; exact q5
            · rw [q6 _ (hne j hj e), hUj j hj]
              by_cases q : j < i
              · rw [if_pos q, if_pos (by omega)]
              · rw [if_neg q, if_neg (by omega)]) q7 q8
          refine AW.run ck_Du_settleRound [6] 10 73 ?_
          simp only [wR, wB, wE0, wE1, wE2, wE3, g0, gS, s10, s11, s1S, s20, s21, s2S, kl0, kl1, kl2, kl3, sp0, sp1, sp2, sp3, cn1, cn2, cn3, cn4, cn5, cn6, jJa, lk0, lk1, jmS, jmN, s4_0, s4_1, s4_2, s4_3, s4_4, sw0, sw1, cKs, cKn, true_and, and_true, List.map_cons, List.map_nil, Nat.reduceAdd, Nat.zero_add, Int.reduceAdd, Nat.reduceEqDiff, reduceIte, Classical.not_not, b_Du_settleRound, ce]
          (repeat' (first | omega | (with_reducible exact True.intro) | exact ⟨by omega, by omega⟩ | (with_reducible exact Or.inr trivial) | (with_reducible exact Or.inl trivial) | (with_reducible assumption) | (with_reducible exact Same.refl) | (with_reducible rfl) | (with_reducible refine And.intro ?_ ?_) | (with_reducible intro _)))
        refine AW.run ck_Du_settleRound [73, 82] 10 6 ?_
        simp only [wR, wB, wE0, wE1, wE2, wE3, g0, gS, s10, s11, s1S, s20, s21, s2S, kl0, kl1, kl2, kl3, sp0, sp1, sp2, sp3, cn1, cn2, cn3, cn4, cn5, cn6, jJa, lk0, lk1, jmS, jmN, s4_0, s4_1, s4_2, s4_3, s4_4, sw0, sw1, cKs, cKn, true_and, and_true, List.map_cons, List.map_nil, Nat.reduceAdd, Nat.zero_add, Int.reduceAdd, Nat.reduceEqDiff, reduceIte, Classical.not_not, b_Du_settleRound, shWk, shDu, shSt, e1, ei, d1]
        by_cases qz : V0 s = 0
        · have e0 : sgI (V0 s) = 0 := by rw [qz]; rfl
          rw [e0]
          (repeat' (first | omega | (with_reducible exact True.intro) | exact ⟨by omega, by omega⟩ | (with_reducible exact Or.inr trivial) | (with_reducible exact Or.inl trivial) | (with_reducible assumption) | (with_reducible exact Same.refl) | (with_reducible rfl) | (with_reducible refine And.intro ?_ ?_) | (with_reducible intro _)))
          refine (c_St_standAt hok hSN hs5).mono ?_
          rintro r'' N2 okN2 ⟨rfl, v1, v2⟩
          have hDN2 : DU N2 w.l U := fun x hx => by rw [v2.at 54 _ (by (first | decide | (simp only [List.mem_cons, List.not_mem_nil, or_false, not_or, not_false_eq_true, and_true]; omega) | (simp [List.mem_cons]; done))), v2.at 55 _ (by (first | decide | (simp only [List.mem_cons, List.not_mem_nil, or_false, not_or, not_false_eq_true, and_true]; omega) | (simp [List.mem_cons]; done)))]; exact hDN x hx
          simp only [wR, wB, wE0, wE1, wE2, wE3, g0, gS, s10, s11, s1S, s20, s21, s2S, kl0, kl1, kl2, kl3, sp0, sp1, sp2, sp3, cn1, cn2, cn3, cn4, cn5, cn6, jJa, lk0, lk1, jmS, jmN, s4_0, s4_1, s4_2, s4_3, s4_4, sw0, sw1, cKs, cKn, true_and, and_true, List.map_cons, List.map_nil, Nat.reduceAdd, Nat.zero_add, Int.reduceAdd, Nat.reduceEqDiff, reduceIte, Classical.not_not, b_Du_settleRound, shWk, shDu, shSt]
          refine ⟨by omega, MS.to (hset N2 s U v1 hDN2 hM hsm) fun _ => ?_⟩
          simp only [wR, wB, wE0, wE1, wE2, wE3, g0, gS, s10, s11, s1S, s20, s21, s2S, kl0, kl1, kl2, kl3, sp0, sp1, sp2, sp3, cn1, cn2, cn3, cn4, cn5, cn6, jJa, lk0, lk1, jmS, jmN, s4_0, s4_1, s4_2, s4_3, s4_4, sw0, sw1, cKs, cKn, true_and, and_true, List.map_cons, List.map_nil, Nat.reduceAdd, Nat.zero_add, Int.reduceAdd, Nat.reduceEqDiff, reduceIte, Classical.not_not, b_Du_settleRound, shDu]
          have hN2 := hN.trans (v2.mono (by simp))
          by_cases q1 : V1 s = 0
          · have e1' : sgI (V1 s) = 0 := by rw [q1]; rfl
            have := a73 b U N2 (some (vi (sgI (V1 s)))) hb ⟨Or.inl, fun h' => h'.elim id (fun hn => absurd (by rw [q1, qz]) hn)⟩ hM hDN2 (by rw [hUi, qz, q1]) (fun _ _ => rfl) v1.1 hN2
            rw [e1'] at this ⊢
            (repeat' (first | omega | (with_reducible exact True.intro) | exact ⟨by omega, by omega⟩ | (with_reducible exact Or.inr trivial) | (with_reducible exact Or.inl trivial) | (with_reducible assumption) | (with_reducible exact Same.refl) | (with_reducible rfl) | (with_reducible refine And.intro ?_ ?_) | (with_reducible intro _)))
          · have hsg : sgI (V1 s) ≠ 0 := by unfold sgI; (repeat' split) <;> omega
            have hsgi : inI (sgI (V1 s)) := by unfold sgI; (repeat' split) <;> exact ⟨by omega, by omega⟩
            have hab : ((r + 1 : Nat) : Int) = 10000 - abI (V1 s) := by
              have p1 := hp s
              have p2 := h2 s q1
              rcases p1 with e | ⟨_, e2, e3⟩
              · rw [qz] at e; exact absurd e q1
              · unfold abI
                split <;> omega
            have := a73 1 (ud U s (V1 s)) (up (up N2 54 s (sgI (V1 s))) 55 s ((r + 1 : Nat) : Int)) (some (vi (sgI (V1 s)))) (by omega) ⟨fun _ => Or.inr (by rw [qz]; exact q1), fun _ => rfl⟩ (by
              rw [hmix] at hM ⊢
              intro x
              by_cases ex : x = s
              · rw [ex, ud_eq]; exact Or.inr rfl
              · rw [ud_ne ex]; exact hM x) (fun x hx => by
              by_cases ex : x = s
              · rw [ex, ud_eq, up_ne1 (by omega), up_eq, up_eq]; exact ⟨rfl, fun _ => hab⟩
              · rw [ud_ne ex, up_ne1 (by omega), up_ne2 (by omega), up_ne2 (by omega), up_ne1 (by omega)]; exact hDN2 x hx) ud_eq (fun x hx => ud_ne hx) (v1.1.same (ps := [54, 55]) ((Same.refl.up (by simp)).up (by simp)) (fun x h1 h2 => by (first | decide | (simp only [List.mem_cons, List.not_mem_nil, or_false, not_or, not_false_eq_true, and_true]; omega) | (simp [List.mem_cons]; done)))) ((hN2.up (by simp)).up (by simp))
            (repeat' (first | omega | (with_reducible exact True.intro) | exact ⟨by omega, by omega⟩ | (with_reducible exact Or.inr trivial) | (with_reducible exact Or.inl trivial) | (with_reducible assumption) | (with_reducible exact Same.refl) | (with_reducible rfl) | (with_reducible refine And.intro ?_ ?_) | (with_reducible intro _)))
        · have hV : V1 s = V0 s := by
            rcases hp s with e | ⟨e, _⟩
            · exact e
            · exact absurd e qz
          have hsg : sgI (V0 s) ≠ 0 := by unfold sgI; (repeat' split) <;> omega
          have := a73 b U N l7 hb ⟨Or.inl, fun h' => h'.elim id (fun hn => absurd hV hn)⟩ hM hDN (by rw [hUi, hV]) (fun _ _ => rfl) hSN hN
          (repeat' (first | omega | (with_reducible exact True.intro) | exact ⟨by omega, by omega⟩ | (with_reducible exact Or.inr trivial) | (with_reducible exact Or.inl trivial) | (with_reducible assumption) | (with_reducible exact Same.refl) | (with_reducible rfl) | (with_reducible refine And.intro ?_ ?_) | (with_reducible intro _)))
  have := loop w.l.length 0 0 V0 M none none (by omega) (by omega) ⟨fun e => absurd e (by omega), fun ⟨j, hj, _⟩ => absurd hj (by omega)⟩ ((hmix V0).mpr (fun x => Or.inl rfl)) hD (fun j _ => by rw [if_neg (by omega)]) hS Same.refl
  refine AW.run ck_Du_settleRound [6] 10 0 ?_
  simp only [wR, wB, wE0, wE1, wE2, wE3, g0, gS, s10, s11, s1S, s20, s21, s2S, kl0, kl1, kl2, kl3, sp0, sp1, sp2, sp3, cn1, cn2, cn3, cn4, cn5, cn6, jJa, lk0, lk1, jmS, jmN, s4_0, s4_1, s4_2, s4_3, s4_4, sw0, sw1, cKs, cKn, true_and, and_true, List.map_cons, List.map_nil, Nat.reduceAdd, Nat.zero_add, Int.reduceAdd, Nat.reduceEqDiff, reduceIte, Classical.not_not, b_Du_settleRound]
  exact this
end DL3
