theorem sbM_le {m y : Nat} (hm : m < 32) (hy : y < 32) (h : sbM m y) : y ≤ m := by
  have key : ∀ m y : Fin 32, y.val &&& (31 ^^^ m.val) = 0 → y.val ≤ m.val := by decide +kernel
  exact key ⟨m, hm⟩ ⟨y, hy⟩ h
theorem sbM_and {a b y : Nat} (ha : a < 32) (hb : b < 32) (hy : y < 32) : sbM (a &&& b) y ↔ sbM a y ∧ sbM b y := by
  have hab : a &&& b < 32 := Nat.lt_of_le_of_lt Nat.and_le_left ha
  unfold sbM
  rw [sub_iff hy hab, sub_iff hy ha, sub_iff hy hb]
  constructor
  · intro h
    exact ⟨fun p hp => (and_bit.mp (h p hp)).1, fun p hp => (and_bit.mp (h p hp)).2⟩
  · rintro ⟨h1, h2⟩ p hp
    exact and_bit.mpr ⟨h1 p hp, h2 p hp⟩
theorem mxS_skip {f : Nat → Int} {m n : Nat} : ∀ k, (∀ y, n ≤ y → y < n + k → ¬ sbM m y) → mxS f m (n + k) = mxS f m n
  | 0, _ => rfl
  | k + 1, h => by
    rw [← Nat.add_assoc]
    simp only [mxS]
    rw [if_neg (show ¬ (n + k &&& (31 ^^^ m) = 0) from h (n + k) (by omega) (by omega))]
    exact mxS_skip k (fun y h1 h2 => h y h1 (by omega))
theorem mxS_st {f : Nat → Int} {m n : Nat} (h : sbM m n) : mxS f m (n + 1) = if mxS f m n < f n then f n else mxS f m n := by
  simp only [mxS]
  exact if_pos h
theorem mxS_no {f : Nat → Int} {m n : Nat} (h : ¬ sbM m n) : mxS f m (n + 1) = mxS f m n := by
  simp only [mxS]
  exact if_neg h
theorem mnS_no {f : Nat → Int} {m n : Nat} (h : ¬ sbM m n) : mnS f m (n + 1) = mnS f m n := by
  simp only [mnS]
  exact if_neg h
def farI (M : AM) (l : List Nat) (V : Nat → Int) : Prop := ∀ s, s ∈ l → M 127 s = V s ∧ -9999 ≤ V s ∧ V s ≤ 9999
section MG
variable {G : AG} {d : Nat} {M : AM}
theorem c_Md_hourLater {x : Int} (hx : -10000 ≤ x ∧ x ≤ 10000) : MS G d mi_Md_hourLater [vi x] M (fun r M' => r = some (vi (hlI x)) ∧ M' = M) := by
  refine MS.run ck_Md_hourLater [some (vi x)] [] 10 fun _ _ => ?_
  unfold hlI
  simp only [wR, wB, wE0, wE1, wE2, wE3, g0, gS, s10, s11, s1S, s20, s21, s2S, kl0, kl1, kl2, kl3, sp0, sp1, sp2, sp3, cn1, cn2, cn3, cn4, cn5, cn6, jJa, lk0, lk1, jmS, jmN, s4_0, s4_1, s4_2, s4_3, s4_4, sw0, sw1, cKs, cKn, true_and, and_true, List.map_cons, List.map_nil, Nat.reduceAdd, Nat.zero_add, Int.reduceAdd, Nat.reduceEqDiff, reduceIte, Classical.not_not, b_Md_hourLater]
  rcases Int.lt_trichotomy x 0 with q | q | q
  · rw [if_neg (by omega), if_pos q]
    (repeat' (first | omega | (with_reducible exact True.intro) | exact ⟨by omega, by omega⟩ | (with_reducible exact Or.inr trivial) | (with_reducible exact Or.inl trivial) | (with_reducible assumption) | (with_reducible exact Same.refl) | (with_reducible rfl) | (with_reducible refine And.intro ?_ ?_) | (with_reducible intro _)))
  · rw [if_neg (by omega), if_neg (by omega)]
    (repeat' (first | omega | (with_reducible exact True.intro) | exact ⟨by omega, by omega⟩ | (with_reducible exact Or.inr trivial) | (with_reducible exact Or.inl trivial) | (with_reducible assumption) | (with_reducible exact Same.refl) | (with_reducible rfl) | (with_reducible refine And.intro ?_ ?_) | (with_reducible intro _)))
  · rw [if_pos q]
    (repeat' (first | omega | (with_reducible exact True.intro) | exact ⟨by omega, by omega⟩ | (with_reducible exact Or.inr trivial) | (with_reducible exact Or.inl trivial) | (with_reducible assumption) | (with_reducible exact Same.refl) | (with_reducible rfl) | (with_reducible refine And.intro ?_ ?_) | (with_reducible intro _)))
theorem c_Md_comesBy {h : Hl} {sd : Nat → Nat} {cold s0 s own ans : Nat} {l : List Nat} {V : Nat → Int} (hd : 1 ≤ d) (hok : HlOK h) (hL : LSt M h sd cold (2 ^ h.P - 1) s0 l) (hf : farI M l V) (hs : s ∈ l) (ho : own < 32) (ha : ans < 32) (h1 : sbM (mO h sd s) own) (h2 : sbM (mA h sd s) ans) :
    MS G d mi_Md_comesBy [vr 117, vi s, vi ((own ||| ans : Nat) : Int)] M (fun r M' => r = some (vi (gEnt h sd cold V s own ans)) ∧ M' = M) := by
  have hP := hok.1
  have hs3 := hL.1.2.2.2.2 s hs
  have hset := or_lt ho ha
  have hokP : okP h.P (2 ^ h.P - 1) s (own ||| ans) = true := by rw [okP_ev, decide_eq_true_eq]; exact or_abl hP ho ha h1 h2
  obtain ⟨e1, e2⟩ := hL.2.2.2 s hs (own ||| ans) hset
  have e2' := e2 hokP
  rw [if_pos hokP] at e1
  have ht := hL.cl s (own ||| ans) hs hset hokP
  have ht3 := hL.1.2.2.2.2 _ ht
  obtain ⟨f1, f2, f3⟩ := hf _ ht
  obtain ⟨g1, g2⟩ := hands_or (cold := cold) hP ho ha h1 h2
  have hst : stood h sd cold s (own ||| ans) = (if h.must ≤ hands h sd cold s own 0 then 1 else 0) + (if h.must ≤ hands h sd cold s ans 1 then 2 else 0) := by unfold stood; rw [g1, g2]
  refine MS.by ck_Md_comesBy [some (vr 117), some (vi s), some (vi ((own ||| ans : Nat) : Int)), none] fun _ _ => ?_
  refine AW.run ck_Md_comesBy [] 10 0 ?_
  have hge : gEnt h sd cold V s own ans = if h.must ≤ hands h sd cold s own 0 then (if h.must ≤ hands h sd cold s ans 1 then hlI (V (nxt h sd cold s (own ||| ans))) else 9999) else (if h.must ≤ hands h sd cold s ans 1 then -9999 else 0) := rfl
  rw [hge]
  by_cases q0 : h.must ≤ hands h sd cold s own 0
  · rw [if_pos q0] at hst ⊢
    by_cases q1 : h.must ≤ hands h sd cold s ans 1
    · rw [if_pos q1] at hst ⊢
      have e3 : M 129 (32 * (s : Int) + ((own ||| ans : Nat) : Int)) = 3 := by rw [e2', hst]; rfl
      simp only [wR, wB, wE0, wE1, wE2, wE3, g0, gS, s10, s11, s1S, s20, s21, s2S, kl0, kl1, kl2, kl3, sp0, sp1, sp2, sp3, cn1, cn2, cn3, cn4, cn5, cn6, jJa, lk0, lk1, jmS, jmN, s4_0, s4_1, s4_2, s4_3, s4_4, sw0, sw1, cKs, cKn, true_and, and_true, List.map_cons, List.map_nil, Nat.reduceAdd, Nat.zero_add, Int.reduceAdd, Nat.reduceEqDiff, reduceIte, Classical.not_not, b_Md_comesBy, shMd, e3, e1, f1, Int.reduceEq, not_true_eq_false, not_false_eq_true, false_imp_iff, true_imp_iff, and_self]
      (repeat' (first | omega | (with_reducible exact True.intro) | exact ⟨by omega, by omega⟩ | (with_reducible exact Or.inr trivial) | (with_reducible exact Or.inl trivial) | (with_reducible assumption) | (with_reducible exact Same.refl) | (with_reducible rfl) | (with_reducible refine And.intro ?_ ?_) | (with_reducible intro _)))
      refine MS.to (c_Md_hourLater ⟨by omega, by omega⟩) fun _ => ?_
      simp only [wR, wB, wE0, wE1, wE2, wE3, g0, gS, s10, s11, s1S, s20, s21, s2S, kl0, kl1, kl2, kl3, sp0, sp1, sp2, sp3, cn1, cn2, cn3, cn4, cn5, cn6, jJa, lk0, lk1, jmS, jmN, s4_0, s4_1, s4_2, s4_3, s4_4, sw0, sw1, cKs, cKn, true_and, and_true, List.map_cons, List.map_nil, Nat.reduceAdd, Nat.zero_add, Int.reduceAdd, Nat.reduceEqDiff, reduceIte, Classical.not_not, b_Md_comesBy]
    · rw [if_neg q1] at hst ⊢
      have e3 : M 129 (32 * (s : Int) + ((own ||| ans : Nat) : Int)) = 1 := by rw [e2', hst]; rfl
      simp only [wR, wB, wE0, wE1, wE2, wE3, g0, gS, s10, s11, s1S, s20, s21, s2S, kl0, kl1, kl2, kl3, sp0, sp1, sp2, sp3, cn1, cn2, cn3, cn4, cn5, cn6, jJa, lk0, lk1, jmS, jmN, s4_0, s4_1, s4_2, s4_3, s4_4, sw0, sw1, cKs, cKn, true_and, and_true, List.map_cons, List.map_nil, Nat.reduceAdd, Nat.zero_add, Int.reduceAdd, Nat.reduceEqDiff, reduceIte, Classical.not_not, b_Md_comesBy, shMd, e3, Int.reduceEq, not_true_eq_false, not_false_eq_true, false_imp_iff, true_imp_iff, and_self]
      (repeat' (first | omega | (with_reducible exact True.intro) | exact ⟨by omega, by omega⟩ | (with_reducible exact Or.inr trivial) | (with_reducible exact Or.inl trivial) | (with_reducible assumption) | (with_reducible exact Same.refl) | (with_reducible rfl) | (with_reducible refine And.intro ?_ ?_) | (with_reducible intro _)))
  · rw [if_neg q0] at hst ⊢
    by_cases q1 : h.must ≤ hands h sd cold s ans 1
    · rw [if_pos q1] at hst ⊢
      have e3 : M 129 (32 * (s : Int) + ((own ||| ans : Nat) : Int)) = 2 := by rw [e2', hst]; rfl
      simp only [wR, wB, wE0, wE1, wE2, wE3, g0, gS, s10, s11, s1S, s20, s21, s2S, kl0, kl1, kl2, kl3, sp0, sp1, sp2, sp3, cn1, cn2, cn3, cn4, cn5, cn6, jJa, lk0, lk1, jmS, jmN, s4_0, s4_1, s4_2, s4_3, s4_4, sw0, sw1, cKs, cKn, true_and, and_true, List.map_cons, List.map_nil, Nat.reduceAdd, Nat.zero_add, Int.reduceAdd, Nat.reduceEqDiff, reduceIte, Classical.not_not, b_Md_comesBy, shMd, e3, Int.reduceEq, not_true_eq_false, not_false_eq_true, false_imp_iff, true_imp_iff, and_self]
      (repeat' (first | omega | (with_reducible exact True.intro) | exact ⟨by omega, by omega⟩ | (with_reducible exact Or.inr trivial) | (with_reducible exact Or.inl trivial) | (with_reducible assumption) | (with_reducible exact Same.refl) | (with_reducible rfl) | (with_reducible refine And.intro ?_ ?_) | (with_reducible intro _)))
    · rw [if_neg q1] at hst ⊢
      have e3 : M 129 (32 * (s : Int) + ((own ||| ans : Nat) : Int)) = 0 := by rw [e2', hst]; rfl
      simp only [wR, wB, wE0, wE1, wE2, wE3, g0, gS, s10, s11, s1S, s20, s21, s2S, kl0, kl1, kl2, kl3, sp0, sp1, sp2, sp3, cn1, cn2, cn3, cn4, cn5, cn6, jJa, lk0, lk1, jmS, jmN, s4_0, s4_1, s4_2, s4_3, s4_4, sw0, sw1, cKs, cKn, true_and, and_true, List.map_cons, List.map_nil, Nat.reduceAdd, Nat.zero_add, Int.reduceAdd, Nat.reduceEqDiff, reduceIte, Classical.not_not, b_Md_comesBy, shMd, e3, Int.reduceEq, not_true_eq_false, not_false_eq_true, false_imp_iff, true_imp_iff, and_self]
      (repeat' (first | omega | (with_reducible exact True.intro) | exact ⟨by omega, by omega⟩ | (with_reducible exact Or.inr trivial) | (with_reducible exact Or.inl trivial) | (with_reducible assumption) | (with_reducible exact Same.refl) | (with_reducible rfl) | (with_reducible refine And.intro ?_ ?_) | (with_reducible intro _)))
set_option maxRecDepth 20000 in
theorem c_Md_comesTo {h : Hl} {sd : Nat → Nat} {cold s0 s own : Nat} {l : List Nat} {V : Nat → Int} (hd : 3 ≤ d) (hok : HlOK h) (hL : LSt M h sd cold (2 ^ h.P - 1) s0 l) (hf : farI M l V) (hV : ∀ x, -9999 ≤ V x ∧ V x ≤ 9999) (hs : s ∈ l) (ho : own < 32) (h1 : sbM (mO h sd s) own) :
    MS G d mi_Md_comesTo [vr 117, vi s, vi own, vi (sideS sd h.P 1)] M (fun r M' => r = some (vi (cmT 32 h sd cold V s own)) ∧ M' = M) := by
  have hP := hok.1
  have hs3 := hL.1.2.2.2.2 s hs
  have hW := sideS_lt (sd := sd) (k := 1) hP
  have hab : ablS h.P s < 32 := bitsP32 hP
  have hA := mA_lt (h := h) (sd := sd) (s := s) hP
  have hsub : ∀ ans, ans < 32 → (sbM (mA h sd s) ans ↔ sbM (ablS h.P s) ans ∧ sbM (sideS sd h.P 1) ans) := fun ans ha => sbM_and hab hW ha
  have ho1 : sbM (ablS h.P s) own := ((sbM_and hab (sideS_lt hP) ho).mp h1).1
  have hdef : cmT 32 h sd cold V s own = mnS (fun ans => gEnt h sd cold V s own ans) (mA h sd s) (sideS sd h.P 1 + 1) := by
    unfold cmT
    have := mnS_skip (f := fun ans => gEnt h sd cold V s own ans) (m := mA h sd s) (n := sideS sd h.P 1 + 1) (32 - (sideS sd h.P 1 + 1)) (fun y y1 y2 hy => by
      have := sbM_le hA (by omega) hy
      have : mA h sd s ≤ sideS sd h.P 1 := Nat.and_le_right
      omega)
    rw [show sideS sd h.P 1 + 1 + (32 - (sideS sd h.P 1 + 1)) = 32 by omega] at this
    exact this
  refine MS.by ck_Md_comesTo [some (vr 117), some (vi s), some (vi own), some (vi (sideS sd h.P 1)), none, none, none] fun _ _ => ?_
  rw [hdef]
  have hmin : ∀ n, -9999 ≤ mnS (fun ans => gEnt h sd cold V s own ans) (mA h sd s) n ∧ mnS (fun ans => gEnt h sd cold V s own ans) (mA h sd s) n ≤ 268435456 := by
    intro n
    refine ⟨(mnS_ge (by omega) n).mpr (fun y _ _ => (ent_in hV s own y).1), ?_⟩
    induction n with
    | zero => simp only [mnS]; exact Int.le_refl _
    | succ n ih => simp only [mnS]; (repeat' split) <;> omega
  have h0 : mnS (fun ans => gEnt h sd cold V s own ans) (mA h sd s) 0 = 268435456 := by simp only [mnS]
  have hstp : ∀ n, sbM (mA h sd s) n → mnS (fun ans => gEnt h sd cold V s own ans) (mA h sd s) (n + 1) = if gEnt h sd cold V s own n < mnS (fun ans => gEnt h sd cold V s own ans) (mA h sd s) n then gEnt h sd cold V s own n else mnS (fun ans => gEnt h sd cold V s own ans) (mA h sd s) n := fun n hn => mnS_st hn
  have hsno : ∀ n, ¬ sbM (mA h sd s) n → mnS (fun ans => gEnt h sd cold V s own ans) (mA h sd s) (n + 1) = mnS (fun ans => gEnt h sd cold V s own ans) (mA h sd s) n := fun n hn => mnS_no hn
  have hcb := fun ans ha hsb => c_Md_comesBy (G := G) (d := d - 1) (M := M) (own := own) (ans := ans) (by omega) hok hL hf hs ho ha h1 hsb
  generalize mnS (fun ans => gEnt h sd cold V s own ans) (mA h sd s) = mf at *
  generalize gEnt h sd cold V s own = ge at *
  generalize hQ : (fun (r : Option AV) (M' : AM) => r = some (vi (mf (sideS sd h.P 1 + 1))) ∧ M' = M) = Q
  have loop : ∀ (r ans : Nat) (l6 : Option AV), ans + r = sideS sd h.P 1 + 1 → AW G d mi_Md_comesTo Q 8 [some (vr 117), some (vi s), some (vi own), some (vi (sideS sd h.P 1)), some (vi (mf ans)), some (vi ans), l6] [] M := by
    intro r
    induction r with
    | zero =>
      intro ans l6 hr
      have e : ans = sideS sd h.P 1 + 1 := by omega
      have hm := hmin ans
      have a77 : AW G d mi_Md_comesTo Q 77 [some (vr 117), some (vi s), some (vi own), some (vi (sideS sd h.P 1)), some (vi (mf ans)), some (vi ans), l6] [] M := by
        refine AW.run ck_Md_comesTo [] 10 77 ?_
        simp only [wR, wB, wE0, wE1, wE2, wE3, g0, gS, s10, s11, s1S, s20, s21, s2S, kl0, kl1, kl2, kl3, sp0, sp1, sp2, sp3, cn1, cn2, cn3, cn4, cn5, cn6, jJa, lk0, lk1, jmS, jmN, s4_0, s4_1, s4_2, s4_3, s4_4, sw0, sw1, cKs, cKn, true_and, and_true, List.map_cons, List.map_nil, Nat.reduceAdd, Nat.zero_add, Int.reduceAdd, Nat.reduceEqDiff, reduceIte, Classical.not_not, b_Md_comesTo]
        subst hQ
        rw [← e]
        (repeat' (first | omega | (with_reducible exact True.intro) | exact ⟨by omega, by omega⟩ | (with_reducible exact Or.inr trivial) | (with_reducible exact Or.inl trivial) | (with_reducible assumption) | (with_reducible exact Same.refl) | (with_reducible rfl) | (with_reducible refine And.intro ?_ ?_) | (with_reducible intro _)))
      refine AW.run ck_Md_comesTo [44, 71, 77] 10 8 ?_
      simp only [wR, wB, wE0, wE1, wE2, wE3, g0, gS, s10, s11, s1S, s20, s21, s2S, kl0, kl1, kl2, kl3, sp0, sp1, sp2, sp3, cn1, cn2, cn3, cn4, cn5, cn6, jJa, lk0, lk1, jmS, jmN, s4_0, s4_1, s4_2, s4_3, s4_4, sw0, sw1, cKs, cKn, true_and, and_true, List.map_cons, List.map_nil, Nat.reduceAdd, Nat.zero_add, Int.reduceAdd, Nat.reduceEqDiff, reduceIte, Classical.not_not, b_Md_comesTo, shMd]
      (repeat' (first | omega | (with_reducible exact True.intro) | exact ⟨by omega, by omega⟩ | (with_reducible exact Or.inr trivial) | (with_reducible exact Or.inl trivial) | (with_reducible assumption) | (with_reducible exact Same.refl) | (with_reducible rfl) | (with_reducible refine And.intro ?_ ?_) | (with_reducible intro _)))
    | succ r ih =>
      intro ans l6 hr
      have ha : ans < 32 := by omega
      have a71 : ∀ (x : Int) (l6 : Option AV), x = mf (ans + 1) → AW G d mi_Md_comesTo Q 71 [some (vr 117), some (vi s), some (vi own), some (vi (sideS sd h.P 1)), some (vi x), some (vi ans), l6] [] M := by
        intro x l6 hx
        subst hx
        have := ih (ans + 1) l6 (by omega)
        refine AW.run ck_Md_comesTo [8] 10 71 ?_
        simp only [wR, wB, wE0, wE1, wE2, wE3, g0, gS, s10, s11, s1S, s20, s21, s2S, kl0, kl1, kl2, kl3, sp0, sp1, sp2, sp3, cn1, cn2, cn3, cn4, cn5, cn6, jJa, lk0, lk1, jmS, jmN, s4_0, s4_1, s4_2, s4_3, s4_4, sw0, sw1, cKs, cKn, true_and, and_true, List.map_cons, List.map_nil, Nat.reduceAdd, Nat.zero_add, Int.reduceAdd, Nat.reduceEqDiff, reduceIte, Classical.not_not, b_Md_comesTo, ce]
        (repeat' (first | omega | (with_reducible exact True.intro) | exact ⟨by omega, by omega⟩ | (with_reducible exact Or.inr trivial) | (with_reducible exact Or.inl trivial) | (with_reducible assumption) | (with_reducible exact Same.refl) | (with_reducible rfl) | (with_reducible refine And.intro ?_ ?_) | (with_reducible intro _)))
      have e1 := (hL.2.2.2 s hs (own ||| ans) (or_lt ho ha)).1
      have hol := or_lt ho ha
      have hm := hmin ans
      have a44 : sbM (mA h sd s) ans → AW G d mi_Md_comesTo Q 44 [some (vr 117), some (vi s), some (vi own), some (vi (sideS sd h.P 1)), some (vi (mf ans)), some (vi ans), l6] [] M := by
        intro hsb
        have hst := hstp ans hsb
        refine AW.run ck_Md_comesTo [71] 10 44 ?_
        simp only [wR, wB, wE0, wE1, wE2, wE3, g0, gS, s10, s11, s1S, s20, s21, s2S, kl0, kl1, kl2, kl3, sp0, sp1, sp2, sp3, cn1, cn2, cn3, cn4, cn5, cn6, jJa, lk0, lk1, jmS, jmN, s4_0, s4_1, s4_2, s4_3, s4_4, sw0, sw1, cKs, cKn, true_and, and_true, List.map_cons, List.map_nil, Nat.reduceAdd, Nat.zero_add, Int.reduceAdd, Nat.reduceEqDiff, reduceIte, Classical.not_not, b_Md_comesTo, shMd, bOr_n (show own < 2 ^ 31 by omega) (show ans < 2 ^ 31 by omega)]
        refine ⟨by omega, MS.to (hcb ans ha hsb) fun _ => ?_⟩
        simp only [wR, wB, wE0, wE1, wE2, wE3, g0, gS, s10, s11, s1S, s20, s21, s2S, kl0, kl1, kl2, kl3, sp0, sp1, sp2, sp3, cn1, cn2, cn3, cn4, cn5, cn6, jJa, lk0, lk1, jmS, jmN, s4_0, s4_1, s4_2, s4_3, s4_4, sw0, sw1, cKs, cKn, true_and, and_true, List.map_cons, List.map_nil, Nat.reduceAdd, Nat.zero_add, Int.reduceAdd, Nat.reduceEqDiff, reduceIte, Classical.not_not, b_Md_comesTo]
        by_cases q3 : ge ans < mf ans
        · rw [if_pos q3] at hst
          have := a71 (ge ans) (some (vi (ge ans))) hst.symm
          (repeat' (first | omega | (with_reducible exact True.intro) | exact ⟨by omega, by omega⟩ | (with_reducible exact Or.inr trivial) | (with_reducible exact Or.inl trivial) | (with_reducible assumption) | (with_reducible exact Same.refl) | (with_reducible rfl) | (with_reducible refine And.intro ?_ ?_) | (with_reducible intro _)))
        · rw [if_neg q3] at hst
          have := a71 (mf ans) (some (vi (ge ans))) hst.symm
          (repeat' (first | omega | (with_reducible exact True.intro) | exact ⟨by omega, by omega⟩ | (with_reducible exact Or.inr trivial) | (with_reducible exact Or.inl trivial) | (with_reducible assumption) | (with_reducible exact Same.refl) | (with_reducible rfl) | (with_reducible refine And.intro ?_ ?_) | (with_reducible intro _)))
      refine AW.run ck_Md_comesTo [44, 71, 77] 10 8 ?_
      simp only [wR, wB, wE0, wE1, wE2, wE3, g0, gS, s10, s11, s1S, s20, s21, s2S, kl0, kl1, kl2, kl3, sp0, sp1, sp2, sp3, cn1, cn2, cn3, cn4, cn5, cn6, jJa, lk0, lk1, jmS, jmN, s4_0, s4_1, s4_2, s4_3, s4_4, sw0, sw1, cKs, cKn, true_and, and_true, List.map_cons, List.map_nil, Nat.reduceAdd, Nat.zero_add, Int.reduceAdd, Nat.reduceEqDiff, reduceIte, Classical.not_not, b_Md_comesTo, shMd, bAndN_n ha hW, bOr_n (show own < 2 ^ 31 by omega) (show ans < 2 ^ 31 by omega), e1]
      by_cases q1 : ans &&& (31 ^^^ sideS sd h.P 1) = 0
      · by_cases q2 : sbM (ablS h.P s) ans
        · have hsb := (hsub ans ha).mpr ⟨q2, q1⟩
          have hokP : okP h.P (2 ^ h.P - 1) s (own ||| ans) = true := by rw [okP_ev, decide_eq_true_eq]; exact or_abl hP ho ha h1 hsb
          rw [if_pos hokP]
          have := a44 hsb
          (repeat' (first | omega | (with_reducible exact True.intro) | exact ⟨by omega, by omega⟩ | (with_reducible exact Or.inr trivial) | (with_reducible exact Or.inl trivial) | (with_reducible assumption) | (with_reducible exact Same.refl) | (with_reducible rfl) | (with_reducible refine And.intro ?_ ?_) | (with_reducible intro _)))
        · have hokP : okP h.P (2 ^ h.P - 1) s (own ||| ans) = false := by
            rw [okP_ev, decide_eq_false_iff_not, sub_iff hol hab]
            intro hh
            refine q2 ((sub_iff ha hab).mpr (fun p hp => hh p (or_bit.mpr (Or.inr hp))))
          rw [if_neg (by rw [hokP]; decide)]
          have := a71 (mf ans) l6 (hsno ans (fun hh => q2 ((hsub ans ha).mp hh).1)).symm
          (repeat' (first | omega | (with_reducible exact True.intro) | exact ⟨by omega, by omega⟩ | (with_reducible exact Or.inr trivial) | (with_reducible exact Or.inl trivial) | (with_reducible assumption) | (with_reducible exact Same.refl) | (with_reducible rfl) | (with_reducible refine And.intro ?_ ?_) | (with_reducible intro _)))
      · have := a71 (mf ans) l6 (hsno ans (fun hh => q1 ((hsub ans ha).mp hh).2)).symm
        generalize (if okP h.P (2 ^ h.P - 1) s (own ||| ans) = true then (nxt h sd cold s (own ||| ans) : Int) else -1) = gg
        (repeat' (first | omega | (with_reducible exact True.intro) | exact ⟨by omega, by omega⟩ | (with_reducible exact Or.inr trivial) | (with_reducible exact Or.inl trivial) | (with_reducible assumption) | (with_reducible exact Same.refl) | (with_reducible rfl) | (with_reducible refine And.intro ?_ ?_) | (with_reducible intro _)))
  have := loop (sideS sd h.P 1 + 1) 0 none (by omega)
  rw [h0, nc0] at this
  refine AW.run ck_Md_comesTo [8] 10 0 ?_
  simp only [wR, wB, wE0, wE1, wE2, wE3, g0, gS, s10, s11, s1S, s20, s21, s2S, kl0, kl1, kl2, kl3, sp0, sp1, sp2, sp3, cn1, cn2, cn3, cn4, cn5, cn6, jJa, lk0, lk1, jmS, jmN, s4_0, s4_1, s4_2, s4_3, s4_4, sw0, sw1, cKs, cKn, true_and, and_true, List.map_cons, List.map_nil, Nat.reduceAdd, Nat.zero_add, Int.reduceAdd, Nat.reduceEqDiff, reduceIte, Classical.not_not, b_Md_comesTo]
  (repeat' (first | omega | (with_reducible exact True.intro) | exact ⟨by omega, by omega⟩ | (with_reducible exact Or.inr trivial) | (with_reducible exact Or.inl trivial) | (with_reducible assumption) | (with_reducible exact Same.refl) | (with_reducible rfl) | (with_reducible refine And.intro ?_ ?_) | (with_reducible intro _)))
end MG
