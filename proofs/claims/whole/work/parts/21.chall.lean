/-! the class's halls -/
theorem bitsP_bit (f : Nat → Bool) : ∀ n p, bitsP f n / 2 ^ p % 2 = if p < n ∧ f p = true then 1 else 0
  | 0, p => by simp [bitsP]
  | n + 1, p => by
    have ih := bitsP_bit f n p
    have hl := bitsP_lt f n
    simp only [bitsP]
    have h2p : 0 < 2 ^ p := Nat.pow_pos (by omega)
    by_cases hf : f n = true
    · rw [if_pos hf]
      rcases Nat.lt_trichotomy p n with q | q | q
      · have e : 2 ^ n = 2 ^ p * (2 * 2 ^ (n - p - 1)) := by
          rw [← Nat.pow_succ', ← Nat.pow_add]
          congr 1
          omega
        rw [e, Nat.add_mul_div_left _ _ h2p, Nat.add_mul_mod_self_left, ih]
        by_cases hp : f p = true
        · rw [if_pos ⟨q, hp⟩, if_pos ⟨by omega, hp⟩]
        · rw [if_neg (fun h => hp h.2), if_neg (fun h => hp h.2)]
      · subst q
        rw [if_pos ⟨by omega, hf⟩, Nat.add_div_right _ h2p, Nat.div_eq_of_lt hl]
      · rw [if_neg (by omega)]
        have : 2 ^ (n + 1) ≤ 2 ^ p := Nat.pow_le_pow_right (by omega) (by omega)
        have e : (2 : Nat) ^ (n + 1) = 2 ^ n + 2 ^ n := by rw [Nat.pow_succ]; omega
        rw [Nat.div_eq_of_lt (by omega)]
    · rw [if_neg hf, Nat.add_zero, ih]
      by_cases hp : p < n ∧ f p = true
      · rw [if_pos hp, if_pos ⟨by omega, hp.2⟩]
      · rw [if_neg hp, if_neg]
        rintro ⟨a, b⟩
        rcases Nat.lt_or_ge p n with q | q
        · exact hp ⟨q, b⟩
        · rw [show p = n by omega] at b
          exact hf b
theorem bitsP_not {f g : Nat → Bool} : ∀ n, (∀ p, p < n → g p = !f p) → bitsP g n + bitsP f n = 2 ^ n - 1
  | 0, _ => rfl
  | n + 1, h => by
    have ih := bitsP_not (f := f) (g := g) n (fun p hp => h p (by omega))
    have hn := h n (by omega)
    have e : (2 : Nat) ^ (n + 1) = 2 ^ n + 2 ^ n := by rw [Nat.pow_succ]; omega
    have : 0 < 2 ^ n := Nat.pow_pos (by omega)
    simp only [bitsP]
    rw [hn]
    cases f n <;> simp <;> omega
/-- sides as bits -/
def sdB (sd : Nat → Nat) (P : Nat) : Nat := bitsP (fun p => decide (sd p = 1)) P
theorem p2_32 {P : Nat} (h : P ≤ 5) : 2 ^ P ≤ 32 := Nat.pow_le_pow_right (by omega) h
theorem sdB_lt (sd : Nat → Nat) (P : Nat) : sdB sd P < 2 ^ P := bitsP_lt _ _
theorem side1 {sd : Nat → Nat} {P : Nat} (hP : P ≤ 5) : bAnd ((sdB sd P : Nat) : Int) ((2 ^ P - 1 : Nat) : Int) = ((sideS sd P 1 : Nat) : Int) := by
  have h := sdB_lt sd P
  have h32 := p2_32 hP
  rw [bAnd_n (by omega), Nat.and_two_pow_sub_one_eq_mod, Nat.mod_eq_of_lt h]
  rfl
theorem side0 {sd : Nat → Nat} {P : Nat} (hP : P ≤ 5) (hsd : ∀ p, p < P → sd p ≤ 1) : bAnd (bXor ((sdB sd P : Nat) : Int) (-1)) ((2 ^ P - 1 : Nat) : Int) = ((sideS sd P 0 : Nat) : Int) := by
  have h := sdB_lt sd P
  have h32 := p2_32 hP
  have e : sideS sd P 0 + sdB sd P = 2 ^ P - 1 := bitsP_not P (fun p hp => by
    have := hsd p hp
    rcases (show sd p = 0 ∨ sd p = 1 by omega) with q | q <;> simp [q])
  have key : ∀ P : Fin 6, ∀ a : Fin 32, a.val < 2 ^ P.val → bAnd (bXor (a.val : Int) (-1)) ((2 ^ P.val - 1 : Nat) : Int) = ((2 ^ P.val - 1 - a.val : Nat) : Int) := by decide +kernel
  have := key ⟨P, by omega⟩ ⟨sdB sd P, by omega⟩ h
  simp only at this
  rw [this]
  congr 1
  omega
/-- a hall in the class's memory -/
def CH (M : AM) (z : Int) (h : Hl) : Prop := M z 0 = h.lines ∧ M z 1 = h.must ∧ M z 2 = h.P ∧ M z 5 = ((bitsP (fun p => decide (h.rd p = 1)) h.P : Nat) : Int) ∧ (∀ p : Nat, p < h.P → M (z + 2) (p : Int) = h.wt p) ∧ CLaw M (z + 3) h.tN h.tC ∧ CLaw M (z + 5) h.cN h.cC
theorem CLaw.same {M N : AM} {z : Int} {n : Nat} {code : Nat → Int} {ps : List Int} (h : CLaw M z n code) (hs : Same ps M N) (h1 : z ∉ ps) (h2 : z + 1 ∉ ps) : CLaw N z n code :=
  ⟨by rw [hs z h1]; exact h.1, fun k hk => by rw [hs _ h2]; exact h.2 k hk⟩
theorem CH.same {M N : AM} {z : Int} {h : Hl} {ps : List Int} (hh : CH M z h) (hs : Same ps M N) (h0 : z ∉ ps) (h2 : z + 2 ∉ ps) (h3 : z + 3 ∉ ps) (h4 : z + 3 + 1 ∉ ps) (h5 : z + 5 ∉ ps) (h6 : z + 5 + 1 ∉ ps) : CH N z h := by
  obtain ⟨a, b, c, e, f, g, i⟩ := hh
  exact ⟨by rw [hs z h0]; exact a, by rw [hs z h0]; exact b, by rw [hs z h0]; exact c, by rw [hs z h0]; exact e, fun p hp => by rw [hs _ h2]; exact f p hp, g.same hs h3 h4, i.same hs h5 h6⟩
section CA
variable {G : AG} {d : Nat} {M : AM}
theorem c_H_clamped {v : Int} (hv : inI v) : MS G d mi_H_clamped [vl v, vi 0, vi 4] M (fun r M' => r = some (vi (clp v)) ∧ M' = M) := by
  obtain ⟨v1, v2⟩ := hv
  refine MS.run ck_H_clamped [some (vl v), none, some (vi 0), some (vi 4)] [] 10 fun _ _ => ?_
  simp only [wR, wB, wE0, wE1, wE2, wE3, g0, gS, s10, s11, s1S, s20, s21, s2S, kl0, kl1, kl2, kl3, sp0, sp1, sp2, sp3, cn1, cn2, cn3, cn4, cn5, cn6, jJa, lk0, lk1, jmS, jmN, s4_0, s4_1, s4_2, s4_3, s4_4, sw0, sw1, cKs, cKn, true_and, and_true, List.map_cons, List.map_nil, Nat.reduceAdd, Nat.zero_add, Int.reduceAdd, Nat.reduceEqDiff, reduceIte, Classical.not_not, b_H_clamped, cmp3_lt, cmp3_le, cmp3_ge]
  unfold clp
  (repeat' (first | omega | exact ⟨by omega, by omega⟩ | (with_reducible exact Or.inr trivial) | (with_reducible exact Or.inl trivial) | (with_reducible assumption) | (with_reducible exact Same.refl) | (with_reducible rfl) | (with_reducible refine And.intro ?_ ?_) | (with_reducible intro _)))
  · rw [if_neg (by omega), if_neg (by omega), Int.toNat_of_nonneg (by omega)]
  · rw [if_neg (by omega), if_pos (by omega)]; rfl
  · rw [if_pos (by omega)]; rfl
theorem c_Ha_everyone {z : Int} {P : Nat} (hz : isO z 2) (hP : M z 2 = P) (hP5 : P ≤ 5) : MS G d mi_Ha_everyone [vr z] M (fun r M' => r = some (vi ((2 ^ P - 1 : Nat) : Int)) ∧ M' = M) := by
  have h32 := p2_32 hP5
  have h0 : 0 < 2 ^ P := Nat.pow_pos (by omega)
  have e : bShl 1 (P : Int) = ((2 ^ P : Nat) : Int) := by
    rw [show (1 : Int) = ((1 : Nat) : Int) from rfl, bShl_n (by omega) (by omega), Nat.one_mul]
  refine MS.run ck_Ha_everyone [some (vr z)] [] 10 fun _ _ => ?_
  simp only [wR, wB, wE0, wE1, wE2, wE3, g0, gS, s10, s11, s1S, s20, s21, s2S, kl0, kl1, kl2, kl3, sp0, sp1, sp2, sp3, cn1, cn2, cn3, cn4, cn5, cn6, jJa, lk0, lk1, jmS, jmN, s4_0, s4_1, s4_2, s4_3, s4_4, sw0, sw1, cKs, cKn, true_and, and_true, List.map_cons, List.map_nil, Nat.reduceAdd, Nat.zero_add, Int.reduceAdd, Nat.reduceEqDiff, reduceIte, Classical.not_not, b_Ha_everyone, hz, hP, e]
  rw [show ((2 ^ P : Nat) : Int) - 1 = ((2 ^ P - 1 : Nat) : Int) by omega]
  (repeat' (first | omega | exact ⟨by omega, by omega⟩ | (with_reducible exact Or.inr trivial) | (with_reducible exact Or.inl trivial) | (with_reducible assumption) | (with_reducible exact Same.refl) | (with_reducible rfl) | (with_reducible refine And.intro ?_ ?_) | (with_reducible intro _)))
theorem c_Ha_ofSide {z : Int} {P side : Nat} {sd : Nat → Nat} (hd : 1 ≤ d) (hz : isO z 2) (hP : M z 2 = P) (hP5 : P ≤ 5) (hs : side ≤ 1) (hsd : ∀ p, p < P → sd p ≤ 1) : MS G d mi_Ha_ofSide [vr z, vi (sdB sd P), vi side] M (fun r M' => r = some (vi (sideS sd P side)) ∧ M' = M) := by
  refine MS.run ck_Ha_ofSide [some (vr z), some (vi (sdB sd P)), some (vi side)] [] 10 fun _ _ => ?_
  simp only [wR, wB, wE0, wE1, wE2, wE3, g0, gS, s10, s11, s1S, s20, s21, s2S, kl0, kl1, kl2, kl3, sp0, sp1, sp2, sp3, cn1, cn2, cn3, cn4, cn5, cn6, jJa, lk0, lk1, jmS, jmN, s4_0, s4_1, s4_2, s4_3, s4_4, sw0, sw1, cKs, cKn, true_and, and_true, List.map_cons, List.map_nil, Nat.reduceAdd, Nat.zero_add, Int.reduceAdd, Nat.reduceEqDiff, reduceIte, Classical.not_not, b_Ha_ofSide, hz]
  (repeat' (first | omega | exact ⟨by omega, by omega⟩ | (with_reducible exact Or.inr trivial) | (with_reducible exact Or.inl trivial) | (with_reducible assumption) | (with_reducible exact Same.refl) | (with_reducible rfl) | (with_reducible refine And.intro ?_ ?_) | (with_reducible intro _)))
  · refine MS.to (c_Ha_everyone hz hP hP5) fun _ => ?_
    simp only [wR, wB, wE0, wE1, wE2, wE3, g0, gS, s10, s11, s1S, s20, s21, s2S, kl0, kl1, kl2, kl3, sp0, sp1, sp2, sp3, cn1, cn2, cn3, cn4, cn5, cn6, jJa, lk0, lk1, jmS, jmN, s4_0, s4_1, s4_2, s4_3, s4_4, sw0, sw1, cKs, cKn, true_and, and_true, List.map_cons, List.map_nil, Nat.reduceAdd, Nat.zero_add, Int.reduceAdd, Nat.reduceEqDiff, reduceIte, Classical.not_not, b_Ha_ofSide, hz]
    rw [side0 hP5 hsd, show side = 0 by omega]
  · refine MS.to (c_Ha_everyone hz hP hP5) fun _ => ?_
    simp only [wR, wB, wE0, wE1, wE2, wE3, g0, gS, s10, s11, s1S, s20, s21, s2S, kl0, kl1, kl2, kl3, sp0, sp1, sp2, sp3, cn1, cn2, cn3, cn4, cn5, cn6, jJa, lk0, lk1, jmS, jmN, s4_0, s4_1, s4_2, s4_3, s4_4, sw0, sw1, cKs, cKn, true_and, and_true, List.map_cons, List.map_nil, Nat.reduceAdd, Nat.zero_add, Int.reduceAdd, Nat.reduceEqDiff, reduceIte, Classical.not_not, b_Ha_ofSide, hz]
    rw [side1 hP5, show side = 1 by omega]
theorem c_Ha_weightOf {z : Int} {p : Nat} (hz : isO z 2) (hp : p < 5) : MS G d mi_Ha_weightOf [vr z, vi p] M (fun r M' => r = some (vi (M (z + 2) p)) ∧ M' = M) := by
  have h2 := (sh_Ha hz).2.1
  refine MS.run ck_Ha_weightOf [some (vr z), some (vi p)] [] 10 fun _ _ => ?_
  simp only [wR, wB, wE0, wE1, wE2, wE3, g0, gS, s10, s11, s1S, s20, s21, s2S, kl0, kl1, kl2, kl3, sp0, sp1, sp2, sp3, cn1, cn2, cn3, cn4, cn5, cn6, jJa, lk0, lk1, jmS, jmN, s4_0, s4_1, s4_2, s4_3, s4_4, sw0, sw1, cKs, cKn, true_and, and_true, List.map_cons, List.map_nil, Nat.reduceAdd, Nat.zero_add, Int.reduceAdd, Nat.reduceEqDiff, reduceIte, Classical.not_not, b_Ha_weightOf, hz, h2]
  (repeat' (first | omega | exact ⟨by omega, by omega⟩ | (with_reducible exact Or.inr trivial) | (with_reducible exact Or.inl trivial) | (with_reducible assumption) | (with_reducible exact Same.refl) | (with_reducible rfl) | (with_reducible refine And.intro ?_ ?_) | (with_reducible intro _)))
theorem bitf {f : Nat → Bool} {P p : Nat} (hP : P ≤ 5) (hp : p < P) : bAnd (bShr ((bitsP f P : Nat) : Int) (p : Int)) 1 = if f p = true then 1 else 0 := by
  rw [bit_n (Nat.lt_of_lt_of_le (bitsP32 hP) (by omega)) (by omega), bitsP_bit]
  by_cases h : f p = true
  · rw [if_pos ⟨hp, h⟩, if_pos h]; rfl
  · rw [if_neg (fun q => h q.2), if_neg h]; rfl
theorem bit1 {g : Nat → Nat} {P p : Nat} (hP : P ≤ 5) (hp : p < P) (h : g p ≤ 1) : bAnd (bShr ((bitsP (fun p => decide (g p = 1)) P : Nat) : Int) (p : Int)) 1 = (g p : Int) := by
  rw [bitf hP hp]
  rcases (show g p = 0 ∨ g p = 1 by omega) with q | q <;> simp [q]
theorem c_Ha_tell {z : Int} {h : Hl} {sd : Nat → Nat} {p str cold : Nat} (hd : 1 ≤ d) (hz : isO z 2) (ok : HlOK h) (hC : CH M z h) (hp : p < h.P) (hsd : ∀ p, p < h.P → sd p ≤ 1) : MS G d mi_Ha_tell [vr z, vi p, vi str, vi (sdB sd h.P), vi cold] M (fun r M' => r = none ∧ Same [z + 7] M M' ∧ (∀ j : Int, 0 ≤ j → j < 6 → M' (z + 7) j = wvC h sd cold p str j) ∧ ∀ j : Int, 6 ≤ j → M' (z + 7) j = M (z + 7) j) := by
  have hP5 := ok.1
  have h7 := (sh_Ha hz).2.2.2.2.1
  have e1 : bAnd (bShr ((sdB sd h.P : Nat) : Int) (p : Int)) 1 = sd p := bit1 hP5 hp (hsd p hp)
  have e2 := bit1 (g := h.rd) hP5 hp (ok.2.2.1 p).2
  have hz7 := isO_arT hz h7.1
  refine MS.run ck_Ha_tell [some (vr z), some (vi p), some (vi str), some (vi (sdB sd h.P)), some (vi cold)] [] 10 fun _ _ => ?_
  simp only [wR, wB, wE0, wE1, wE2, wE3, g0, gS, s10, s11, s1S, s20, s21, s2S, kl0, kl1, kl2, kl3, sp0, sp1, sp2, sp3, cn1, cn2, cn3, cn4, cn5, cn6, jJa, lk0, lk1, jmS, jmN, s4_0, s4_1, s4_2, s4_3, s4_4, sw0, sw1, cKs, cKn, true_and, and_true, List.map_cons, List.map_nil, Nat.reduceAdd, Nat.zero_add, Int.reduceAdd, Nat.reduceEqDiff, reduceIte, Classical.not_not, b_Ha_tell, hz, h7, e1]
  (repeat' (first | omega | exact ⟨by omega, by omega⟩ | (with_reducible exact Or.inr trivial) | (with_reducible exact Or.inl trivial) | (with_reducible assumption) | (with_reducible exact Same.refl) | (with_reducible rfl) | (with_reducible refine And.intro ?_ ?_) | (with_reducible intro _)))
  refine MS.to (c_Ha_weightOf hz (by omega)) fun _ => ?_
  simp only [wR, wB, wE0, wE1, wE2, wE3, g0, gS, s10, s11, s1S, s20, s21, s2S, kl0, kl1, kl2, kl3, sp0, sp1, sp2, sp3, cn1, cn2, cn3, cn4, cn5, cn6, jJa, lk0, lk1, jmS, jmN, s4_0, s4_1, s4_2, s4_3, s4_4, sw0, sw1, cKs, cKn, true_and, and_true, List.map_cons, List.map_nil, Nat.reduceAdd, Nat.zero_add, Int.reduceAdd, Nat.reduceEqDiff, reduceIte, Classical.not_not, b_Ha_tell, hz, h7, e1]
  rw [up_ne1 (show z + 2 ≠ z + 7 by omega), up_ne1 (show z + 2 ≠ z + 7 by omega), up_ne1 (show z + 2 ≠ z + 7 by omega), hC.2.2.2.2.1 p hp]
  rw [up_ne1 hz7, up_ne1 hz7, up_ne1 hz7, up_ne1 hz7, hC.2.2.2.1, e2]
  (repeat' (first | omega | exact ⟨by omega, by omega⟩ | (with_reducible exact Or.inr trivial) | (with_reducible exact Or.inl trivial) | (with_reducible assumption) | (with_reducible exact Same.refl) | (with_reducible rfl) | (with_reducible refine And.intro ?_ ?_) | (with_reducible intro _)))
  · exact ((((((Same.refl.up (by simp)).up (by simp)).up (by simp)).up (by simp)).up (by simp)).up (by simp))
  · rename_i j a b
    unfold wvC wv up
    rcases (show j = 0 ∨ j = 1 ∨ j = 2 ∨ j = 3 ∨ j = 4 ∨ j = 5 by omega) with rfl | rfl | rfl | rfl | rfl | rfl <;> simp
  · unfold up
    repeat rw [if_neg (by omega)]
theorem pop_mates {a b p : Nat} (ha : a < 32) (hb : b < 32) (hp : p < 5) (hbp : b / 2 ^ p % 2 = 1) : (pop (a &&& b &&& (31 ^^^ 2 ^ p)) : Int) = (pop (a &&& b) : Int) - ((a / 2 ^ p % 2 : Nat) : Int) := by
  have key : ∀ p : Fin 5, ∀ a b : Fin 32, b.val / 2 ^ p.val % 2 = 1 → (pop (a.val &&& b.val &&& (31 ^^^ 2 ^ p.val)) : Int) = (pop (a.val &&& b.val) : Int) - ((a.val / 2 ^ p.val % 2 : Nat) : Int) := by decide +kernel
  exact key ⟨p, hp⟩ ⟨a, ha⟩ ⟨b, hb⟩ hbp
theorem pop_others {a b : Nat} (ha : a < 32) (hb : b < 32) : (pop (a &&& (31 ^^^ b)) : Int) = (pop a : Int) - (pop (a &&& b) : Int) := by
  have key : ∀ a b : Fin 32, (pop (a.val &&& (31 ^^^ b.val)) : Int) = (pop a.val : Int) - (pop (a.val &&& b.val) : Int) := by decide +kernel
  exact key ⟨a, ha⟩ ⟨b, hb⟩
theorem wvT_C {h : Hl} {sd : Nat → Nat} {cold set p str : Nat} {j : Int} (h0 : 0 ≤ j) (h6 : j < 6) : wvT h sd cold set p str j = wvC h sd cold p str j := by
  unfold wvT wvC wv
  repeat' split
  all_goals first | rfl | omega
set_option maxRecDepth 20000 in
theorem c_Ha_tiredTo {z : Int} {h : Hl} {sd : Nat → Nat} {p str cold set : Nat} (hd : 3 ≤ d) (hz : isO z 2) (ok : HlOK h) (hC : CH M z h) (hp : p < h.P) (hsd : ∀ p, p < h.P → sd p ≤ 1) (hstr : str ≤ 4) (hc : cold ≤ 9) (hset : set < 32) :
    MS G d mi_Ha_tiredTo [vr z, vi p, vi str, vi (sdB sd h.P), vi cold, vi set] M (fun r M' => r = some (vi (tired h sd cold set p str)) ∧ Same [z + 7, z + 8] M M') := by
  have hP5 := ok.1
  obtain ⟨s1, s2, s3, s5, s7, s8⟩ := sh_Ha hz
  have hb2 : set / 2 ^ p % 2 < 2 := Nat.mod_lt _ (by omega)
  have eb := bit_n (show set < 2 ^ 31 by omega) (show p < 32 by omega)
  have er := bit1 (g := h.rd) hP5 hp (ok.2.2.1 p).2
  have es : bAnd (bShr ((sdB sd h.P : Nat) : Int) (p : Int)) 1 = sd p := bit1 hP5 hp (hsd p hp)
  have hr := (ok.2.2.1 p).2
  have hz7 := isO_arT hz s7.1
  have hz8 := isO_arT hz s8.1
  refine MS.by ck_Ha_tiredTo [some (vr z), some (vi p), some (vi str), some (vi (sdB sd h.P)), some (vi cold), some (vi set), none, none, none] fun _ _ => ?_
  generalize hQ : (fun (r : Option AV) (M' : AM) => r = some (vi (tired h sd cold set p str)) ∧ Same [z + 7, z + 8] M M') = Q
  have a63 : ∀ pl : Int, h.tN = 0 → -1 ≤ pl → pl ≤ 5 → (h.rd p = 1 ∨ clp pl = tired h sd cold set p str) → AW G d mi_Ha_tiredTo Q 63 [some (vr z), some (vi p), some (vi str), some (vi (sdB sd h.P)), some (vi cold), some (vi set), some (vi ((set / 2 ^ p % 2 : Nat) : Int)), some (vi (h.rd p)), none] [vi pl] M := by
    as_aux_lemma =>
      intro pl h0 h1 h2 e
      refine AW.run ck_Ha_tiredTo [] 10 63 ?_
      simp only [wR, wB, wE0, wE1, wE2, wE3, g0, gS, s10, s11, s1S, s20, s21, s2S, kl0, kl1, kl2, kl3, sp0, sp1, sp2, sp3, cn1, cn2, cn3, cn4, cn5, cn6, jJa, lk0, lk1, jmS, jmN, s4_0, s4_1, s4_2, s4_3, s4_4, sw0, sw1, cKs, cKn, true_and, and_true, List.map_cons, List.map_nil, Nat.reduceAdd, Nat.zero_add, Int.reduceAdd, Nat.reduceEqDiff, reduceIte, Classical.not_not, b_Ha_tiredTo, hz]
      (repeat' (first | omega | exact ⟨by omega, by omega⟩ | (with_reducible exact Or.inr trivial) | (with_reducible exact Or.inl trivial) | (with_reducible assumption) | (with_reducible exact Same.refl) | (with_reducible rfl) | (with_reducible refine And.intro ?_ ?_) | (with_reducible intro _)))
      · refine MS.to (c_H_clamped ⟨by omega, by omega⟩) fun _ => ?_
        simp only [wR, wB, wE0, wE1, wE2, wE3, g0, gS, s10, s11, s1S, s20, s21, s2S, kl0, kl1, kl2, kl3, sp0, sp1, sp2, sp3, cn1, cn2, cn3, cn4, cn5, cn6, jJa, lk0, lk1, jmS, jmN, s4_0, s4_1, s4_2, s4_3, s4_4, sw0, sw1, cKs, cKn, true_and, and_true, List.map_cons, List.map_nil, Nat.reduceAdd, Nat.zero_add, Int.reduceAdd, Nat.reduceEqDiff, reduceIte, Classical.not_not, b_Ha_tiredTo, hz]
        rw [e.resolve_left (by omega)]
        subst hQ
        (repeat' (first | omega | exact ⟨by omega, by omega⟩ | (with_reducible exact Or.inr trivial) | (with_reducible exact Or.inl trivial) | (with_reducible assumption) | (with_reducible exact Same.refl) | (with_reducible rfl) | (with_reducible refine And.intro ?_ ?_) | (with_reducible intro _)))
      · subst hQ
        refine ⟨?_, Same.refl⟩
        unfold tired
        rw [if_pos h0, if_pos (by omega)]
        unfold clp
        rw [if_neg (by omega), if_neg (by omega)]
        rfl
  have a46 : h.tN = 0 → AW G d mi_Ha_tiredTo Q 46 [some (vr z), some (vi p), some (vi str), some (vi (sdB sd h.P)), some (vi cold), some (vi set), some (vi ((set / 2 ^ p % 2 : Nat) : Int)), none, none] [vi (h.rd p)] M := by
    as_aux_lemma =>
      intro h0
      refine AW.run ck_Ha_tiredTo [63] 10 46 ?_
      simp only [wR, wB, wE0, wE1, wE2, wE3, g0, gS, s10, s11, s1S, s20, s21, s2S, kl0, kl1, kl2, kl3, sp0, sp1, sp2, sp3, cn1, cn2, cn3, cn4, cn5, cn6, jJa, lk0, lk1, jmS, jmN, s4_0, s4_1, s4_2, s4_3, s4_4, sw0, sw1, cKs, cKn, true_and, and_true, List.map_cons, List.map_nil, Nat.reduceAdd, Nat.zero_add, Int.reduceAdd, Nat.reduceEqDiff, reduceIte, Classical.not_not, b_Ha_tiredTo, hz]
      (repeat' (first | omega | exact ⟨by omega, by omega⟩ | (with_reducible exact Or.inr trivial) | (with_reducible exact Or.inl trivial) | (with_reducible assumption) | (with_reducible exact Same.refl) | (with_reducible rfl) | (with_reducible refine And.intro ?_ ?_) | (with_reducible intro _)))
      · refine a63 _ h0 (by omega) (by omega) ?_
        unfold tired
        rw [if_pos h0]
        by_cases q : h.rd p = 1
        · exact Or.inl q
        · rw [if_neg q, if_neg (by omega)]; exact Or.inr rfl
      · refine a63 _ h0 (by omega) (by omega) ?_
        unfold tired
        rw [if_pos h0]
        by_cases q : h.rd p = 1
        · exact Or.inl q
        · rw [if_neg q, if_pos (by omega)]; exact Or.inr rfl
  have a83 : h.tN ≠ 0 → AW G d mi_Ha_tiredTo Q 83 [some (vr z), some (vi p), some (vi str), some (vi (sdB sd h.P)), some (vi cold), some (vi set), some (vi ((set / 2 ^ p % 2 : Nat) : Int)), none, none] [] M := by
    as_aux_lemma =>
      intro h0
      refine AW.run ck_Ha_tiredTo [] 10 83 ?_
      simp only [wR, wB, wE0, wE1, wE2, wE3, g0, gS, s10, s11, s1S, s20, s21, s2S, kl0, kl1, kl2, kl3, sp0, sp1, sp2, sp3, cn1, cn2, cn3, cn4, cn5, cn6, jJa, lk0, lk1, jmS, jmN, s4_0, s4_1, s4_2, s4_3, s4_4, sw0, sw1, cKs, cKn, true_and, and_true, List.map_cons, List.map_nil, Nat.reduceAdd, Nat.zero_add, Int.reduceAdd, Nat.reduceEqDiff, reduceIte, Classical.not_not, b_Ha_tiredTo, hz]
      (repeat' (first | omega | exact ⟨by omega, by omega⟩ | (with_reducible exact Or.inr trivial) | (with_reducible exact Or.inl trivial) | (with_reducible assumption) | (with_reducible exact Same.refl) | (with_reducible rfl) | (with_reducible refine And.intro ?_ ?_) | (with_reducible intro _)))
      refine (c_Ha_tell (cold := cold) (by omega) hz ok hC hp hsd).mono ?_
      rintro r M1 okM1 ⟨rfl, t1, t2, t3⟩
      have hC1 := hC.same t1 (by (first | decide | (simp only [List.mem_cons, List.not_mem_nil, or_false, not_or, not_false_eq_true, and_true]; omega) | (simp [List.mem_cons]; done))) (by (first | decide | (simp only [List.mem_cons, List.not_mem_nil, or_false, not_or, not_false_eq_true, and_true]; omega) | (simp [List.mem_cons]; done))) (by (first | decide | (simp only [List.mem_cons, List.not_mem_nil, or_false, not_or, not_false_eq_true, and_true]; omega) | (simp [List.mem_cons]; done))) (by (first | decide | (simp only [List.mem_cons, List.not_mem_nil, or_false, not_or, not_false_eq_true, and_true]; omega) | (simp [List.mem_cons]; done))) (by (first | decide | (simp only [List.mem_cons, List.not_mem_nil, or_false, not_or, not_false_eq_true, and_true]; omega) | (simp [List.mem_cons]; done))) (by (first | decide | (simp only [List.mem_cons, List.not_mem_nil, or_false, not_or, not_false_eq_true, and_true]; omega) | (simp [List.mem_cons]; done)))
      simp only [wR, wB, wE0, wE1, wE2, wE3, g0, gS, s10, s11, s1S, s20, s21, s2S, kl0, kl1, kl2, kl3, sp0, sp1, sp2, sp3, cn1, cn2, cn3, cn4, cn5, cn6, jJa, lk0, lk1, jmS, jmN, s4_0, s4_1, s4_2, s4_3, s4_4, sw0, sw1, cKs, cKn, true_and, and_true, List.map_cons, List.map_nil, Nat.reduceAdd, Nat.zero_add, Int.reduceAdd, Nat.reduceEqDiff, reduceIte, Classical.not_not, b_Ha_tiredTo, hz, es]
      (repeat' (first | omega | exact ⟨by omega, by omega⟩ | (with_reducible exact Or.inr trivial) | (with_reducible exact Or.inl trivial) | (with_reducible assumption) | (with_reducible exact Same.refl) | (with_reducible rfl) | (with_reducible refine And.intro ?_ ?_) | (with_reducible intro _)))
      have hsp : sd p ≤ 1 := hsd p hp
      refine MS.to (c_Ha_ofSide (by omega) hz hC1.2.2.1 hP5 hsp hsd) fun _ => ?_
      have ho := sideS_lt (sd := sd) (k := sd p) hP5
      have hand : set &&& sideS sd h.P (sd p) < 32 := Nat.lt_of_le_of_lt Nat.and_le_left hset
      have e1 : bAnd (set : Int) ((sideS sd h.P (sd p) : Nat) : Int) = ((set &&& sideS sd h.P (sd p) : Nat) : Int) := bAnd_n (by omega)
      have h2p : 2 ^ p < 32 := Nat.pow_lt_pow_right (a := 2) (n := 5) (by omega) (by omega)
      have e2 : bShl 1 (p : Int) = ((2 ^ p : Nat) : Int) := by
        rw [show (1 : Int) = ((1 : Nat) : Int) from rfl, bShl_n (by omega) (by omega), Nat.one_mul]
      have eo : sideS sd h.P (sd p) / 2 ^ p % 2 = 1 := by
        unfold sideS
        rw [bitsP_bit, if_pos ⟨hp, by simp⟩]
      simp only [wR, wB, wE0, wE1, wE2, wE3, g0, gS, s10, s11, s1S, s20, s21, s2S, kl0, kl1, kl2, kl3, sp0, sp1, sp2, sp3, cn1, cn2, cn3, cn4, cn5, cn6, jJa, lk0, lk1, jmS, jmN, s4_0, s4_1, s4_2, s4_3, s4_4, sw0, sw1, cKs, cKn, true_and, and_true, List.map_cons, List.map_nil, Nat.reduceAdd, Nat.zero_add, Int.reduceAdd, Nat.reduceEqDiff, reduceIte, Classical.not_not, b_Ha_tiredTo, hz, s3, s7, es, e1, e2, bAndN_n hand h2p, bAndN_n hset ho]
      (repeat' (first | omega | exact ⟨by omega, by omega⟩ | (with_reducible exact Or.inr trivial) | (with_reducible exact Or.inl trivial) | (with_reducible assumption) | (with_reducible exact Same.refl) | (with_reducible rfl) | (with_reducible refine And.intro ?_ ?_) | (with_reducible intro _)))
      have a1 : set &&& sideS sd h.P (sd p) &&& (31 ^^^ 2 ^ p) < 32 := Nat.lt_of_le_of_lt Nat.and_le_left hand
      have a2 : set &&& (31 ^^^ sideS sd h.P (sd p)) < 32 := Nat.lt_of_le_of_lt Nat.and_le_left hset
      refine MS.to (c_JI_bitCount a1) fun _ => ?_
      as_aux_lemma =>
        simp only [wR, wB, wE0, wE1, wE2, wE3, g0, gS, s10, s11, s1S, s20, s21, s2S, kl0, kl1, kl2, kl3, sp0, sp1, sp2, sp3, cn1, cn2, cn3, cn4, cn5, cn6, jJa, lk0, lk1, jmS, jmN, s4_0, s4_1, s4_2, s4_3, s4_4, sw0, sw1, cKs, cKn, true_and, and_true, List.map_cons, List.map_nil, Nat.reduceAdd, Nat.zero_add, Int.reduceAdd, Nat.reduceEqDiff, reduceIte, Classical.not_not, b_Ha_tiredTo, hz, s3, s7, bAndN_n hset ho]
        (repeat' (first | omega | exact ⟨by omega, by omega⟩ | (with_reducible exact Or.inr trivial) | (with_reducible exact Or.inl trivial) | (with_reducible assumption) | (with_reducible exact Same.refl) | (with_reducible rfl) | (with_reducible refine And.intro ?_ ?_) | (with_reducible intro _)))
        refine MS.to (c_JI_bitCount a2) fun _ => ?_
        simp only [wR, wB, wE0, wE1, wE2, wE3, g0, gS, s10, s11, s1S, s20, s21, s2S, kl0, kl1, kl2, kl3, sp0, sp1, sp2, sp3, cn1, cn2, cn3, cn4, cn5, cn6, jJa, lk0, lk1, jmS, jmN, s4_0, s4_1, s4_2, s4_3, s4_4, sw0, sw1, cKs, cKn, true_and, and_true, List.map_cons, List.map_nil, Nat.reduceAdd, Nat.zero_add, Int.reduceAdd, Nat.reduceEqDiff, reduceIte, Classical.not_not, b_Ha_tiredTo, hz, s3, s7, pop_mates hset ho (show p < 5 by omega) eo, pop_others hset ho]
        (repeat' (first | omega | exact ⟨by omega, by omega⟩ | (with_reducible exact Or.inr trivial) | (with_reducible exact Or.inl trivial) | (with_reducible assumption) | (with_reducible exact Same.refl) | (with_reducible rfl) | (with_reducible refine And.intro ?_ ?_) | (with_reducible intro _)))
        generalize hN : up (up (up M1 (z + 7) 6 _) (z + 7) 7 _) (z + 7) 8 _ = N
        have hsame : Same [z + 7] M1 N := by subst hN; exact (((Same.refl.up (by simp)).up (by simp)).up (by simp))
        have hC2 := hC1.same hsame (by (first | decide | (simp only [List.mem_cons, List.not_mem_nil, or_false, not_or, not_false_eq_true, and_true]; omega) | (simp [List.mem_cons]; done))) (by (first | decide | (simp only [List.mem_cons, List.not_mem_nil, or_false, not_or, not_false_eq_true, and_true]; omega) | (simp [List.mem_cons]; done))) (by (first | decide | (simp only [List.mem_cons, List.not_mem_nil, or_false, not_or, not_false_eq_true, and_true]; omega) | (simp [List.mem_cons]; done))) (by (first | decide | (simp only [List.mem_cons, List.not_mem_nil, or_false, not_or, not_false_eq_true, and_true]; omega) | (simp [List.mem_cons]; done))) (by (first | decide | (simp only [List.mem_cons, List.not_mem_nil, or_false, not_or, not_false_eq_true, and_true]; omega) | (simp [List.mem_cons]; done))) (by (first | decide | (simp only [List.mem_cons, List.not_mem_nil, or_false, not_or, not_false_eq_true, and_true]; omega) | (simp [List.mem_cons]; done)))
        have hnum := wvT_num (h := h) (sd := sd) (cold := cold) (set := set) (p := p) (str := str) ok hsp hc hset (by omega) hstr
        refine (c_La_worked (w := wvT h sd cold set p str) (by omega) s3 s7.1 s7.2 s8.1 s8.2 (by omega) (by omega) ok.2.2.2.2.2.2.1 hC2.2.2.2.2.2.1 (ok.2.2.2.1 h0) ?_ hnum).mono ?_
        · intro k hk a b
          rcases Int.lt_or_le (h.tC k) 1006 with q | q
          · rw [wvT_C (by omega) (by omega), ← t2 _ (by omega) (by omega)]
            subst hN
            rw [up_ne2 (by omega), up_ne2 (by omega), up_ne2 (by omega)]
          · subst hN
            unfold wvT wv up
            rcases (show h.tC k = 1006 ∨ h.tC k = 1007 ∨ h.tC k = 1008 by omega) with q | q | q <;> rw [q] <;> simp
        · rintro r M' okM' ⟨⟨x, rfl, hx⟩, hs2⟩
          have hkd := vals_kd hnum h.tN _ (ok.2.2.2.1 h0).2
          rw [hx] at hkd
          have hxn : numV x := hkd.1
          obtain ⟨x1, x2⟩ := hxn
          simp only [wR, wB, wE0, wE1, wE2, wE3, g0, gS, s10, s11, s1S, s20, s21, s2S, kl0, kl1, kl2, kl3, sp0, sp1, sp2, sp3, cn1, cn2, cn3, cn4, cn5, cn6, jJa, lk0, lk1, jmS, jmN, s4_0, s4_1, s4_2, s4_3, s4_4, sw0, sw1, cKs, cKn, true_and, and_true, List.map_cons, List.map_nil, Nat.reduceAdd, Nat.zero_add, Int.reduceAdd, Nat.reduceEqDiff, reduceIte, Classical.not_not, b_Ha_tiredTo, hz]
          (repeat' (first | omega | exact ⟨by omega, by omega⟩ | (with_reducible exact Or.inr trivial) | (with_reducible exact Or.inl trivial) | (with_reducible assumption) | (with_reducible exact Same.refl) | (with_reducible rfl) | (with_reducible refine And.intro ?_ ?_) | (with_reducible intro _)))
          refine MS.to (c_H_clamped ⟨by omega, by omega⟩) fun _ => ?_
          simp only [wR, wB, wE0, wE1, wE2, wE3, g0, gS, s10, s11, s1S, s20, s21, s2S, kl0, kl1, kl2, kl3, sp0, sp1, sp2, sp3, cn1, cn2, cn3, cn4, cn5, cn6, jJa, lk0, lk1, jmS, jmN, s4_0, s4_1, s4_2, s4_3, s4_4, sw0, sw1, cKs, cKn, true_and, and_true, List.map_cons, List.map_nil, Nat.reduceAdd, Nat.zero_add, Int.reduceAdd, Nat.reduceEqDiff, reduceIte, Classical.not_not, b_Ha_tiredTo, hz]
          subst hQ
          refine ⟨?_, ((t1.trans hsame).mono (by simp)).trans (hs2.mono (by simp))⟩
          unfold tired
          rw [if_neg h0, hx]
          rfl
  have a11 : AW G d mi_Ha_tiredTo Q 11 [some (vr z), some (vi p), some (vi str), some (vi (sdB sd h.P)), some (vi cold), some (vi set), none, none, none] [] M := by
    as_aux_lemma =>
      refine AW.run ck_Ha_tiredTo [46, 83] 10 11 ?_
      simp only [wR, wB, wE0, wE1, wE2, wE3, g0, gS, s10, s11, s1S, s20, s21, s2S, kl0, kl1, kl2, kl3, sp0, sp1, sp2, sp3, cn1, cn2, cn3, cn4, cn5, cn6, jJa, lk0, lk1, jmS, jmN, s4_0, s4_1, s4_2, s4_3, s4_4, sw0, sw1, cKs, cKn, true_and, and_true, List.map_cons, List.map_nil, Nat.reduceAdd, Nat.zero_add, Int.reduceAdd, Nat.reduceEqDiff, reduceIte, Classical.not_not, b_Ha_tiredTo, hz, s3, eb, hC.2.2.2.1, er, hC.2.2.2.2.2.1.1]
      (repeat' (first | omega | exact ⟨by omega, by omega⟩ | (with_reducible exact Or.inr trivial) | (with_reducible exact Or.inl trivial) | (with_reducible assumption) | (with_reducible exact Same.refl) | (with_reducible rfl) | (with_reducible refine And.intro ?_ ?_) | (with_reducible intro _)))
      · exact a83 (by omega)
      · have := a46 (by omega)
        rw [show ((h.rd p : Nat) : Int) = 0 by omega] at this
        exact this
      · have := a46 (by omega)
        rw [show ((h.rd p : Nat) : Int) = 1 by omega] at this
        exact this
  as_aux_lemma =>
    refine AW.run ck_Ha_tiredTo [11] 10 0 ?_
    simp only [wR, wB, wE0, wE1, wE2, wE3, g0, gS, s10, s11, s1S, s20, s21, s2S, kl0, kl1, kl2, kl3, sp0, sp1, sp2, sp3, cn1, cn2, cn3, cn4, cn5, cn6, jJa, lk0, lk1, jmS, jmN, s4_0, s4_1, s4_2, s4_3, s4_4, sw0, sw1, cKs, cKn, true_and, and_true, List.map_cons, List.map_nil, Nat.reduceAdd, Nat.zero_add, Int.reduceAdd, Nat.reduceEqDiff, reduceIte, Classical.not_not, b_Ha_tiredTo]
    (repeat' (first | omega | exact ⟨by omega, by omega⟩ | (with_reducible exact Or.inr trivial) | (with_reducible exact Or.inl trivial) | (with_reducible assumption) | (with_reducible exact Same.refl) | (with_reducible rfl) | (with_reducible refine And.intro ?_ ?_) | (with_reducible intro _)))
end CA
