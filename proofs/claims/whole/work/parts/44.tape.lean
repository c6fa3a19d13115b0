/-! the tape -/
def bytN (v : Int) (j : Nat) : Nat := (bAnd (bShr v (24 - 8 * (j : Int))) 255).toNat
theorem bAnd255 (x : Int) : ∃ n : Nat, bAnd x 255 = n ∧ n < 256 ∧ (i3 x).toBitVec.toNat % 256 = n := by
  have h := bAnd_mod (x := x) (m := 255) (k := 8) rfl (by omega)
  refine ⟨(i3 x).toBitVec.toNat % 2 ^ 8, h, Nat.mod_lt _ (by omega), rfl⟩
theorem w8_byte (x : Int) : w8 x = sgn (bAnd x 255).toNat := by
  obtain ⟨n, h1, h2, h3⟩ := bAnd255 x
  rw [h1, Int.toNat_natCast]
  unfold w8 sgn
  rw [Int8.toInt_toInt32, Int32.toInt_toInt8]
  have h4 : (i3 x).toBitVec.toNat < 2 ^ 32 := (i3 x).toBitVec.isLt
  have h5 : (i3 x).toInt = if 2 * (i3 x).toBitVec.toNat < 2 ^ 32 then ((i3 x).toBitVec.toNat : Int) else ((i3 x).toBitVec.toNat : Int) - ((2 ^ 32 : Nat) : Int) := BitVec.toInt_eq_toNat_cond _
  have h6 : (i3 x).toInt % 256 = n := by
    rw [h5]
    split <;> omega
  unfold Int.bmod
  simp only [show ((2 ^ 8 : Nat) : Int) = 256 from rfl, h6]
  (repeat' split) <;> omega
theorem sgn_byte (v : Int) (j : Nat) : w8 (bShr v (24 - 8 * (j : Int))) = sgn (bytN v j) := w8_byte _
theorem bytN_le (v : Int) (j : Nat) : bytN v j ≤ 255 := by
  unfold bytN
  obtain ⟨n, h1, h2, h3⟩ := bAnd255 (bShr v (24 - 8 * (j : Int)))
  rw [h1]
  omega
theorem bytN_and (v : Int) (j : Nat) : bAnd (bShr v (24 - 8 * (j : Int))) 255 = (bytN v j : Int) := by
  unfold bytN
  obtain ⟨n, h1, h2, h3⟩ := bAnd255 (bShr v (24 - 8 * (j : Int)))
  rw [h1]
  omega
theorem sgn_in {b : Nat} (h : b ≤ 255) : -128 ≤ sgn b ∧ sgn b ≤ 127 := by
  unfold sgn
  split <;> omega
def TapeOK (M : AM) (n : Nat) (t : Nat → Nat) : Prop := M 0 1 = n ∧ ∀ k : Nat, k < n → M 1 k = sgn (t k)
def TFr (M N : AM) : Prop := (∀ x : Int, x ≠ 0 → x ≠ 1 → N x = M x) ∧ ∀ y : Int, y ≠ 1 → N 0 y = M 0 y
theorem TFr.trans {M N K : AM} (h : TFr M N) (h2 : TFr N K) : TFr M K := ⟨fun x a b => (h2.1 x a b).trans (h.1 x a b), fun y hy => (h2.2 y hy).trans (h.2 y hy)⟩
def fed (n : Nat) (t : Nat → Nat) (v : Int) : Nat → Nat := fun k => if k < n then t k else bytN v (k - n)
section TA
variable {G : AG} {d : Nat} {M : AM}
theorem c_H_tapeInt {v : Int} {n : Nat} {t : Nat → Nat} (ht : TapeOK M n t) (hn : n + 4 ≤ 900) : MS G d mi_H_tapeInt [vr 0, vi v] M (fun r M' => r = none ∧ TapeOK M' (n + 4) (fed n t v) ∧ TFr M M') := by
  refine MS.by ck_H_tapeInt [some (vr 0), some (vi v), none] fun _ _ => ?_
  generalize hQ : (fun (r : Option AV) (M' : AM) => r = none ∧ TapeOK M' (n + 4) (fed n t v) ∧ TFr M M') = Q
  have loop : ∀ (r j : Nat) (N : AM), j + r = 4 → TapeOK N (n + j) (fed n t v) → TFr M N → AW G d mi_H_tapeInt Q 3 [some (vr 0), some (vi v), some (vi (24 - 8 * (j : Int)))] [] N := by
    intro r
    induction r with
    | zero =>
      intro j N hj hN hf
      obtain rfl : j = 4 := by omega
      refine AW.run ck_H_tapeInt [3] 10 3 ?_
      simp only [wR, wB, wE0, wE1, wE2, wE3, g0, gS, s10, s11, s1S, s20, s21, s2S, kl0, kl1, kl2, kl3, sp0, sp1, sp2, sp3, cn1, cn2, cn3, cn4, cn5, cn6, jJa, lk0, lk1, jmS, jmN, s4_0, s4_1, s4_2, s4_3, s4_4, sw0, sw1, cKs, cKn, true_and, and_true, List.map_cons, List.map_nil, Nat.reduceAdd, Nat.zero_add, Int.reduceAdd, Nat.reduceEqDiff, reduceIte, Classical.not_not, b_H_tapeInt, shH]
      subst hQ
      (repeat' (first | omega | exact ⟨by omega, by omega⟩ | (with_reducible exact Or.inr trivial) | (with_reducible exact Or.inl trivial) | (with_reducible assumption) | (with_reducible exact Same.refl) | (with_reducible rfl) | (with_reducible refine And.intro ?_ ?_) | (with_reducible intro _)))
    | succ r ih =>
      intro j N hj hN hf
      have key := sgn_byte v j
      obtain ⟨sg1, sg2⟩ := sgn_in (bytN_le v j)
      refine AW.run ck_H_tapeInt [3] 10 3 ?_
      simp only [wR, wB, wE0, wE1, wE2, wE3, g0, gS, s10, s11, s1S, s20, s21, s2S, kl0, kl1, kl2, kl3, sp0, sp1, sp2, sp3, cn1, cn2, cn3, cn4, cn5, cn6, jJa, lk0, lk1, jmS, jmN, s4_0, s4_1, s4_2, s4_3, s4_4, sw0, sw1, cKs, cKn, true_and, and_true, List.map_cons, List.map_nil, Nat.reduceAdd, Nat.zero_add, Int.reduceAdd, Nat.reduceEqDiff, reduceIte, Classical.not_not, b_H_tapeInt, shH, hN.1, key, up_rd, Int.reduceEq, and_false, false_and, and_self, reduceIte, not_true_eq_false, not_false_eq_true, false_imp_iff, true_imp_iff, true_or, or_true]
      (repeat' (first | omega | exact ⟨by omega, by omega⟩ | (with_reducible exact Or.inr trivial) | (with_reducible exact Or.inl trivial) | (with_reducible assumption) | (with_reducible exact Same.refl) | (with_reducible rfl) | (with_reducible refine And.intro ?_ ?_) | (with_reducible intro _)))
      have := ih (j + 1) (up (up N 1 ((n + j : Nat) : Int) (sgn (bytN v j))) 0 1 (((n + j : Nat) : Int) + 1)) (by omega) ⟨by rw [up_eq]; omega, fun k hk => ?_⟩ ?_
      · rw [show (24 : Int) - 8 * ((j + 1 : Nat) : Int) = 24 - 8 * (j : Int) - 8 by omega] at this
        exact this
      · rw [up_ne1 (by omega)]
        by_cases q : k = n + j
        · subst q
          rw [up_eq]
          unfold fed
          rw [if_neg (by omega), show n + j - n = j by omega]
        · rw [up_ne2 (by omega)]
          exact hN.2 k (by omega)
      · refine ⟨fun x h0 h1 => ?_, fun y hy => ?_⟩
        · funext y; rw [up_ne1 h0, up_ne1 h1, hf.1 x h0 h1]
        · rw [up_ne2 hy, up_ne1 (by omega), hf.2 y hy]
  refine AW.run ck_H_tapeInt [3] 10 0 ?_
  simp only [wR, wB, wE0, wE1, wE2, wE3, g0, gS, s10, s11, s1S, s20, s21, s2S, kl0, kl1, kl2, kl3, sp0, sp1, sp2, sp3, cn1, cn2, cn3, cn4, cn5, cn6, jJa, lk0, lk1, jmS, jmN, s4_0, s4_1, s4_2, s4_3, s4_4, sw0, sw1, cKs, cKn, true_and, and_true, List.map_cons, List.map_nil, Nat.reduceAdd, Nat.zero_add, Int.reduceAdd, Nat.reduceEqDiff, reduceIte, Classical.not_not, b_H_tapeInt]
  refine loop 4 0 M (by omega) ⟨ht.1, fun k hk => ?_⟩ ⟨fun _ _ _ => rfl, fun _ _ => rfl⟩
  rw [ht.2 k hk]
  unfold fed
  rw [if_pos (show k < n from hk)]
def feedT (n : Nat) (t : Nat → Nat) (a b c e f : Int) : Nat → Nat := fed (n + 4 + 4 + 4 + 4) (fed (n + 4 + 4 + 4) (fed (n + 4 + 4) (fed (n + 4) (fed n t a) b) c) e) f
def feedV (a b c e f : Int) (i : Nat) : Int := if i < 4 then a else if i < 8 then b else if i < 12 then c else if i < 16 then e else f
theorem feedT_at {n : Nat} {t : Nat → Nat} {a b c e f : Int} {i : Nat} (hi : i < 20) : feedT n t a b c e f (n + i) = bytN (feedV a b c e f i) (i % 4) := by
  unfold feedT feedV fed
  rcases (show i < 4 ∨ (4 ≤ i ∧ i < 8) ∨ (8 ≤ i ∧ i < 12) ∨ (12 ≤ i ∧ i < 16) ∨ 16 ≤ i by omega) with q | q | q | q | q
  · rw [if_pos (by omega), if_pos (by omega), if_pos (by omega), if_pos (by omega), if_neg (by omega), if_pos (by omega)]
    congr 1; omega
  · rw [if_pos (by omega), if_pos (by omega), if_pos (by omega), if_neg (by omega), if_neg (by omega), if_pos (by omega)]
    congr 1; omega
  · rw [if_pos (by omega), if_pos (by omega), if_neg (by omega), if_neg (by omega), if_neg (by omega), if_pos (by omega)]
    congr 1; omega
  · rw [if_pos (by omega), if_neg (by omega), if_neg (by omega), if_neg (by omega), if_neg (by omega), if_pos (by omega)]
    congr 1; omega
  · rw [if_neg (by omega), if_neg (by omega), if_neg (by omega), if_neg (by omega), if_neg (by omega)]
    congr 1; omega
theorem feedT_lo {n : Nat} {t : Nat → Nat} {a b c e f : Int} {k : Nat} (hk : k < n) : feedT n t a b c e f k = t k := by
  unfold feedT fed
  rw [if_pos (by omega), if_pos (by omega), if_pos (by omega), if_pos (by omega), if_pos (by omega)]
theorem feedT_le {n : Nat} {t : Nat → Nat} {a b c e f : Int} (h : ∀ k, t k ≤ 255) (k : Nat) : feedT n t a b c e f k ≤ 255 := by
  unfold feedT fed
  repeat' split
  all_goals first | exact bytN_le _ _ | exact h _
def Sg.tape (σ : Sg) (n : Nat) (t : Nat → Nat) : Sg := mkS n t σ.fk σ.fp σ.h σ.m σ.np σ.pm σ.tr σ.im
def aFeed (σ : Sg) : Int := if σ.tn + 20 ≤ 900 then ((σ.tn + 20 : Nat) : Int) else -5
def sFeed (σ : Sg) (a b c e f : Int) : Sg := if σ.tn + 20 ≤ 900 then σ.tape (σ.tn + 20) (feedT σ.tn σ.tp a b c e f) else σ
theorem CR.tape {M N : AM} {σ : Sg} {n : Nat} {t : Nat → Nat} (h : CR M σ) (hf : TFr M N) (ht : TapeOK N n t) : CR N (σ.tape n t) := by
  obtain ⟨z, a, b, c, e, f, g, i, j⟩ := h
  obtain ⟨a1, a2, a3, a4⟩ := a
  refine ⟨z, ⟨by rw [hf.2 3 (by omega)]; exact a1, by rw [hf.2 4 (by omega)]; exact a2, a3, a4.eq (hf.1 _ (by omega) (by omega)) (hf.1 _ (by omega) (by omega)) (hf.1 _ (by omega) (by omega)) (hf.1 _ (by omega) (by omega)) (hf.1 _ (by omega) (by omega)) (hf.1 _ (by omega) (by omega))⟩, ht, ?_, e.eq (hf.1 _ (by omega) (by omega)) (hf.1 _ (by omega) (by omega)), ?_, fun k hk => (g k hk).eq (hf.1 _ (by omega) (by omega)) (hf.1 _ (by omega) (by omega)) (hf.1 _ (by omega) (by omega)), ?_, j.1.eq (fun x h1 h2 => hf.1 x (by omega) (by omega)), j.2.eq (fun x hx => hf.1 x (by omega) (by omega))⟩
  · unfold Cflt; rw [hf.1 2 (by omega) (by omega)]; exact c
  · exact Cpast.eq (σ := σ.tape n t) f (hf.2 8 (by omega)) (fun x hx => hf.1 x (by omega) (by omega))
  · exact Cim.eq (σ := σ.tape n t) i (hf.2 12 (by omega)) (fun x hx => hf.1 x (by omega) (by omega))
theorem c_H_feed {a b c e f : Int} {B : Nat} {σ : Sg} (hd : 5 ≤ d) (ok : SgOK B σ) (hR : CR M σ) : MS G d mi_H_feed [vr 0, vi a, vi b, vi c, vi e, vi f] M (fun r M' => r = some (vi (aFeed σ)) ∧ CR M' (sFeed σ a b c e f) ∧ Hi M M') := by
  have ht : TapeOK M σ.tn σ.tp := by obtain ⟨z, _, b, _⟩ := hR; exact b
  have hn := ok.1
  unfold aFeed sFeed
  refine MS.by ck_H_feed [some (vr 0), some (vi a), some (vi b), some (vi c), some (vi e), some (vi f)] fun _ _ => ?_
  refine AW.run ck_H_feed [16] 10 0 ?_
  simp only [wR, wB, wE0, wE1, wE2, wE3, g0, gS, s10, s11, s1S, s20, s21, s2S, kl0, kl1, kl2, kl3, sp0, sp1, sp2, sp3, cn1, cn2, cn3, cn4, cn5, cn6, jJa, lk0, lk1, jmS, jmN, s4_0, s4_1, s4_2, s4_3, s4_4, sw0, sw1, cKs, cKn, true_and, and_true, List.map_cons, List.map_nil, Nat.reduceAdd, Nat.zero_add, Int.reduceAdd, Nat.reduceEqDiff, reduceIte, Classical.not_not, b_H_feed, shH, ht.1]
  by_cases q : σ.tn + 20 ≤ 900
  · rw [if_pos q, if_pos q]
    (repeat' (first | omega | exact ⟨by omega, by omega⟩ | (with_reducible exact Or.inr trivial) | (with_reducible exact Or.inl trivial) | (with_reducible assumption) | (with_reducible exact Same.refl) | (with_reducible rfl) | (with_reducible refine And.intro ?_ ?_) | (with_reducible intro _)))
    refine AW.run ck_H_feed [] 10 16 ?_
    simp only [wR, wB, wE0, wE1, wE2, wE3, g0, gS, s10, s11, s1S, s20, s21, s2S, kl0, kl1, kl2, kl3, sp0, sp1, sp2, sp3, cn1, cn2, cn3, cn4, cn5, cn6, jJa, lk0, lk1, jmS, jmN, s4_0, s4_1, s4_2, s4_3, s4_4, sw0, sw1, cKs, cKn, true_and, and_true, List.map_cons, List.map_nil, Nat.reduceAdd, Nat.zero_add, Int.reduceAdd, Nat.reduceEqDiff, reduceIte, Classical.not_not, b_H_feed, shH]
    refine ⟨by omega, (c_H_tapeInt ht (by omega)).mono ?_⟩
    rintro r M1 okM1 ⟨rfl, t1, f1⟩
    simp only [wR, wB, wE0, wE1, wE2, wE3, g0, gS, s10, s11, s1S, s20, s21, s2S, kl0, kl1, kl2, kl3, sp0, sp1, sp2, sp3, cn1, cn2, cn3, cn4, cn5, cn6, jJa, lk0, lk1, jmS, jmN, s4_0, s4_1, s4_2, s4_3, s4_4, sw0, sw1, cKs, cKn, true_and, and_true, List.map_cons, List.map_nil, Nat.reduceAdd, Nat.zero_add, Int.reduceAdd, Nat.reduceEqDiff, reduceIte, Classical.not_not, b_H_feed, shH]
    refine ⟨by omega, (c_H_tapeInt t1 (by omega)).mono ?_⟩
    rintro r M2 okM2 ⟨rfl, t2, f2⟩
    simp only [wR, wB, wE0, wE1, wE2, wE3, g0, gS, s10, s11, s1S, s20, s21, s2S, kl0, kl1, kl2, kl3, sp0, sp1, sp2, sp3, cn1, cn2, cn3, cn4, cn5, cn6, jJa, lk0, lk1, jmS, jmN, s4_0, s4_1, s4_2, s4_3, s4_4, sw0, sw1, cKs, cKn, true_and, and_true, List.map_cons, List.map_nil, Nat.reduceAdd, Nat.zero_add, Int.reduceAdd, Nat.reduceEqDiff, reduceIte, Classical.not_not, b_H_feed, shH]
    refine ⟨by omega, (c_H_tapeInt t2 (by omega)).mono ?_⟩
    rintro r M3 okM3 ⟨rfl, t3, f3⟩
    simp only [wR, wB, wE0, wE1, wE2, wE3, g0, gS, s10, s11, s1S, s20, s21, s2S, kl0, kl1, kl2, kl3, sp0, sp1, sp2, sp3, cn1, cn2, cn3, cn4, cn5, cn6, jJa, lk0, lk1, jmS, jmN, s4_0, s4_1, s4_2, s4_3, s4_4, sw0, sw1, cKs, cKn, true_and, and_true, List.map_cons, List.map_nil, Nat.reduceAdd, Nat.zero_add, Int.reduceAdd, Nat.reduceEqDiff, reduceIte, Classical.not_not, b_H_feed, shH]
    refine ⟨by omega, (c_H_tapeInt t3 (by omega)).mono ?_⟩
    rintro r M4 okM4 ⟨rfl, t4, f4⟩
    simp only [wR, wB, wE0, wE1, wE2, wE3, g0, gS, s10, s11, s1S, s20, s21, s2S, kl0, kl1, kl2, kl3, sp0, sp1, sp2, sp3, cn1, cn2, cn3, cn4, cn5, cn6, jJa, lk0, lk1, jmS, jmN, s4_0, s4_1, s4_2, s4_3, s4_4, sw0, sw1, cKs, cKn, true_and, and_true, List.map_cons, List.map_nil, Nat.reduceAdd, Nat.zero_add, Int.reduceAdd, Nat.reduceEqDiff, reduceIte, Classical.not_not, b_H_feed, shH]
    refine ⟨by omega, (c_H_tapeInt t4 (by omega)).mono ?_⟩
    rintro r M5 okM5 ⟨rfl, t5, f5⟩
    simp only [wR, wB, wE0, wE1, wE2, wE3, g0, gS, s10, s11, s1S, s20, s21, s2S, kl0, kl1, kl2, kl3, sp0, sp1, sp2, sp3, cn1, cn2, cn3, cn4, cn5, cn6, jJa, lk0, lk1, jmS, jmN, s4_0, s4_1, s4_2, s4_3, s4_4, sw0, sw1, cKs, cKn, true_and, and_true, List.map_cons, List.map_nil, Nat.reduceAdd, Nat.zero_add, Int.reduceAdd, Nat.reduceEqDiff, reduceIte, Classical.not_not, b_H_feed, shH, t5.1]
    have hf := (((f1.trans f2).trans f3).trans f4).trans f5
    exact ⟨hR.tape hf t5, fun x hx => hf.1 x (by omega) (by omega)⟩
  · rw [if_neg q, if_neg q]
    (repeat' (first | omega | exact ⟨by omega, by omega⟩ | (with_reducible exact Or.inr trivial) | (with_reducible exact Or.inl trivial) | (with_reducible assumption) | (with_reducible exact Same.refl) | (with_reducible rfl) | (with_reducible refine And.intro ?_ ?_) | (with_reducible intro _)))
    exact Hi.refl
theorem MR.tape {M N : AM} {σ : Sg} {n : Nat} {t : Nat → Nat} (h : MR M σ) (hs : Same [117, 120] M N) (hf : ∀ y : Int, y ≠ 0 → y ≠ 5 → N 117 y = M 117 y) (h5 : N 117 5 = n) (ht : ∀ k : Nat, k < n → N 120 k = t k) : MR N (σ.tape n t) := by
  obtain ⟨a, b, c⟩ := h
  refine ⟨⟨h5, ht⟩, ⟨by rw [hf 13 (by omega) (by omega)]; exact b.1, by rw [hf 14 (by omega) (by omega)]; exact b.2⟩, ?_⟩
  rw [hs 118 (by (first | decide | (simp only [List.mem_cons, List.not_mem_nil, or_false, not_or, not_false_eq_true, and_true]; omega) | (simp [List.mem_cons]; done))), hs 119 (by (first | decide | (simp only [List.mem_cons, List.not_mem_nil, or_false, not_or, not_false_eq_true, and_true]; omega) | (simp [List.mem_cons]; done))), hs 135 (by (first | decide | (simp only [List.mem_cons, List.not_mem_nil, or_false, not_or, not_false_eq_true, and_true]; omega) | (simp [List.mem_cons]; done))), hs 136 (by (first | decide | (simp only [List.mem_cons, List.not_mem_nil, or_false, not_or, not_false_eq_true, and_true]; omega) | (simp [List.mem_cons]; done))), hs 137 (by (first | decide | (simp only [List.mem_cons, List.not_mem_nil, or_false, not_or, not_false_eq_true, and_true]; omega) | (simp [List.mem_cons]; done)))]
  exact c
set_option maxRecDepth 20000 in
theorem c_Md_feed {a b c e f : Int} {B : Nat} {σ : Sg} (ok : SgOK B σ) (hR : MR M σ) : MS G d mi_Md_feed [vr 117, vi a, vi b, vi c, vi e, vi f] M (fun r M' => r = some (vi (aFeed σ)) ∧ MR M' (sFeed σ a b c e f) ∧ Lo M M') := by
  have hn := ok.1
  have h5 : M 117 5 = σ.tn := hR.1.1
  unfold aFeed sFeed
  refine MS.by ck_Md_feed [some (vr 117), some (vi a), some (vi b), some (vi c), some (vi e), some (vi f), none, none] fun _ _ => ?_
  by_cases q : σ.tn + 20 ≤ 900
  · rw [if_pos q, if_pos q]
    generalize hQ : (fun (r : Option AV) (M' : AM) => r = some (vi ((σ.tn + 20 : Nat) : Int)) ∧ MR M' (σ.tape (σ.tn + 20) (feedT σ.tn σ.tp a b c e f)) ∧ Lo M M') = Q
    have loop : ∀ (r i : Nat) (N : AM) (l7 : Option AV), i + r = 20 → Same [117, 120] M N → (∀ y : Int, y ≠ 0 → y ≠ 5 → N 117 y = M 117 y) → N 117 5 = ((σ.tn + i : Nat) : Int) → (∀ k : Nat, k < σ.tn + i → N 120 k = feedT σ.tn σ.tp a b c e f k) → AW G d mi_Md_feed Q 24 [some (vr 117), some (vi a), some (vi b), some (vi c), some (vi e), some (vi f), some (vi i), l7] [] N := by
      as_aux_lemma =>
        intro r
        induction r with
        | zero =>
         as_aux_lemma =>
          intro i N l7 hi hs hf n5 ht
          obtain rfl : i = 20 := by omega
          refine AW.run ck_Md_feed [41, 77] 10 24 ?_
          simp only [wR, wB, wE0, wE1, wE2, wE3, g0, gS, s10, s11, s1S, s20, s21, s2S, kl0, kl1, kl2, kl3, sp0, sp1, sp2, sp3, cn1, cn2, cn3, cn4, cn5, cn6, jJa, lk0, lk1, jmS, jmN, s4_0, s4_1, s4_2, s4_3, s4_4, sw0, sw1, cKs, cKn, true_and, and_true, List.map_cons, List.map_nil, Nat.reduceAdd, Nat.zero_add, Int.reduceAdd, Nat.reduceEqDiff, reduceIte, Classical.not_not, b_Md_feed, shMd, n5]
          subst hQ
          (repeat' (first | omega | exact ⟨by omega, by omega⟩ | (with_reducible exact Or.inr trivial) | (with_reducible exact Or.inl trivial) | (with_reducible assumption) | (with_reducible exact Same.refl) | (with_reducible rfl) | (with_reducible refine And.intro ?_ ?_) | (with_reducible intro _)))
          · exact hR.tape hs hf n5 ht
          · exact hs.lo (by intro x hx; simp only [List.mem_cons, List.not_mem_nil, or_false] at hx; omega)
        | succ r ih =>
          intro i N l7 hi hs hf n5 ht
          have a77 : AW G d mi_Md_feed Q 77 [some (vr 117), some (vi a), some (vi b), some (vi c), some (vi e), some (vi f), some (vi i), l7] [vi (feedV a b c e f i)] N := by
           as_aux_lemma =>
            have eb := bytN_and (feedV a b c e f i) (i % 4)
            rw [show ((i % 4 : Nat) : Int) = (i : Int) % 4 by omega] at eb
            refine AW.run ck_Md_feed [24] 10 77 ?_
            simp only [wR, wB, wE0, wE1, wE2, wE3, g0, gS, s10, s11, s1S, s20, s21, s2S, kl0, kl1, kl2, kl3, sp0, sp1, sp2, sp3, cn1, cn2, cn3, cn4, cn5, cn6, jJa, lk0, lk1, jmS, jmN, s4_0, s4_1, s4_2, s4_3, s4_4, sw0, sw1, cKs, cKn, true_and, and_true, List.map_cons, List.map_nil, Nat.reduceAdd, Nat.zero_add, Int.reduceAdd, Nat.reduceEqDiff, reduceIte, Classical.not_not, b_Md_feed, shMd, n5, eb, ce, up_rd, Int.reduceEq, and_false, false_and, and_self, reduceIte, not_true_eq_false, not_false_eq_true, false_imp_iff, true_imp_iff, true_or, or_true]
            (repeat' (first | omega | exact ⟨by omega, by omega⟩ | (with_reducible exact Or.inr trivial) | (with_reducible exact Or.inl trivial) | (with_reducible assumption) | (with_reducible exact Same.refl) | (with_reducible rfl) | (with_reducible refine And.intro ?_ ?_) | (with_reducible intro _)))
            refine ih (i + 1) _ _ (by omega) ((hs.up (by simp)).up (by simp)) (fun y y0 y5 => ?_) ?_ (fun k hk => ?_)
            · rw [up_ne2 y5, up_ne1 (by omega)]; exact hf y y0 y5
            · rw [up_eq]; omega
            · rw [up_ne1 (by omega)]
              by_cases qk : k = σ.tn + i
              · subst qk
                rw [up_eq, feedT_at (by omega)]
              · rw [up_ne2 (by omega)]
                exact ht k (by omega)
          have ev : (i < 4 → feedV a b c e f i = a) ∧ (4 ≤ i ∧ i < 8 → feedV a b c e f i = b) ∧ (8 ≤ i ∧ i < 12 → feedV a b c e f i = c) ∧ (12 ≤ i ∧ i < 16 → feedV a b c e f i = e) ∧ (16 ≤ i → feedV a b c e f i = f) := by
            unfold feedV
            refine ⟨fun h => if_pos h, fun h => ?_, fun h => ?_, fun h => ?_, fun h => ?_⟩
            · rw [if_neg (by omega), if_pos (by omega)]
            · rw [if_neg (by omega), if_neg (by omega), if_pos (by omega)]
            · rw [if_neg (by omega), if_neg (by omega), if_neg (by omega), if_pos (by omega)]
            · rw [if_neg (by omega), if_neg (by omega), if_neg (by omega), if_neg (by omega)]
          obtain ⟨e1, e2, e3, e4, e5⟩ := ev
          have a75 : 16 ≤ i → AW G d mi_Md_feed Q 75 [some (vr 117), some (vi a), some (vi b), some (vi c), some (vi e), some (vi f), some (vi i), l7] [] N := by
            as_aux_lemma =>
              intro hlo
              refine AW.run ck_Md_feed [77] 10 75 ?_
              simp only [wR, wB, wE0, wE1, wE2, wE3, g0, gS, s10, s11, s1S, s20, s21, s2S, kl0, kl1, kl2, kl3, sp0, sp1, sp2, sp3, cn1, cn2, cn3, cn4, cn5, cn6, jJa, lk0, lk1, jmS, jmN, s4_0, s4_1, s4_2, s4_3, s4_4, sw0, sw1, cKs, cKn, true_and, and_true, List.map_cons, List.map_nil, Nat.reduceAdd, Nat.zero_add, Int.reduceAdd, Nat.reduceEqDiff, reduceIte, Classical.not_not, b_Md_feed, shMd]
              rw [e5 (by omega)] at a77; exact a77
          have a63 : 12 ≤ i → AW G d mi_Md_feed Q 63 [some (vr 117), some (vi a), some (vi b), some (vi c), some (vi e), some (vi f), some (vi i), l7] [] N := by
            as_aux_lemma =>
              intro hlo
              refine AW.run ck_Md_feed [77, 75] 10 63 ?_
              simp only [wR, wB, wE0, wE1, wE2, wE3, g0, gS, s10, s11, s1S, s20, s21, s2S, kl0, kl1, kl2, kl3, sp0, sp1, sp2, sp3, cn1, cn2, cn3, cn4, cn5, cn6, jJa, lk0, lk1, jmS, jmN, s4_0, s4_1, s4_2, s4_3, s4_4, sw0, sw1, cKs, cKn, true_and, and_true, List.map_cons, List.map_nil, Nat.reduceAdd, Nat.zero_add, Int.reduceAdd, Nat.reduceEqDiff, reduceIte, Classical.not_not, b_Md_feed, shMd]
              (repeat' (first | omega | exact ⟨by omega, by omega⟩ | (with_reducible exact Or.inr trivial) | (with_reducible exact Or.inl trivial) | (with_reducible assumption) | (with_reducible exact Same.refl) | (with_reducible rfl) | (with_reducible refine And.intro ?_ ?_) | (with_reducible intro _)))
              · exact a75 (by omega)
              · rw [e4 (by omega)] at a77; exact a77
          have a52 : 8 ≤ i → AW G d mi_Md_feed Q 52 [some (vr 117), some (vi a), some (vi b), some (vi c), some (vi e), some (vi f), some (vi i), l7] [] N := by
            as_aux_lemma =>
              intro hlo
              refine AW.run ck_Md_feed [77, 63] 10 52 ?_
              simp only [wR, wB, wE0, wE1, wE2, wE3, g0, gS, s10, s11, s1S, s20, s21, s2S, kl0, kl1, kl2, kl3, sp0, sp1, sp2, sp3, cn1, cn2, cn3, cn4, cn5, cn6, jJa, lk0, lk1, jmS, jmN, s4_0, s4_1, s4_2, s4_3, s4_4, sw0, sw1, cKs, cKn, true_and, and_true, List.map_cons, List.map_nil, Nat.reduceAdd, Nat.zero_add, Int.reduceAdd, Nat.reduceEqDiff, reduceIte, Classical.not_not, b_Md_feed, shMd]
              (repeat' (first | omega | exact ⟨by omega, by omega⟩ | (with_reducible exact Or.inr trivial) | (with_reducible exact Or.inl trivial) | (with_reducible assumption) | (with_reducible exact Same.refl) | (with_reducible rfl) | (with_reducible refine And.intro ?_ ?_) | (with_reducible intro _)))
              · exact a63 (by omega)
              · rw [e3 (by omega)] at a77; exact a77
          have a41 : 4 ≤ i → AW G d mi_Md_feed Q 41 [some (vr 117), some (vi a), some (vi b), some (vi c), some (vi e), some (vi f), some (vi i), l7] [] N := by
            as_aux_lemma =>
              intro hlo
              refine AW.run ck_Md_feed [77, 52] 10 41 ?_
              simp only [wR, wB, wE0, wE1, wE2, wE3, g0, gS, s10, s11, s1S, s20, s21, s2S, kl0, kl1, kl2, kl3, sp0, sp1, sp2, sp3, cn1, cn2, cn3, cn4, cn5, cn6, jJa, lk0, lk1, jmS, jmN, s4_0, s4_1, s4_2, s4_3, s4_4, sw0, sw1, cKs, cKn, true_and, and_true, List.map_cons, List.map_nil, Nat.reduceAdd, Nat.zero_add, Int.reduceAdd, Nat.reduceEqDiff, reduceIte, Classical.not_not, b_Md_feed, shMd]
              (repeat' (first | omega | exact ⟨by omega, by omega⟩ | (with_reducible exact Or.inr trivial) | (with_reducible exact Or.inl trivial) | (with_reducible assumption) | (with_reducible exact Same.refl) | (with_reducible rfl) | (with_reducible refine And.intro ?_ ?_) | (with_reducible intro _)))
              · exact a52 (by omega)
              · rw [e2 (by omega)] at a77; exact a77
          refine AW.run ck_Md_feed [77, 41] 10 24 ?_
          simp only [wR, wB, wE0, wE1, wE2, wE3, g0, gS, s10, s11, s1S, s20, s21, s2S, kl0, kl1, kl2, kl3, sp0, sp1, sp2, sp3, cn1, cn2, cn3, cn4, cn5, cn6, jJa, lk0, lk1, jmS, jmN, s4_0, s4_1, s4_2, s4_3, s4_4, sw0, sw1, cKs, cKn, true_and, and_true, List.map_cons, List.map_nil, Nat.reduceAdd, Nat.zero_add, Int.reduceAdd, Nat.reduceEqDiff, reduceIte, Classical.not_not, b_Md_feed, shMd]
          (repeat' (first | omega | exact ⟨by omega, by omega⟩ | (with_reducible exact Or.inr trivial) | (with_reducible exact Or.inl trivial) | (with_reducible assumption) | (with_reducible exact Same.refl) | (with_reducible rfl) | (with_reducible refine And.intro ?_ ?_) | (with_reducible intro _)))
          · exact a41 (by omega)
          · rw [e1 (by omega)] at a77; exact a77
    refine AW.run ck_Md_feed [24] 10 0 ?_
    simp only [wR, wB, wE0, wE1, wE2, wE3, g0, gS, s10, s11, s1S, s20, s21, s2S, kl0, kl1, kl2, kl3, sp0, sp1, sp2, sp3, cn1, cn2, cn3, cn4, cn5, cn6, jJa, lk0, lk1, jmS, jmN, s4_0, s4_1, s4_2, s4_3, s4_4, sw0, sw1, cKs, cKn, true_and, and_true, List.map_cons, List.map_nil, Nat.reduceAdd, Nat.zero_add, Int.reduceAdd, Nat.reduceEqDiff, reduceIte, Classical.not_not, b_Md_feed, shMd, up_rd, Int.reduceEq, and_false, false_and, and_self, reduceIte, not_true_eq_false, not_false_eq_true, false_imp_iff, true_imp_iff, true_or, or_true, h5]
    (repeat' (first | omega | exact ⟨by omega, by omega⟩ | (with_reducible exact Or.inr trivial) | (with_reducible exact Or.inl trivial) | (with_reducible assumption) | (with_reducible exact Same.refl) | (with_reducible rfl) | (with_reducible refine And.intro ?_ ?_) | (with_reducible intro _)))
    refine loop 20 0 _ _ (by omega) (Same.refl.up (by simp)) (fun y y0 _ => up_ne2 y0) (by rw [up_ne2 (by omega)]; exact h5) (fun k hk => ?_)
    rw [up_ne1 (by omega), feedT_lo (by omega)]
    exact hR.1.2 k (by omega)
  · rw [if_neg q, if_neg q]
    refine AW.run ck_Md_feed [24] 10 0 ?_
    simp only [wR, wB, wE0, wE1, wE2, wE3, g0, gS, s10, s11, s1S, s20, s21, s2S, kl0, kl1, kl2, kl3, sp0, sp1, sp2, sp3, cn1, cn2, cn3, cn4, cn5, cn6, jJa, lk0, lk1, jmS, jmN, s4_0, s4_1, s4_2, s4_3, s4_4, sw0, sw1, cKs, cKn, true_and, and_true, List.map_cons, List.map_nil, Nat.reduceAdd, Nat.zero_add, Int.reduceAdd, Nat.reduceEqDiff, reduceIte, Classical.not_not, b_Md_feed, shMd, up_rd, Int.reduceEq, and_false, false_and, and_self, reduceIte, not_true_eq_false, not_false_eq_true, false_imp_iff, true_imp_iff, true_or, or_true, h5]
    have := hR.thr
    have := thr_lo (M := M)
    (repeat' (first | omega | exact ⟨by omega, by omega⟩ | (with_reducible exact Or.inr trivial) | (with_reducible exact Or.inl trivial) | (with_reducible assumption) | (with_reducible exact Same.refl) | (with_reducible rfl) | (with_reducible refine And.intro ?_ ?_) | (with_reducible intro _)))
end TA
