theorem okB31 {okI : Nat → Nat → Nat → Bool} {i s y : Nat} (hy : y < 32) : okB okI 31 i s y = okI i s y := by
  unfold okB
  have : ¬ y / 2 ^ 31 % 2 = 1 := by rw [Nat.div_eq_of_lt (by omega)]; decide
  simp [this]
theorem Wy31 {okI : Nat → Nat → Nat → Bool} {nx : Nat → Nat → Nat} (r i s : Nat) : Wy (okB okI 31) nx r i s = Wy okI nx r i s := Wy_congr (fun _ _ _ hy => okB31 hy) r i s
theorem MR.lay4 {M N : AM} {σ : Sg} (h : MR M σ) (hs : Same [117, 122, 123, 125, 126, 129, 130, 133] M N) (hf : ∀ y : Int, y ≠ 27 → N 117 y = M 117 y) : MR N σ ∧ Lo M N := ⟨h.eq (hf _ (by omega)) (hf _ (by omega)) (hf _ (by omega)) (fun x hx => hs x (by (first | decide | (simp only [List.mem_cons, List.not_mem_nil, or_false, not_or, not_false_eq_true, and_true]; omega) | (simp [List.mem_cons]; done)))), hs.lo (by intro x hx; simp only [List.mem_cons, List.not_mem_nil, or_false] at hx; omega)⟩
section MS3
variable {G : AG} {d : Nat} {M : AM}
theorem c_Md_seen {t : Int} {B : Nat} {σ : Sg} (hd : 30 ≤ d) (ok : SgOK B σ) (hR : MR M σ) : MS G d mi_Md_seen [vr 117, vi t] M (fun r M' => r = some (vl (aSeen σ t)) ∧ MR M' σ ∧ Lo M M') := by
  have hR' := hR.thr
  have hok := ok.2.2.1
  have hP := hok.1
  have mok := ok.2.2.2.1.1
  refine MS.by ck_Md_seen [some (vr 117), some (vi t), none] fun _ _ => ?_
  generalize hQ : (fun (r : Option AV) (M' : AM) => r = some (vl (aSeen σ t)) ∧ MR M' σ ∧ Lo M M') = Q
  unfold aSeen at hQ
  refine AW.run ck_Md_seen [18] 10 0 ?_
  simp only [wR, wB, wE0, wE1, wE2, wE3, g0, gS, s10, s11, s1S, s20, s21, s2S, kl0, kl1, kl2, kl3, sp0, sp1, sp2, sp3, cn1, cn2, cn3, cn4, cn5, cn6, jJa, lk0, lk1, jmS, jmN, s4_0, s4_1, s4_2, s4_3, s4_4, sw0, sw1, cKs, cKn, true_and, and_true, List.map_cons, List.map_nil, Nat.reduceAdd, Nat.zero_add, Int.reduceAdd, Nat.reduceEqDiff, reduceIte, Classical.not_not, b_Md_seen, shMd]
  have hlo : Lo M (up M 117 0 0) := thr_lo
  generalize up M 117 0 0 = N at hR' hlo ⊢
  obtain ⟨hH, hm, -⟩ := hR'.past
  refine ⟨by omega, MS.to (c_Md_noSeen (d := d - 1) (by omega) ok hR') fun _ => ?_⟩
  simp only [wR, wB, wE0, wE1, wE2, wE3, g0, gS, s10, s11, s1S, s20, s21, s2S, kl0, kl1, kl2, kl3, sp0, sp1, sp2, sp3, cn1, cn2, cn3, cn4, cn5, cn6, jJa, lk0, lk1, jmS, jmN, s4_0, s4_1, s4_2, s4_3, s4_4, sw0, sw1, cKs, cKn, true_and, and_true, List.map_cons, List.map_nil, Nat.reduceAdd, Nat.zero_add, Int.reduceAdd, Nat.reduceEqDiff, reduceIte, Classical.not_not, b_Md_seen, shMd]
  by_cases q : aRN σ t 8 (-1) 5 = 0
  · rw [if_pos q] at hQ
    obtain ⟨j, rfl, hj, hne, h1, h8, -⟩ := aRN_0 q
    rw [Int.toNat_natCast] at hQ
    (repeat' (first | omega | (with_reducible exact True.intro) | exact ⟨by omega, by omega⟩ | (with_reducible exact Or.inr trivial) | (with_reducible exact Or.inl trivial) | (with_reducible assumption) | (with_reducible exact Same.refl) | (with_reducible rfl) | (with_reducible refine And.intro ?_ ?_) | (with_reducible intro _)))
    refine AW.run ck_Md_seen [] 10 18 ?_
    simp only [wR, wB, wE0, wE1, wE2, wE3, g0, gS, s10, s11, s1S, s20, s21, s2S, kl0, kl1, kl2, kl3, sp0, sp1, sp2, sp3, cn1, cn2, cn3, cn4, cn5, cn6, jJa, lk0, lk1, jmS, jmN, s4_0, s4_1, s4_2, s4_3, s4_4, sw0, sw1, cKs, cKn, true_and, and_true, List.map_cons, List.map_nil, Nat.reduceAdd, Nat.zero_add, Int.reduceAdd, Nat.reduceEqDiff, reduceIte, Classical.not_not, b_Md_seen, shMd]
    refine ⟨by omega, MS.to (c_Md_everybody hH.2.1 hP) fun _ => ?_⟩
    simp only [wR, wB, wE0, wE1, wE2, wE3, g0, gS, s10, s11, s1S, s20, s21, s2S, kl0, kl1, kl2, kl3, sp0, sp1, sp2, sp3, cn1, cn2, cn3, cn4, cn5, cn6, jJa, lk0, lk1, jmS, jmN, s4_0, s4_1, s4_2, s4_3, s4_4, sw0, sw1, cKs, cKn, true_and, and_true, List.map_cons, List.map_nil, Nat.reduceAdd, Nat.zero_add, Int.reduceAdd, Nat.reduceEqDiff, reduceIte, Classical.not_not, b_Md_seen, shMd]
    refine ⟨by omega, (c_Md_laysStands (d := d - 1) (by omega) hok mok hH hm (all_lt hP)).mono ?_⟩
    rintro r M1 okM1 ⟨rfl, ⟨l, L1⟩, u1, u2⟩
    simp only [wR, wB, wE0, wE1, wE2, wE3, g0, gS, s10, s11, s1S, s20, s21, s2S, kl0, kl1, kl2, kl3, sp0, sp1, sp2, sp3, cn1, cn2, cn3, cn4, cn5, cn6, jJa, lk0, lk1, jmS, jmN, s4_0, s4_1, s4_2, s4_3, s4_4, sw0, sw1, cKs, cKn, true_and, and_true, List.map_cons, List.map_nil, Nat.reduceAdd, Nat.zero_add, Int.reduceAdd, Nat.reduceEqDiff, reduceIte, Classical.not_not, b_Md_seen, shMd]
    obtain ⟨c1, c2⟩ := hR'.lay u1 u2
    obtain ⟨t1, t2⟩ := (c1.2.2.2.2.2.1 j hj).2 hne
    obtain ⟨hH1, hm1, -⟩ := c1.past
    refine ⟨by omega, (c_Md_laysSeen (d := d - 1) (but := 31) (told := (σ.tr j).2.2) (by omega) hok mok hH1 hm1 L1 (by omega) hj (by omega) t1 t2).mono ?_⟩
    rintro r M2 okM2 ⟨rfl, v1, v2⟩
    obtain ⟨g1, g2⟩ := hR'.lay4 ((u1.mono (by simp)).trans (v2.mono (by simp))) (fun y hy => by rw [v2.at 117 _ (by (first | decide | (simp only [List.mem_cons, List.not_mem_nil, or_false, not_or, not_false_eq_true, and_true]; omega) | (simp [List.mem_cons]; done)))]; exact u2 y hy)
    rw [Wy31]
    simp only [wR, wB, wE0, wE1, wE2, wE3, g0, gS, s10, s11, s1S, s20, s21, s2S, kl0, kl1, kl2, kl3, sp0, sp1, sp2, sp3, cn1, cn2, cn3, cn4, cn5, cn6, jJa, lk0, lk1, jmS, jmN, s4_0, s4_1, s4_2, s4_3, s4_4, sw0, sw1, cKs, cKn, true_and, and_true, List.map_cons, List.map_nil, Nat.reduceAdd, Nat.zero_add, Int.reduceAdd, Nat.reduceEqDiff, reduceIte, Classical.not_not, b_Md_seen]
    subst hQ
    exact ⟨rfl, g1, hlo.trans g2⟩
  · rw [if_neg q] at hQ
    subst hQ
    (repeat' (first | omega | (with_reducible exact True.intro) | exact ⟨by omega, by omega⟩ | (with_reducible exact Or.inr trivial) | (with_reducible exact Or.inl trivial) | (with_reducible assumption) | (with_reducible exact Same.refl) | (with_reducible rfl) | (with_reducible refine And.intro ?_ ?_) | (with_reducible intro _)))
theorem c_Md_surely {t : Int} {B : Nat} {σ : Sg} (hd : 30 ≤ d) (ok : SgOK B σ) (hR : MR M σ) : MS G d mi_Md_surely [vr 117, vi t] M (fun r M' => r = some (vi (aSurely σ t)) ∧ MR M' σ ∧ Lo M M') := by
  have hR' := hR.thr
  have hok := ok.2.2.1
  have hP := hok.1
  have mok := ok.2.2.2.1.1
  refine MS.by ck_Md_surely [some (vr 117), some (vi t), none, none, none] fun _ _ => ?_
  generalize hQ : (fun (r : Option AV) (M' : AM) => r = some (vi (aSurely σ t)) ∧ MR M' σ ∧ Lo M M') = Q
  unfold aSurely at hQ
  refine AW.run ck_Md_surely [17] 10 0 ?_
  simp only [wR, wB, wE0, wE1, wE2, wE3, g0, gS, s10, s11, s1S, s20, s21, s2S, kl0, kl1, kl2, kl3, sp0, sp1, sp2, sp3, cn1, cn2, cn3, cn4, cn5, cn6, jJa, lk0, lk1, jmS, jmN, s4_0, s4_1, s4_2, s4_3, s4_4, sw0, sw1, cKs, cKn, true_and, and_true, List.map_cons, List.map_nil, Nat.reduceAdd, Nat.zero_add, Int.reduceAdd, Nat.reduceEqDiff, reduceIte, Classical.not_not, b_Md_surely, shMd]
  have hlo : Lo M (up M 117 0 0) := thr_lo
  generalize up M 117 0 0 = N at hR' hlo ⊢
  obtain ⟨hH, hm, -⟩ := hR'.past
  refine ⟨by omega, MS.to (c_Md_noSeen (d := d - 1) (by omega) ok hR') fun _ => ?_⟩
  simp only [wR, wB, wE0, wE1, wE2, wE3, g0, gS, s10, s11, s1S, s20, s21, s2S, kl0, kl1, kl2, kl3, sp0, sp1, sp2, sp3, cn1, cn2, cn3, cn4, cn5, cn6, jJa, lk0, lk1, jmS, jmN, s4_0, s4_1, s4_2, s4_3, s4_4, sw0, sw1, cKs, cKn, true_and, and_true, List.map_cons, List.map_nil, Nat.reduceAdd, Nat.zero_add, Int.reduceAdd, Nat.reduceEqDiff, reduceIte, Classical.not_not, b_Md_surely, shMd]
  by_cases q : aRN σ t 8 (-1) 5 = 0
  · rw [if_pos q] at hQ
    obtain ⟨j, rfl, hj, hne, h1, h8, -⟩ := aRN_0 q
    rw [Int.toNat_natCast] at hQ
    (repeat' (first | omega | (with_reducible exact True.intro) | exact ⟨by omega, by omega⟩ | (with_reducible exact Or.inr trivial) | (with_reducible exact Or.inl trivial) | (with_reducible assumption) | (with_reducible exact Same.refl) | (with_reducible rfl) | (with_reducible refine And.intro ?_ ?_) | (with_reducible intro _)))
    refine AW.run ck_Md_surely [41] 10 17 ?_
    simp only [wR, wB, wE0, wE1, wE2, wE3, g0, gS, s10, s11, s1S, s20, s21, s2S, kl0, kl1, kl2, kl3, sp0, sp1, sp2, sp3, cn1, cn2, cn3, cn4, cn5, cn6, jJa, lk0, lk1, jmS, jmN, s4_0, s4_1, s4_2, s4_3, s4_4, sw0, sw1, cKs, cKn, true_and, and_true, List.map_cons, List.map_nil, Nat.reduceAdd, Nat.zero_add, Int.reduceAdd, Nat.reduceEqDiff, reduceIte, Classical.not_not, b_Md_surely, shMd]
    refine ⟨by omega, MS.to (c_Md_everybody hH.2.1 hP) fun _ => ?_⟩
    simp only [wR, wB, wE0, wE1, wE2, wE3, g0, gS, s10, s11, s1S, s20, s21, s2S, kl0, kl1, kl2, kl3, sp0, sp1, sp2, sp3, cn1, cn2, cn3, cn4, cn5, cn6, jJa, lk0, lk1, jmS, jmN, s4_0, s4_1, s4_2, s4_3, s4_4, sw0, sw1, cKs, cKn, true_and, and_true, List.map_cons, List.map_nil, Nat.reduceAdd, Nat.zero_add, Int.reduceAdd, Nat.reduceEqDiff, reduceIte, Classical.not_not, b_Md_surely, shMd]
    refine ⟨by omega, (c_Md_laysStands (d := d - 1) (by omega) hok mok hH hm (all_lt hP)).mono ?_⟩
    rintro r M1 okM1 ⟨rfl, ⟨l, L1⟩, u1, u2⟩
    simp only [wR, wB, wE0, wE1, wE2, wE3, g0, gS, s10, s11, s1S, s20, s21, s2S, kl0, kl1, kl2, kl3, sp0, sp1, sp2, sp3, cn1, cn2, cn3, cn4, cn5, cn6, jJa, lk0, lk1, jmS, jmN, s4_0, s4_1, s4_2, s4_3, s4_4, sw0, sw1, cKs, cKn, true_and, and_true, List.map_cons, List.map_nil, Nat.reduceAdd, Nat.zero_add, Int.reduceAdd, Nat.reduceEqDiff, reduceIte, Classical.not_not, b_Md_surely, shMd]
    obtain ⟨c1, c2⟩ := hR'.lay u1 u2
    obtain ⟨t1, t2⟩ := (c1.2.2.2.2.2.1 j hj).2 hne
    obtain ⟨hH1, hm1, -⟩ := c1.past
    have keep : ∀ K : AM, Same [133] M1 K → LSt K σ.h σ.m.sd σ.m.cold (2 ^ σ.h.P - 1) (cod σ.m.st σ.h.P) l ∧ MH (K 118) σ.h ∧ MRow (fun y => K 118 (19 + y)) σ.h.P σ.m ∧ K 136 = M1 136 ∧ K 137 = M1 137 ∧ MR K σ ∧ Lo M K := by
      intro K hK
      obtain ⟨g1, g2⟩ := hR'.lay4 ((u1.mono (by simp)).trans (hK.mono (by simp))) (fun y hy => by rw [hK.at 117 _ (by (first | decide | (simp only [List.mem_cons, List.not_mem_nil, or_false, not_or, not_false_eq_true, and_true]; omega) | (simp [List.mem_cons]; done)))]; exact u2 y hy)
      exact ⟨L1.far (hK.at 117 _ (by (first | decide | (simp only [List.mem_cons, List.not_mem_nil, or_false, not_or, not_false_eq_true, and_true]; omega) | (simp [List.mem_cons]; done)))) (fun x hx => hK x (by (first | decide | (simp only [List.mem_cons, List.not_mem_nil, or_false, not_or, not_false_eq_true, and_true]; omega) | (simp [List.mem_cons]; done)))), by rw [hK 118 (by (first | decide | (simp only [List.mem_cons, List.not_mem_nil, or_false, not_or, not_false_eq_true, and_true]; omega) | (simp [List.mem_cons]; done)))]; exact hH1, by rw [hK 118 (by (first | decide | (simp only [List.mem_cons, List.not_mem_nil, or_false, not_or, not_false_eq_true, and_true]; omega) | (simp [List.mem_cons]; done)))]; exact hm1, hK 136 (by (first | decide | (simp only [List.mem_cons, List.not_mem_nil, or_false, not_or, not_false_eq_true, and_true]; omega) | (simp [List.mem_cons]; done))), hK 137 (by (first | decide | (simp only [List.mem_cons, List.not_mem_nil, or_false, not_or, not_false_eq_true, and_true]; omega) | (simp [List.mem_cons]; done))), g1, hlo.trans g2⟩
    refine ⟨by omega, (c_Md_laysSeen (d := d - 1) (but := 31) (told := (σ.tr j).2.2) (by omega) hok mok hH1 hm1 L1 (by omega) hj (by omega) t1 t2).mono ?_⟩
    rintro r M2 okM2 ⟨rfl, v1, v2⟩
    rw [Wy31]
    simp only [wR, wB, wE0, wE1, wE2, wE3, g0, gS, s10, s11, s1S, s20, s21, s2S, kl0, kl1, kl2, kl3, sp0, sp1, sp2, sp3, cn1, cn2, cn3, cn4, cn5, cn6, jJa, lk0, lk1, jmS, jmN, s4_0, s4_1, s4_2, s4_3, s4_4, sw0, sw1, cKs, cKn, true_and, and_true, List.map_cons, List.map_nil, Nat.reduceAdd, Nat.zero_add, Int.reduceAdd, Nat.reduceEqDiff, reduceIte, Classical.not_not, b_Md_surely, cmp3_eq]
    unfold surI at hQ
    by_cases qw : Wy (okSn σ.h (σ.tr j).2.2) (nxt σ.h σ.m.sd σ.m.cold) (σ.tr j).2.1 0 (cod σ.m.st σ.h.P) = 0
    · rw [if_pos qw] at hQ
      obtain ⟨-, -, -, -, -, g1, g2⟩ := keep M2 v2
      subst hQ
      (repeat' (first | omega | (with_reducible exact True.intro) | exact ⟨by omega, by omega⟩ | (with_reducible exact Or.inr trivial) | (with_reducible exact Or.inl trivial) | (with_reducible assumption) | (with_reducible exact Same.refl) | (with_reducible rfl) | (with_reducible refine And.intro ?_ ?_) | (with_reducible intro _)))
      all_goals rfl
    · rw [if_neg qw] at hQ
      have loop : ∀ (r p : Nat) (K : AM), p + r = σ.h.P → Same [133] M1 K → AW G d mi_Md_surely Q 44 [some (vr 117), some (vi j), some (vi (aRN σ j 8 (-1) 5)), some (vi (bitsP (fun p => decide (Wy (okB (okSn σ.h (σ.tr j).2.2) p) (nxt σ.h σ.m.sd σ.m.cold) (σ.tr j).2.1 0 (cod σ.m.st σ.h.P) = 0)) p)), some (vi p)] [] K := by
        intro r
        induction r with
        | zero =>
          intro p K hp hK
          obtain ⟨k1, k2, k3, k4, k5, g1, g2⟩ := keep K hK
          refine AW.run ck_Md_surely [76] 10 44 ?_
          simp only [wR, wB, wE0, wE1, wE2, wE3, g0, gS, s10, s11, s1S, s20, s21, s2S, kl0, kl1, kl2, kl3, sp0, sp1, sp2, sp3, cn1, cn2, cn3, cn4, cn5, cn6, jJa, lk0, lk1, jmS, jmN, s4_0, s4_1, s4_2, s4_3, s4_4, sw0, sw1, cKs, cKn, true_and, and_true, List.map_cons, List.map_nil, Nat.reduceAdd, Nat.zero_add, Int.reduceAdd, Nat.reduceEqDiff, reduceIte, Classical.not_not, b_Md_surely, shMd, k2.2.1]
          subst hQ
          rw [show p = σ.h.P by omega]
          (repeat' (first | omega | (with_reducible exact True.intro) | exact ⟨by omega, by omega⟩ | (with_reducible exact Or.inr trivial) | (with_reducible exact Or.inl trivial) | (with_reducible assumption) | (with_reducible exact Same.refl) | (with_reducible rfl) | (with_reducible refine And.intro ?_ ?_) | (with_reducible intro _)))
        | succ r ih =>
          intro p K hp hK
          obtain ⟨k1, k2, k3, k4, k5, g1, g2⟩ := keep K hK
          have hbl := bitsP_lt (fun p => decide (Wy (okB (okSn σ.h (σ.tr j).2.2) p) (nxt σ.h σ.m.sd σ.m.cold) (σ.tr j).2.1 0 (cod σ.m.st σ.h.P) = 0)) p
          have hb32 := p2_lt (p := p) (by omega)
          have esh : bShl 1 (p : Int) = ((2 ^ p : Nat) : Int) := by rw [show (1 : Int) = ((1 : Nat) : Int) from rfl, bShl_n (by omega) (by omega), Nat.one_mul]
          have ih' := ih (p + 1)
          simp only [bitsP] at ih'
          have hor0 : bOr ((bitsP (fun p => decide (Wy (okB (okSn σ.h (σ.tr j).2.2) p) (nxt σ.h σ.m.sd σ.m.cold) (σ.tr j).2.1 0 (cod σ.m.st σ.h.P) = 0)) p : Nat) : Int) 0 = ((bitsP (fun p => decide (Wy (okB (okSn σ.h (σ.tr j).2.2) p) (nxt σ.h σ.m.sd σ.m.cold) (σ.tr j).2.1 0 (cod σ.m.st σ.h.P) = 0)) p : Nat) : Int) := or_0 (by omega)
          have hor1 := bits_or hbl (show p < 5 by omega)
          generalize bitsP (fun p => decide (Wy (okB (okSn σ.h (σ.tr j).2.2) p) (nxt σ.h σ.m.sd σ.m.cold) (σ.tr j).2.1 0 (cod σ.m.st σ.h.P) = 0)) p = bb at ih' hbl hor0 hor1 ⊢
          refine AW.run ck_Md_surely [44, 84] 10 44 ?_
          simp only [wR, wB, wE0, wE1, wE2, wE3, g0, gS, s10, s11, s1S, s20, s21, s2S, kl0, kl1, kl2, kl3, sp0, sp1, sp2, sp3, cn1, cn2, cn3, cn4, cn5, cn6, jJa, lk0, lk1, jmS, jmN, s4_0, s4_1, s4_2, s4_3, s4_4, sw0, sw1, cKs, cKn, true_and, and_true, List.map_cons, List.map_nil, Nat.reduceAdd, Nat.zero_add, Int.reduceAdd, Nat.reduceEqDiff, reduceIte, Classical.not_not, b_Md_surely, shMd, k2.2.1]
          (repeat' (first | omega | (with_reducible exact True.intro) | exact ⟨by omega, by omega⟩ | (with_reducible exact Or.inr trivial) | (with_reducible exact Or.inl trivial) | (with_reducible assumption) | (with_reducible exact Same.refl) | (with_reducible rfl) | (with_reducible refine And.intro ?_ ?_) | (with_reducible intro _)))
          refine (c_Md_laysSeen (d := d - 1) (but := p) (n := (σ.tr j).2.1) (told := (σ.tr j).2.2) (by omega) hok mok k2 k3 k1 (by omega) hj (by omega) (by rw [k4]; exact t1) (by rw [k5]; exact t2)).mono ?_
          rintro r' K2 okK2 ⟨rfl, w1, w2⟩
          have key := ih' K2 (by omega) (hK.trans w2)
          simp only [wR, wB, wE0, wE1, wE2, wE3, g0, gS, s10, s11, s1S, s20, s21, s2S, kl0, kl1, kl2, kl3, sp0, sp1, sp2, sp3, cn1, cn2, cn3, cn4, cn5, cn6, jJa, lk0, lk1, jmS, jmN, s4_0, s4_1, s4_2, s4_3, s4_4, sw0, sw1, cKs, cKn, true_and, and_true, List.map_cons, List.map_nil, Nat.reduceAdd, Nat.zero_add, Int.reduceAdd, Nat.reduceEqDiff, reduceIte, Classical.not_not, b_Md_surely, shMd, cmp3_eq]
          by_cases qp : Wy (okB (okSn σ.h (σ.tr j).2.2) p) (nxt σ.h σ.m.sd σ.m.cold) (σ.tr j).2.1 0 (cod σ.m.st σ.h.P) = 0
          · rw [if_pos (by simpa using qp)] at key
            rw [qp]
            simp only [wR, wB, wE0, wE1, wE2, wE3, g0, gS, s10, s11, s1S, s20, s21, s2S, kl0, kl1, kl2, kl3, sp0, sp1, sp2, sp3, cn1, cn2, cn3, cn4, cn5, cn6, jJa, lk0, lk1, jmS, jmN, s4_0, s4_1, s4_2, s4_3, s4_4, sw0, sw1, cKs, cKn, true_and, and_true, List.map_cons, List.map_nil, Nat.reduceAdd, Nat.zero_add, Int.reduceAdd, Nat.reduceEqDiff, reduceIte, Classical.not_not, nc0, Int.reduceEq, not_true_eq_false, not_false_eq_true, false_imp_iff, true_imp_iff, and_self, esh, hor1, ce]
            (repeat' (first | omega | (with_reducible exact True.intro) | exact ⟨by omega, by omega⟩ | (with_reducible exact Or.inr trivial) | (with_reducible exact Or.inl trivial) | (with_reducible assumption) | (with_reducible exact Same.refl) | (with_reducible rfl) | (with_reducible refine And.intro ?_ ?_) | (with_reducible intro _)))
          · rw [if_neg (by simpa using qp), Nat.add_zero] at key
            simp only [wR, wB, wE0, wE1, wE2, wE3, g0, gS, s10, s11, s1S, s20, s21, s2S, kl0, kl1, kl2, kl3, sp0, sp1, sp2, sp3, cn1, cn2, cn3, cn4, cn5, cn6, jJa, lk0, lk1, jmS, jmN, s4_0, s4_1, s4_2, s4_3, s4_4, sw0, sw1, cKs, cKn, true_and, and_true, List.map_cons, List.map_nil, Nat.reduceAdd, Nat.zero_add, Int.reduceAdd, Nat.reduceEqDiff, reduceIte, Classical.not_not, hor0, ce]
            (repeat' (first | omega | (with_reducible exact True.intro) | exact ⟨by omega, by omega⟩ | (with_reducible exact Or.inr trivial) | (with_reducible exact Or.inl trivial) | (with_reducible assumption) | (with_reducible exact Same.refl) | (with_reducible rfl) | (with_reducible refine And.intro ?_ ?_) | (with_reducible intro _)))
      have := loop σ.h.P 0 M2 (by omega) v2
      (repeat' (first | omega | (with_reducible exact True.intro) | exact ⟨by omega, by omega⟩ | (with_reducible exact Or.inr trivial) | (with_reducible exact Or.inl trivial) | (with_reducible assumption) | (with_reducible exact Same.refl) | (with_reducible rfl) | (with_reducible refine And.intro ?_ ?_) | (with_reducible intro _)))
      refine AW.run ck_Md_surely [44] 10 41 ?_
      simp only [wR, wB, wE0, wE1, wE2, wE3, g0, gS, s10, s11, s1S, s20, s21, s2S, kl0, kl1, kl2, kl3, sp0, sp1, sp2, sp3, cn1, cn2, cn3, cn4, cn5, cn6, jJa, lk0, lk1, jmS, jmN, s4_0, s4_1, s4_2, s4_3, s4_4, sw0, sw1, cKs, cKn, true_and, and_true, List.map_cons, List.map_nil, Nat.reduceAdd, Nat.zero_add, Int.reduceAdd, Nat.reduceEqDiff, reduceIte, Classical.not_not, b_Md_surely]
      exact this
  · rw [if_neg q] at hQ
    subst hQ
    (repeat' (first | omega | (with_reducible exact True.intro) | exact ⟨by omega, by omega⟩ | (with_reducible exact Or.inr trivial) | (with_reducible exact Or.inl trivial) | (with_reducible assumption) | (with_reducible exact Same.refl) | (with_reducible rfl) | (with_reducible refine And.intro ?_ ?_) | (with_reducible intro _)))
set_option maxRecDepth 20000 in
theorem c_Md_seenBy {t i : Int} {B : Nat} {σ : Sg} (hd : 30 ≤ d) (ok : SgOK B σ) (hR : MR M σ) : MS G d mi_Md_seenBy [vr 117, vi t, vi i] M (fun r M' => r = some (vi (aSeenBy σ t i)) ∧ MR M' σ ∧ Lo M M') := by
  have hR' := hR.thr
  have hok := ok.2.2.1
  have hP := hok.1
  have mok := ok.2.2.2.1.1
  refine MS.by ck_Md_seenBy [some (vr 117), some (vi t), some (vi i), none, none, none, none] fun _ _ => ?_
  generalize hQ : (fun (r : Option AV) (M' : AM) => r = some (vi (aSeenBy σ t i)) ∧ MR M' σ ∧ Lo M M') = Q
  unfold aSeenBy at hQ
  refine AW.run ck_Md_seenBy [17] 10 0 ?_
  simp only [wR, wB, wE0, wE1, wE2, wE3, g0, gS, s10, s11, s1S, s20, s21, s2S, kl0, kl1, kl2, kl3, sp0, sp1, sp2, sp3, cn1, cn2, cn3, cn4, cn5, cn6, jJa, lk0, lk1, jmS, jmN, s4_0, s4_1, s4_2, s4_3, s4_4, sw0, sw1, cKs, cKn, true_and, and_true, List.map_cons, List.map_nil, Nat.reduceAdd, Nat.zero_add, Int.reduceAdd, Nat.reduceEqDiff, reduceIte, Classical.not_not, b_Md_seenBy, shMd]
  have hlo : Lo M (up M 117 0 0) := thr_lo
  generalize up M 117 0 0 = N at hR' hlo ⊢
  obtain ⟨hH, hm, -⟩ := hR'.past
  refine ⟨by omega, MS.to (c_Md_noSeen (d := d - 1) (by omega) ok hR') fun _ => ?_⟩
  simp only [wR, wB, wE0, wE1, wE2, wE3, g0, gS, s10, s11, s1S, s20, s21, s2S, kl0, kl1, kl2, kl3, sp0, sp1, sp2, sp3, cn1, cn2, cn3, cn4, cn5, cn6, jJa, lk0, lk1, jmS, jmN, s4_0, s4_1, s4_2, s4_3, s4_4, sw0, sw1, cKs, cKn, true_and, and_true, List.map_cons, List.map_nil, Nat.reduceAdd, Nat.zero_add, Int.reduceAdd, Nat.reduceEqDiff, reduceIte, Classical.not_not, b_Md_seenBy, shMd]
  by_cases q : aRN σ t 8 (-1) 5 = 0
  · rw [if_pos q] at hQ
    obtain ⟨j, rfl, hj, hne, h1, h8, -⟩ := aRN_0 q
    rw [Int.toNat_natCast] at hQ
    (repeat' (first | omega | (with_reducible exact True.intro) | exact ⟨by omega, by omega⟩ | (with_reducible exact Or.inr trivial) | (with_reducible exact Or.inl trivial) | (with_reducible assumption) | (with_reducible exact Same.refl) | (with_reducible rfl) | (with_reducible refine And.intro ?_ ?_) | (with_reducible intro _)))
    refine AW.run ck_Md_seenBy [24] 10 17 ?_
    simp only [wR, wB, wE0, wE1, wE2, wE3, g0, gS, s10, s11, s1S, s20, s21, s2S, kl0, kl1, kl2, kl3, sp0, sp1, sp2, sp3, cn1, cn2, cn3, cn4, cn5, cn6, jJa, lk0, lk1, jmS, jmN, s4_0, s4_1, s4_2, s4_3, s4_4, sw0, sw1, cKs, cKn, true_and, and_true, List.map_cons, List.map_nil, Nat.reduceAdd, Nat.zero_add, Int.reduceAdd, Nat.reduceEqDiff, reduceIte, Classical.not_not, b_Md_seenBy, shMd]
    by_cases q2 : i < 0
    · rw [if_pos q2] at hQ
      subst hQ
      (repeat' (first | omega | (with_reducible exact True.intro) | exact ⟨by omega, by omega⟩ | (with_reducible exact Or.inr trivial) | (with_reducible exact Or.inl trivial) | (with_reducible assumption) | (with_reducible exact Same.refl) | (with_reducible rfl) | (with_reducible refine And.intro ?_ ?_) | (with_reducible intro _)))
    · rw [if_neg q2] at hQ
      obtain ⟨i, rfl⟩ := Int.eq_ofNat_of_zero_le (show 0 ≤ i by omega)
      rw [Int.toNat_natCast] at hQ
      (repeat' (first | omega | (with_reducible exact True.intro) | exact ⟨by omega, by omega⟩ | (with_reducible exact Or.inr trivial) | (with_reducible exact Or.inl trivial) | (with_reducible assumption) | (with_reducible exact Same.refl) | (with_reducible rfl) | (with_reducible refine And.intro ?_ ?_) | (with_reducible intro _)))
      refine AW.run ck_Md_seenBy [54, 56] 10 24 ?_
      simp only [wR, wB, wE0, wE1, wE2, wE3, g0, gS, s10, s11, s1S, s20, s21, s2S, kl0, kl1, kl2, kl3, sp0, sp1, sp2, sp3, cn1, cn2, cn3, cn4, cn5, cn6, jJa, lk0, lk1, jmS, jmN, s4_0, s4_1, s4_2, s4_3, s4_4, sw0, sw1, cKs, cKn, true_and, and_true, List.map_cons, List.map_nil, Nat.reduceAdd, Nat.zero_add, Int.reduceAdd, Nat.reduceEqDiff, reduceIte, Classical.not_not, b_Md_seenBy, shMd]
      refine ⟨by omega, MS.to (c_Md_everybody hH.2.1 hP) fun _ => ?_⟩
      simp only [wR, wB, wE0, wE1, wE2, wE3, g0, gS, s10, s11, s1S, s20, s21, s2S, kl0, kl1, kl2, kl3, sp0, sp1, sp2, sp3, cn1, cn2, cn3, cn4, cn5, cn6, jJa, lk0, lk1, jmS, jmN, s4_0, s4_1, s4_2, s4_3, s4_4, sw0, sw1, cKs, cKn, true_and, and_true, List.map_cons, List.map_nil, Nat.reduceAdd, Nat.zero_add, Int.reduceAdd, Nat.reduceEqDiff, reduceIte, Classical.not_not, b_Md_seenBy, shMd]
      refine ⟨by omega, (c_Md_laysStands (d := d - 1) (by omega) hok mok hH hm (all_lt hP)).mono ?_⟩
      rintro r M1 okM1 ⟨rfl, ⟨l, L1⟩, u1, u2⟩
      simp only [wR, wB, wE0, wE1, wE2, wE3, g0, gS, s10, s11, s1S, s20, s21, s2S, kl0, kl1, kl2, kl3, sp0, sp1, sp2, sp3, cn1, cn2, cn3, cn4, cn5, cn6, jJa, lk0, lk1, jmS, jmN, s4_0, s4_1, s4_2, s4_3, s4_4, sw0, sw1, cKs, cKn, true_and, and_true, List.map_cons, List.map_nil, Nat.reduceAdd, Nat.zero_add, Int.reduceAdd, Nat.reduceEqDiff, reduceIte, Classical.not_not, b_Md_seenBy, shMd]
      obtain ⟨c1, c2⟩ := hR'.lay u1 u2
      obtain ⟨t1, t2⟩ := (c1.2.2.2.2.2.1 j hj).2 hne
      obtain ⟨hH1, hm1, -⟩ := c1.past
      refine ⟨by omega, (c_Md_laysSeen (d := d - 1) (but := 31) (told := (σ.tr j).2.2) (by omega) hok mok hH1 hm1 L1 (by omega) hj (by omega) t1 t2).mono ?_⟩
      rintro r K okK ⟨rfl, v1, v2⟩
      obtain ⟨g1, g2⟩ := hR'.lay4 ((u1.mono (by simp)).trans (v2.mono (by simp))) (fun y hy => by rw [v2.at 117 _ (by (first | decide | (simp only [List.mem_cons, List.not_mem_nil, or_false, not_or, not_false_eq_true, and_true]; omega) | (simp [List.mem_cons]; done)))]; exact u2 y hy)
      have g3 := hlo.trans g2
      have LK := L1.far (N := K) (v2.at 117 _ (by (first | decide | (simp only [List.mem_cons, List.not_mem_nil, or_false, not_or, not_false_eq_true, and_true]; omega) | (simp [List.mem_cons]; done)))) (fun x hx => v2 x (by (first | decide | (simp only [List.mem_cons, List.not_mem_nil, or_false, not_or, not_false_eq_true, and_true]; omega) | (simp [List.mem_cons]; done))))
      obtain ⟨hHK, hmK, -⟩ := g1.past
      have e136 : K 136 (j : Int) = (σ.tr j).2.1 := by rw [v2.at 136 _ (by (first | decide | (simp only [List.mem_cons, List.not_mem_nil, or_false, not_or, not_false_eq_true, and_true]; omega) | (simp [List.mem_cons]; done)))]; exact t1
      have e137 : ∀ k : Nat, k < (σ.tr j).2.1 → K 137 (40 * (j : Int) + (k : Int)) = (σ.tr j).2.2 k := fun k hk => by rw [v2.at 137 _ (by (first | decide | (simp only [List.mem_cons, List.not_mem_nil, or_false, not_or, not_false_eq_true, and_true]; omega) | (simp [List.mem_cons]; done)))]; exact t2 k hk
      rw [Wy31]
      have hon : ∀ i', i' ≤ (σ.tr j).2.1 → ∀ s, s ∈ l → K 133 (3125 * (i' : Int) + (s : Int)) = Wy (okSn σ.h (σ.tr j).2.2) (nxt σ.h σ.m.sd σ.m.cold) ((σ.tr j).2.1 - i') i' s := fun i' h2 s hs => by
        rw [v1 i' (by omega) h2 s hs, Wy31]
      have hsin : cod σ.m.st σ.h.P ∈ l := (LK.2.1.2 _).mpr Rc.refl
      have hl3 := LK.1.2.2.2.2
      have hcl := LK.cl
      have hokP : ∀ i s y, okSn σ.h (σ.tr j).2.2 i s y = true → okP σ.h.P (2 ^ σ.h.P - 1) s y = true := fun i s y e => by
        rw [okSn_P, Bool.and_eq_true] at e
        exact e.1
      generalize hnn : (σ.tr j).2.1 = n at *
      generalize htd : (σ.tr j).2.2 = told at *
      generalize hokf : okSn σ.h told = okI at *
      generalize hnxf : nxt σ.h σ.m.sd σ.m.cold = nxf at *
      generalize hs0 : cod σ.m.st σ.h.P = s0 at *
      have a54 : sbI okI nxf s0 n i = -1 → ∀ l4 l5 l6, AW G d mi_Md_seenBy Q 54 [some (vr 117), some (vi j), some (vi i), some (vi (aRN σ j 8 (-1) 5)), l4, l5, l6] [] K := by
        intro e l4 l5 l6
        refine AW.run ck_Md_seenBy [] 10 54 ?_
        simp only [wR, wB, wE0, wE1, wE2, wE3, g0, gS, s10, s11, s1S, s20, s21, s2S, kl0, kl1, kl2, kl3, sp0, sp1, sp2, sp3, cn1, cn2, cn3, cn4, cn5, cn6, jJa, lk0, lk1, jmS, jmN, s4_0, s4_1, s4_2, s4_3, s4_4, sw0, sw1, cKs, cKn, true_and, and_true, List.map_cons, List.map_nil, Nat.reduceAdd, Nat.zero_add, Int.reduceAdd, Nat.reduceEqDiff, reduceIte, Classical.not_not, b_Md_seenBy]
        subst hQ
        rw [e]
        exact ⟨rfl, g1, g3⟩
      simp only [wR, wB, wE0, wE1, wE2, wE3, g0, gS, s10, s11, s1S, s20, s21, s2S, kl0, kl1, kl2, kl3, sp0, sp1, sp2, sp3, cn1, cn2, cn3, cn4, cn5, cn6, jJa, lk0, lk1, jmS, jmN, s4_0, s4_1, s4_2, s4_3, s4_4, sw0, sw1, cKs, cKn, true_and, and_true, List.map_cons, List.map_nil, Nat.reduceAdd, Nat.zero_add, Int.reduceAdd, Nat.reduceEqDiff, reduceIte, Classical.not_not, b_Md_seenBy, shMd, cmp3_eq, e136]
      by_cases qw : Wy okI nxf n 0 s0 = 0
      · have := a54 (by unfold sbI; rw [if_pos (Or.inl qw)]) none none none
        rw [qw]
        simp only [wR, wB, wE0, wE1, wE2, wE3, g0, gS, s10, s11, s1S, s20, s21, s2S, kl0, kl1, kl2, kl3, sp0, sp1, sp2, sp3, cn1, cn2, cn3, cn4, cn5, cn6, jJa, lk0, lk1, jmS, jmN, s4_0, s4_1, s4_2, s4_3, s4_4, sw0, sw1, cKs, cKn, true_and, and_true, List.map_cons, List.map_nil, Nat.reduceAdd, Nat.zero_add, Int.reduceAdd, Nat.reduceEqDiff, reduceIte, Classical.not_not, nc0, Int.reduceEq, not_true_eq_false, not_false_eq_true, false_imp_iff, true_imp_iff, and_self]
        (repeat' (first | omega | (with_reducible exact True.intro) | exact ⟨by omega, by omega⟩ | (with_reducible exact Or.inr trivial) | (with_reducible exact Or.inl trivial) | (with_reducible assumption) | (with_reducible exact Same.refl) | (with_reducible rfl) | (with_reducible refine And.intro ?_ ?_) | (with_reducible intro _)))
      · by_cases qi : n ≤ i
        · have := a54 (by unfold sbI; rw [if_pos (Or.inr qi)]) none none none
          (repeat' (first | omega | (with_reducible exact True.intro) | exact ⟨by omega, by omega⟩ | (with_reducible exact Or.inr trivial) | (with_reducible exact Or.inl trivial) | (with_reducible assumption) | (with_reducible exact Same.refl) | (with_reducible rfl) | (with_reducible refine And.intro ?_ ?_) | (with_reducible intro _)))
        · obtain ⟨c, t, hch⟩ := Chl_ex (okI := okI) (nx := nxf) (s0 := s0) (n := n) (by omega)
          have er := sbI_c hch (by omega) (show i < n by omega)
          rw [er] at hQ
          have hcm : ∀ k, k ≤ n → c k ∈ l := by
            intro k
            induction k with
            | zero => intro _; rw [hch.1]; exact hsin
            | succ k ih =>
              intro hk
              obtain ⟨b1, b2, b3, _⟩ := hch.2 k (by omega)
              rw [← b3]
              exact hcl _ _ (ih (by omega)) b1 (hokP _ _ _ b2)
          have loop : ∀ (r k : Nat) (l6 : Option AV), k + r = i → AW G d mi_Md_seenBy Q 65 [some (vr 117), some (vi j), some (vi i), some (vi (aRN σ j 8 (-1) 5)), some (vi (c k)), some (vi k), l6] [] K := by
            intro r
            induction r with
            | zero =>
              intro k l6 hk
              obtain rfl : k = i := by omega
              have hck := hcm k (by omega)
              have hc3 := hl3 _ hck
              obtain ⟨b1, b2, b3, b4, b5⟩ := hch.2 k (by omega)
              have find : ∀ (r y : Nat), y + r = t k → AW G d mi_Md_seenBy Q 68 [some (vr 117), some (vi j), some (vi k), some (vi (aRN σ j 8 (-1) 5)), some (vi (c k)), some (vi k), some (vi y)] [] K := by
                intro r
                induction r with
                | zero =>
                  intro y hy
                  obtain rfl : y = t k := by omega
                  have e126 := (LK.2.2.2 _ hck (t k) b1).1
                  rw [if_pos (hokP _ _ _ b2), hnxf, b3] at e126
                  have hcn := hcm (k + 1) (by omega)
                  have hcn3 := hl3 _ hcn
                  have e133 := hon (k + 1) (by omega) _ hcn
                  have e133' : K 133 (3125 * ((k : Int) + 1) + (c (k + 1) : Int)) = Wy okI nxf (n - (k + 1)) (k + 1) (c (k + 1)) := e133
                  refine AW.run ck_Md_seenBy [116] 10 68 ?_
                  simp only [wR, wB, wE0, wE1, wE2, wE3, g0, gS, s10, s11, s1S, s20, s21, s2S, kl0, kl1, kl2, kl3, sp0, sp1, sp2, sp3, cn1, cn2, cn3, cn4, cn5, cn6, jJa, lk0, lk1, jmS, jmN, s4_0, s4_1, s4_2, s4_3, s4_4, sw0, sw1, cKs, cKn, true_and, and_true, List.map_cons, List.map_nil, Nat.reduceAdd, Nat.zero_add, Int.reduceAdd, Nat.reduceEqDiff, reduceIte, Classical.not_not, b_Md_seenBy, shMd]
                  refine ⟨by omega, MS.to (c_Md_canBe (d := d - 1) (but := 31) (told := told) (by omega) LK hck b1 (by omega) hj (by omega) (e137 k (by omega))) fun _ => ?_⟩
                  rw [hokf, okB31 b1, if_pos b2]
                  simp only [wR, wB, wE0, wE1, wE2, wE3, g0, gS, s10, s11, s1S, s20, s21, s2S, kl0, kl1, kl2, kl3, sp0, sp1, sp2, sp3, cn1, cn2, cn3, cn4, cn5, cn6, jJa, lk0, lk1, jmS, jmN, s4_0, s4_1, s4_2, s4_3, s4_4, sw0, sw1, cKs, cKn, true_and, and_true, List.map_cons, List.map_nil, Nat.reduceAdd, Nat.zero_add, Int.reduceAdd, Nat.reduceEqDiff, reduceIte, Classical.not_not, b_Md_seenBy, shMd, e126, e133', cmp3_eq, Int.reduceEq, not_true_eq_false, not_false_eq_true, false_imp_iff, true_imp_iff, and_self]
                  subst hQ
                  (repeat' (first | omega | (with_reducible exact True.intro) | exact ⟨by omega, by omega⟩ | (with_reducible exact Or.inr trivial) | (with_reducible exact Or.inl trivial) | (with_reducible assumption) | (with_reducible exact Same.refl) | (with_reducible rfl) | (with_reducible refine And.intro ?_ ?_) | (with_reducible intro _)))
                | succ r ih2 =>
                  intro y hy
                  have key := ih2 (y + 1) (by omega)
                  have a116 : AW G d mi_Md_seenBy Q 116 [some (vr 117), some (vi j), some (vi k), some (vi (aRN σ j 8 (-1) 5)), some (vi (c k)), some (vi k), some (vi y)] [] K := by
                    refine AW.run ck_Md_seenBy [68] 10 116 ?_
                    simp only [wR, wB, wE0, wE1, wE2, wE3, g0, gS, s10, s11, s1S, s20, s21, s2S, kl0, kl1, kl2, kl3, sp0, sp1, sp2, sp3, cn1, cn2, cn3, cn4, cn5, cn6, jJa, lk0, lk1, jmS, jmN, s4_0, s4_1, s4_2, s4_3, s4_4, sw0, sw1, cKs, cKn, true_and, and_true, List.map_cons, List.map_nil, Nat.reduceAdd, Nat.zero_add, Int.reduceAdd, Nat.reduceEqDiff, reduceIte, Classical.not_not, b_Md_seenBy, ce]
                    (repeat' (first | omega | (with_reducible exact True.intro) | exact ⟨by omega, by omega⟩ | (with_reducible exact Or.inr trivial) | (with_reducible exact Or.inl trivial) | (with_reducible assumption) | (with_reducible exact Same.refl) | (with_reducible rfl) | (with_reducible refine And.intro ?_ ?_) | (with_reducible intro _)))
                  refine AW.run ck_Md_seenBy [116, 122] 10 68 ?_
                  simp only [wR, wB, wE0, wE1, wE2, wE3, g0, gS, s10, s11, s1S, s20, s21, s2S, kl0, kl1, kl2, kl3, sp0, sp1, sp2, sp3, cn1, cn2, cn3, cn4, cn5, cn6, jJa, lk0, lk1, jmS, jmN, s4_0, s4_1, s4_2, s4_3, s4_4, sw0, sw1, cKs, cKn, true_and, and_true, List.map_cons, List.map_nil, Nat.reduceAdd, Nat.zero_add, Int.reduceAdd, Nat.reduceEqDiff, reduceIte, Classical.not_not, b_Md_seenBy, shMd]
                  refine ⟨by omega, MS.to (c_Md_canBe (d := d - 1) (but := 31) (told := told) (by omega) LK hck (by omega) (by omega) hj (by omega) (e137 k (by omega))) fun _ => ?_⟩
                  rw [hokf, okB31 (by omega)]
                  simp only [wR, wB, wE0, wE1, wE2, wE3, g0, gS, s10, s11, s1S, s20, s21, s2S, kl0, kl1, kl2, kl3, sp0, sp1, sp2, sp3, cn1, cn2, cn3, cn4, cn5, cn6, jJa, lk0, lk1, jmS, jmN, s4_0, s4_1, s4_2, s4_3, s4_4, sw0, sw1, cKs, cKn, true_and, and_true, List.map_cons, List.map_nil, Nat.reduceAdd, Nat.zero_add, Int.reduceAdd, Nat.reduceEqDiff, reduceIte, Classical.not_not, b_Md_seenBy, shMd]
                  by_cases qo : okI k (c k) y = true
                  · rw [if_pos qo]
                    have e126 := (LK.2.2.2 _ hck y (by omega)).1
                    rw [if_pos (hokP _ _ _ qo), hnxf] at e126
                    have hcn := hcl _ _ hck (show y < 32 by omega) (hokP _ _ _ qo)
                    have hcn3 := hl3 _ hcn
                    have e133 := hon (k + 1) (by omega) _ hcn
                    have hz : Wy okI nxf (n - (k + 1)) (k + 1) (nxf (c k) y) = 0 := by
                      rcases Nat.eq_zero_or_pos (Wy okI nxf (n - (k + 1)) (k + 1) (nxf (c k) y)) with e | e
                      · exact e
                      · exact absurd ⟨qo, e⟩ (b5 y (by omega))
                    rw [hz] at e133
                    have e133' : K 133 (3125 * ((k : Int) + 1) + (nxf (c k) y : Int)) = 0 := e133
                    simp only [wR, wB, wE0, wE1, wE2, wE3, g0, gS, s10, s11, s1S, s20, s21, s2S, kl0, kl1, kl2, kl3, sp0, sp1, sp2, sp3, cn1, cn2, cn3, cn4, cn5, cn6, jJa, lk0, lk1, jmS, jmN, s4_0, s4_1, s4_2, s4_3, s4_4, sw0, sw1, cKs, cKn, true_and, and_true, List.map_cons, List.map_nil, Nat.reduceAdd, Nat.zero_add, Int.reduceAdd, Nat.reduceEqDiff, reduceIte, Classical.not_not, e126, e133', cmp3_eq, Int.reduceEq, not_true_eq_false, not_false_eq_true, false_imp_iff, true_imp_iff, and_self]
                    (repeat' (first | omega | (with_reducible exact True.intro) | exact ⟨by omega, by omega⟩ | (with_reducible exact Or.inr trivial) | (with_reducible exact Or.inl trivial) | (with_reducible assumption) | (with_reducible exact Same.refl) | (with_reducible rfl) | (with_reducible refine And.intro ?_ ?_) | (with_reducible intro _)))
                  · rw [if_neg qo]
                    (repeat' (first | omega | (with_reducible exact True.intro) | exact ⟨by omega, by omega⟩ | (with_reducible exact Or.inr trivial) | (with_reducible exact Or.inl trivial) | (with_reducible assumption) | (with_reducible exact Same.refl) | (with_reducible rfl) | (with_reducible refine And.intro ?_ ?_) | (with_reducible intro _)))
              have := find (t k) 0 (by omega)
              refine AW.run ck_Md_seenBy [68] 10 65 ?_
              simp only [wR, wB, wE0, wE1, wE2, wE3, g0, gS, s10, s11, s1S, s20, s21, s2S, kl0, kl1, kl2, kl3, sp0, sp1, sp2, sp3, cn1, cn2, cn3, cn4, cn5, cn6, jJa, lk0, lk1, jmS, jmN, s4_0, s4_1, s4_2, s4_3, s4_4, sw0, sw1, cKs, cKn, true_and, and_true, List.map_cons, List.map_nil, Nat.reduceAdd, Nat.zero_add, Int.reduceAdd, Nat.reduceEqDiff, reduceIte, Classical.not_not, b_Md_seenBy]
              exact this
            | succ r ih =>
              intro k l6 hk
              have hck := hcm k (by omega)
              have hc3 := hl3 _ hck
              obtain ⟨b1, b2, b3, b4, b5⟩ := hch.2 k (by omega)
              have find : ∀ (r y : Nat), y + r = t k → AW G d mi_Md_seenBy Q 68 [some (vr 117), some (vi j), some (vi i), some (vi (aRN σ j 8 (-1) 5)), some (vi (c k)), some (vi k), some (vi y)] [] K := by
                intro r
                induction r with
                | zero =>
                  intro y hy
                  obtain rfl : y = t k := by omega
                  have e126 := (LK.2.2.2 _ hck (t k) b1).1
                  rw [if_pos (hokP _ _ _ b2), hnxf, b3] at e126
                  have hcn := hcm (k + 1) (by omega)
                  have hcn3 := hl3 _ hcn
                  have e133 := hon (k + 1) (by omega) _ hcn
                  have e133' : K 133 (3125 * ((k : Int) + 1) + (c (k + 1) : Int)) = Wy okI nxf (n - (k + 1)) (k + 1) (c (k + 1)) := e133
                  have key := ih (k + 1) (some (vi (t k))) (by omega)
                  refine AW.run ck_Md_seenBy [116, 65] 10 68 ?_
                  simp only [wR, wB, wE0, wE1, wE2, wE3, g0, gS, s10, s11, s1S, s20, s21, s2S, kl0, kl1, kl2, kl3, sp0, sp1, sp2, sp3, cn1, cn2, cn3, cn4, cn5, cn6, jJa, lk0, lk1, jmS, jmN, s4_0, s4_1, s4_2, s4_3, s4_4, sw0, sw1, cKs, cKn, true_and, and_true, List.map_cons, List.map_nil, Nat.reduceAdd, Nat.zero_add, Int.reduceAdd, Nat.reduceEqDiff, reduceIte, Classical.not_not, b_Md_seenBy, shMd]
                  refine ⟨by omega, MS.to (c_Md_canBe (d := d - 1) (but := 31) (told := told) (by omega) LK hck b1 (by omega) hj (by omega) (e137 k (by omega))) fun _ => ?_⟩
                  rw [hokf, okB31 b1, if_pos b2]
                  simp only [wR, wB, wE0, wE1, wE2, wE3, g0, gS, s10, s11, s1S, s20, s21, s2S, kl0, kl1, kl2, kl3, sp0, sp1, sp2, sp3, cn1, cn2, cn3, cn4, cn5, cn6, jJa, lk0, lk1, jmS, jmN, s4_0, s4_1, s4_2, s4_3, s4_4, sw0, sw1, cKs, cKn, true_and, and_true, List.map_cons, List.map_nil, Nat.reduceAdd, Nat.zero_add, Int.reduceAdd, Nat.reduceEqDiff, reduceIte, Classical.not_not, b_Md_seenBy, shMd, e126, e133', cmp3_eq, Int.reduceEq, not_true_eq_false, not_false_eq_true, false_imp_iff, true_imp_iff, and_self, ce]
                  (repeat' (first | omega | (with_reducible exact True.intro) | exact ⟨by omega, by omega⟩ | (with_reducible exact Or.inr trivial) | (with_reducible exact Or.inl trivial) | (with_reducible assumption) | (with_reducible exact Same.refl) | (with_reducible rfl) | (with_reducible refine And.intro ?_ ?_) | (with_reducible intro _)))
                | succ r ih2 =>
                  intro y hy
                  have key := ih2 (y + 1) (by omega)
                  have a116 : AW G d mi_Md_seenBy Q 116 [some (vr 117), some (vi j), some (vi i), some (vi (aRN σ j 8 (-1) 5)), some (vi (c k)), some (vi k), some (vi y)] [] K := by
                    refine AW.run ck_Md_seenBy [68] 10 116 ?_
                    simp only [wR, wB, wE0, wE1, wE2, wE3, g0, gS, s10, s11, s1S, s20, s21, s2S, kl0, kl1, kl2, kl3, sp0, sp1, sp2, sp3, cn1, cn2, cn3, cn4, cn5, cn6, jJa, lk0, lk1, jmS, jmN, s4_0, s4_1, s4_2, s4_3, s4_4, sw0, sw1, cKs, cKn, true_and, and_true, List.map_cons, List.map_nil, Nat.reduceAdd, Nat.zero_add, Int.reduceAdd, Nat.reduceEqDiff, reduceIte, Classical.not_not, b_Md_seenBy, ce]
                    (repeat' (first | omega | (with_reducible exact True.intro) | exact ⟨by omega, by omega⟩ | (with_reducible exact Or.inr trivial) | (with_reducible exact Or.inl trivial) | (with_reducible assumption) | (with_reducible exact Same.refl) | (with_reducible rfl) | (with_reducible refine And.intro ?_ ?_) | (with_reducible intro _)))
                  refine AW.run ck_Md_seenBy [116, 122] 10 68 ?_
                  simp only [wR, wB, wE0, wE1, wE2, wE3, g0, gS, s10, s11, s1S, s20, s21, s2S, kl0, kl1, kl2, kl3, sp0, sp1, sp2, sp3, cn1, cn2, cn3, cn4, cn5, cn6, jJa, lk0, lk1, jmS, jmN, s4_0, s4_1, s4_2, s4_3, s4_4, sw0, sw1, cKs, cKn, true_and, and_true, List.map_cons, List.map_nil, Nat.reduceAdd, Nat.zero_add, Int.reduceAdd, Nat.reduceEqDiff, reduceIte, Classical.not_not, b_Md_seenBy, shMd]
                  refine ⟨by omega, MS.to (c_Md_canBe (d := d - 1) (but := 31) (told := told) (by omega) LK hck (by omega) (by omega) hj (by omega) (e137 k (by omega))) fun _ => ?_⟩
                  rw [hokf, okB31 (by omega)]
                  simp only [wR, wB, wE0, wE1, wE2, wE3, g0, gS, s10, s11, s1S, s20, s21, s2S, kl0, kl1, kl2, kl3, sp0, sp1, sp2, sp3, cn1, cn2, cn3, cn4, cn5, cn6, jJa, lk0, lk1, jmS, jmN, s4_0, s4_1, s4_2, s4_3, s4_4, sw0, sw1, cKs, cKn, true_and, and_true, List.map_cons, List.map_nil, Nat.reduceAdd, Nat.zero_add, Int.reduceAdd, Nat.reduceEqDiff, reduceIte, Classical.not_not, b_Md_seenBy, shMd]
                  by_cases qo : okI k (c k) y = true
                  · rw [if_pos qo]
                    have e126 := (LK.2.2.2 _ hck y (by omega)).1
                    rw [if_pos (hokP _ _ _ qo), hnxf] at e126
                    have hcn := hcl _ _ hck (show y < 32 by omega) (hokP _ _ _ qo)
                    have hcn3 := hl3 _ hcn
                    have e133 := hon (k + 1) (by omega) _ hcn
                    have hz : Wy okI nxf (n - (k + 1)) (k + 1) (nxf (c k) y) = 0 := by
                      rcases Nat.eq_zero_or_pos (Wy okI nxf (n - (k + 1)) (k + 1) (nxf (c k) y)) with e | e
                      · exact e
                      · exact absurd ⟨qo, e⟩ (b5 y (by omega))
                    rw [hz] at e133
                    have e133' : K 133 (3125 * ((k : Int) + 1) + (nxf (c k) y : Int)) = 0 := e133
                    simp only [wR, wB, wE0, wE1, wE2, wE3, g0, gS, s10, s11, s1S, s20, s21, s2S, kl0, kl1, kl2, kl3, sp0, sp1, sp2, sp3, cn1, cn2, cn3, cn4, cn5, cn6, jJa, lk0, lk1, jmS, jmN, s4_0, s4_1, s4_2, s4_3, s4_4, sw0, sw1, cKs, cKn, true_and, and_true, List.map_cons, List.map_nil, Nat.reduceAdd, Nat.zero_add, Int.reduceAdd, Nat.reduceEqDiff, reduceIte, Classical.not_not, e126, e133', cmp3_eq, Int.reduceEq, not_true_eq_false, not_false_eq_true, false_imp_iff, true_imp_iff, and_self]
                    (repeat' (first | omega | (with_reducible exact True.intro) | exact ⟨by omega, by omega⟩ | (with_reducible exact Or.inr trivial) | (with_reducible exact Or.inl trivial) | (with_reducible assumption) | (with_reducible exact Same.refl) | (with_reducible rfl) | (with_reducible refine And.intro ?_ ?_) | (with_reducible intro _)))
                  · rw [if_neg qo]
                    (repeat' (first | omega | (with_reducible exact True.intro) | exact ⟨by omega, by omega⟩ | (with_reducible exact Or.inr trivial) | (with_reducible exact Or.inl trivial) | (with_reducible assumption) | (with_reducible exact Same.refl) | (with_reducible rfl) | (with_reducible refine And.intro ?_ ?_) | (with_reducible intro _)))
              have := find (t k) 0 (by omega)
              refine AW.run ck_Md_seenBy [68] 10 65 ?_
              simp only [wR, wB, wE0, wE1, wE2, wE3, g0, gS, s10, s11, s1S, s20, s21, s2S, kl0, kl1, kl2, kl3, sp0, sp1, sp2, sp3, cn1, cn2, cn3, cn4, cn5, cn6, jJa, lk0, lk1, jmS, jmN, s4_0, s4_1, s4_2, s4_3, s4_4, sw0, sw1, cKs, cKn, true_and, and_true, List.map_cons, List.map_nil, Nat.reduceAdd, Nat.zero_add, Int.reduceAdd, Nat.reduceEqDiff, reduceIte, Classical.not_not, b_Md_seenBy]
              exact this
          have := loop i 0 none (by omega)
          rw [hch.1] at this
          have a56 : AW G d mi_Md_seenBy Q 56 [some (vr 117), some (vi j), some (vi i), some (vi (aRN σ j 8 (-1) 5)), none, none, none] [] K := by
            refine AW.run ck_Md_seenBy [65] 10 56 ?_
            simp only [wR, wB, wE0, wE1, wE2, wE3, g0, gS, s10, s11, s1S, s20, s21, s2S, kl0, kl1, kl2, kl3, sp0, sp1, sp2, sp3, cn1, cn2, cn3, cn4, cn5, cn6, jJa, lk0, lk1, jmS, jmN, s4_0, s4_1, s4_2, s4_3, s4_4, sw0, sw1, cKs, cKn, true_and, and_true, List.map_cons, List.map_nil, Nat.reduceAdd, Nat.zero_add, Int.reduceAdd, Nat.reduceEqDiff, reduceIte, Classical.not_not, b_Md_seenBy, shMd]
            refine ⟨by omega, MS.to (c_Md_standNow hHK.2.1 hP (hmK.st mok)) fun _ => ?_⟩
            rw [hs0]
            simp only [wR, wB, wE0, wE1, wE2, wE3, g0, gS, s10, s11, s1S, s20, s21, s2S, kl0, kl1, kl2, kl3, sp0, sp1, sp2, sp3, cn1, cn2, cn3, cn4, cn5, cn6, jJa, lk0, lk1, jmS, jmN, s4_0, s4_1, s4_2, s4_3, s4_4, sw0, sw1, cKs, cKn, true_and, and_true, List.map_cons, List.map_nil, Nat.reduceAdd, Nat.zero_add, Int.reduceAdd, Nat.reduceEqDiff, reduceIte, Classical.not_not, b_Md_seenBy]
            exact this
          (repeat' (first | omega | (with_reducible exact True.intro) | exact ⟨by omega, by omega⟩ | (with_reducible exact Or.inr trivial) | (with_reducible exact Or.inl trivial) | (with_reducible assumption) | (with_reducible exact Same.refl) | (with_reducible rfl) | (with_reducible refine And.intro ?_ ?_) | (with_reducible intro _)))
  · rw [if_neg q] at hQ
    subst hQ
    (repeat' (first | omega | (with_reducible exact True.intro) | exact ⟨by omega, by omega⟩ | (with_reducible exact Or.inr trivial) | (with_reducible exact Or.inl trivial) | (with_reducible assumption) | (with_reducible exact Same.refl) | (with_reducible rfl) | (with_reducible refine And.intro ?_ ?_) | (with_reducible intro _)))
end MS3
