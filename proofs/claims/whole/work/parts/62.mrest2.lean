section MR2
variable {G : AG} {d : Nat} {M : AM}
theorem MR.lay2 {M N : AM} {σ : Sg} (h : MR M σ) (hs : Same [117, 122, 123, 125, 126, 127, 129, 130] M N) (hf : ∀ y : Int, y ≠ 27 → N 117 y = M 117 y) : MR N σ ∧ Lo M N := ⟨h.eq (hf _ (by omega)) (hf _ (by omega)) (hf _ (by omega)) (fun x hx => hs x (by (first | decide | (simp only [List.mem_cons, List.not_mem_nil, or_false, not_or, not_false_eq_true, and_true]; omega) | (simp [List.mem_cons]; done)))), hs.lo (by intro x hx; simp only [List.mem_cons, List.not_mem_nil, or_false] at hx; omega)⟩
theorem c_Md_rested {n : Int} {B : Nat} {σ : Sg} (hd : 30 ≤ d) (ok : SgOK B σ) (hR : MR M σ) : MS G d mi_Md_rested [vr 117, vi n] M (fun r M' => r = some (vi (aRested σ n)) ∧ MR M' σ ∧ Lo M M') := by
  have hR' := hR.thr
  have hok := ok.2.2.1
  have mok := ok.2.2.2.1.1
  refine MS.by ck_Md_rested [some (vr 117), some (vi n), none] fun _ _ => ?_
  generalize hQ : (fun (r : Option AV) (M' : AM) => r = some (vi (aRested σ n)) ∧ MR M' σ ∧ Lo M M') = Q
  refine AW.run ck_Md_rested [20] 10 0 ?_
  simp only [wR, wB, wE0, wE1, wE2, wE3, g0, gS, s10, s11, s1S, s20, s21, s2S, kl0, kl1, kl2, kl3, sp0, sp1, sp2, sp3, cn1, cn2, cn3, cn4, cn5, cn6, jJa, lk0, lk1, jmS, jmN, s4_0, s4_1, s4_2, s4_3, s4_4, sw0, sw1, cKs, cKn, true_and, and_true, List.map_cons, List.map_nil, Nat.reduceAdd, Nat.zero_add, Int.reduceAdd, Nat.reduceEqDiff, reduceIte, Classical.not_not, b_Md_rested, shMd]
  have hlo : Lo M (up M 117 0 0) := thr_lo
  generalize up M 117 0 0 = N at hR' hlo ⊢
  obtain ⟨hH, hm, -⟩ := hR'.past
  refine ⟨by omega, MS.to c_Md_within fun _ => ?_⟩
  simp only [wR, wB, wE0, wE1, wE2, wE3, g0, gS, s10, s11, s1S, s20, s21, s2S, kl0, kl1, kl2, kl3, sp0, sp1, sp2, sp3, cn1, cn2, cn3, cn4, cn5, cn6, jJa, lk0, lk1, jmS, jmN, s4_0, s4_1, s4_2, s4_3, s4_4, sw0, sw1, cKs, cKn, true_and, and_true, List.map_cons, List.map_nil, Nat.reduceAdd, Nat.zero_add, Int.reduceAdd, Nat.reduceEqDiff, reduceIte, Classical.not_not, b_Md_rested, shMd]
  unfold aRested at hQ
  by_cases q : 0 ≤ n ∧ n ≤ 4
  · rw [if_pos q] at hQ ⊢
    obtain ⟨k, rfl⟩ := Int.eq_ofNat_of_zero_le q.1
    (repeat' (first | omega | exact ⟨by omega, by omega⟩ | (with_reducible exact Or.inr trivial) | (with_reducible exact Or.inl trivial) | (with_reducible assumption) | (with_reducible exact Same.refl) | (with_reducible rfl) | (with_reducible refine And.intro ?_ ?_) | (with_reducible intro _)))
    refine AW.run ck_Md_rested [] 10 20 ?_
    simp only [wR, wB, wE0, wE1, wE2, wE3, g0, gS, s10, s11, s1S, s20, s21, s2S, kl0, kl1, kl2, kl3, sp0, sp1, sp2, sp3, cn1, cn2, cn3, cn4, cn5, cn6, jJa, lk0, lk1, jmS, jmN, s4_0, s4_1, s4_2, s4_3, s4_4, sw0, sw1, cKs, cKn, true_and, and_true, List.map_cons, List.map_nil, Nat.reduceAdd, Nat.zero_add, Int.reduceAdd, Nat.reduceEqDiff, reduceIte, Classical.not_not, b_Md_rested, shMd]
    refine ⟨by omega, (c_Md_laysRested (d := d - 1) (by omega) hok mok hH hm).mono ?_⟩
    rintro r M1 okM1 ⟨⟨l, f, rfl, L1, L2, L3⟩, u1, u2⟩
    simp only [wR, wB, wE0, wE1, wE2, wE3, g0, gS, s10, s11, s1S, s20, s21, s2S, kl0, kl1, kl2, kl3, sp0, sp1, sp2, sp3, cn1, cn2, cn3, cn4, cn5, cn6, jJa, lk0, lk1, jmS, jmN, s4_0, s4_1, s4_2, s4_3, s4_4, sw0, sw1, cKs, cKn, true_and, and_true, List.map_cons, List.map_nil, Nat.reduceAdd, Nat.zero_add, Int.reduceAdd, Nat.reduceEqDiff, reduceIte, Classical.not_not, b_Md_rested, shMd]
    obtain ⟨c1, c2⟩ := hR'.lay2 u1 u2
    have hsin : cod σ.m.st σ.h.P ∈ l := (L1.2.1.2 _).mpr Rc.refl
    have h3 := L3 _ hsin
    rw [okP_all (sd := σ.m.sd) (cold := σ.m.cold)] at h3
    subst hQ
    rcases h3 with ⟨h4, h5⟩ | ⟨h4, h5⟩
    · have e : dstI (okA σ.h σ.m.sd σ.m.cold false) (nxt σ.h σ.m.sd σ.m.cold) (goalN σ k) (cod σ.m.st σ.h.P) = (f (cod σ.m.st σ.h.P) : Int) := dstI_D _ _ _ h5
      rw [e]
      have c3 := hlo.trans c2
      (repeat' (first | omega | exact ⟨by omega, by omega⟩ | (with_reducible exact Or.inr trivial) | (with_reducible exact Or.inl trivial) | (with_reducible assumption) | (with_reducible exact Same.refl) | (with_reducible rfl) | (with_reducible refine And.intro ?_ ?_) | (with_reducible intro _)))
    · have e : dstI (okA σ.h σ.m.sd σ.m.cold false) (nxt σ.h σ.m.sd σ.m.cold) (goalN σ k) (cod σ.m.st σ.h.P) = -1 := dstI_n _ _ _ h5
      rw [e]
      have c3 := hlo.trans c2
      (repeat' (first | omega | exact ⟨by omega, by omega⟩ | (with_reducible exact Or.inr trivial) | (with_reducible exact Or.inl trivial) | (with_reducible assumption) | (with_reducible exact Same.refl) | (with_reducible rfl) | (with_reducible refine And.intro ?_ ?_) | (with_reducible intro _)))
  · rw [if_neg q] at hQ ⊢
    (repeat' (first | omega | exact ⟨by omega, by omega⟩ | (with_reducible exact Or.inr trivial) | (with_reducible exact Or.inl trivial) | (with_reducible assumption) | (with_reducible exact Same.refl) | (with_reducible rfl) | (with_reducible refine And.intro ?_ ?_) | (with_reducible intro _)))
    subst hQ
    exact ⟨rfl, hR', hlo⟩
theorem c_Md_restBy {n i : Int} {B : Nat} {σ : Sg} (hd : 30 ≤ d) (ok : SgOK B σ) (hR : MR M σ) : MS G d mi_Md_restBy [vr 117, vi n, vi i] M (fun r M' => r = some (vi (aRestBy σ n i)) ∧ MR M' σ ∧ Lo M M') := by
  have hR' := hR.thr
  have hok := ok.2.2.1
  have hP := hok.1
  have mok := ok.2.2.2.1.1
  refine MS.by ck_Md_restBy [some (vr 117), some (vi n), some (vi i), none, none, none] fun _ _ => ?_
  generalize hQ : (fun (r : Option AV) (M' : AM) => r = some (vi (aRestBy σ n i)) ∧ MR M' σ ∧ Lo M M') = Q
  refine AW.run ck_Md_restBy [21, 24] 10 0 ?_
  simp only [wR, wB, wE0, wE1, wE2, wE3, g0, gS, s10, s11, s1S, s20, s21, s2S, kl0, kl1, kl2, kl3, sp0, sp1, sp2, sp3, cn1, cn2, cn3, cn4, cn5, cn6, jJa, lk0, lk1, jmS, jmN, s4_0, s4_1, s4_2, s4_3, s4_4, sw0, sw1, cKs, cKn, true_and, and_true, List.map_cons, List.map_nil, Nat.reduceAdd, Nat.zero_add, Int.reduceAdd, Nat.reduceEqDiff, reduceIte, Classical.not_not, b_Md_restBy, shMd]
  have hlo : Lo M (up M 117 0 0) := thr_lo
  generalize up M 117 0 0 = N at hR' hlo ⊢
  obtain ⟨hH, hm, -⟩ := hR'.past
  refine ⟨by omega, MS.to c_Md_within fun _ => ?_⟩
  simp only [wR, wB, wE0, wE1, wE2, wE3, g0, gS, s10, s11, s1S, s20, s21, s2S, kl0, kl1, kl2, kl3, sp0, sp1, sp2, sp3, cn1, cn2, cn3, cn4, cn5, cn6, jJa, lk0, lk1, jmS, jmN, s4_0, s4_1, s4_2, s4_3, s4_4, sw0, sw1, cKs, cKn, true_and, and_true, List.map_cons, List.map_nil, Nat.reduceAdd, Nat.zero_add, Int.reduceAdd, Nat.reduceEqDiff, reduceIte, Classical.not_not, b_Md_restBy, shMd]
  unfold aRestBy at hQ
  by_cases q : (0 ≤ n ∧ n ≤ 4) ∧ 0 ≤ i
  · rw [if_pos q] at hQ
    rw [if_pos q.1]
    obtain ⟨k, rfl⟩ := Int.eq_ofNat_of_zero_le q.1.1
    obtain ⟨j, rfl⟩ := Int.eq_ofNat_of_zero_le q.2
    rw [Int.toNat_natCast] at hQ
    (repeat' (first | omega | exact ⟨by omega, by omega⟩ | (with_reducible exact Or.inr trivial) | (with_reducible exact Or.inl trivial) | (with_reducible assumption) | (with_reducible exact Same.refl) | (with_reducible rfl) | (with_reducible refine And.intro ?_ ?_) | (with_reducible intro _)))
    refine AW.run ck_Md_restBy [38] 10 24 ?_
    simp only [wR, wB, wE0, wE1, wE2, wE3, g0, gS, s10, s11, s1S, s20, s21, s2S, kl0, kl1, kl2, kl3, sp0, sp1, sp2, sp3, cn1, cn2, cn3, cn4, cn5, cn6, jJa, lk0, lk1, jmS, jmN, s4_0, s4_1, s4_2, s4_3, s4_4, sw0, sw1, cKs, cKn, true_and, and_true, List.map_cons, List.map_nil, Nat.reduceAdd, Nat.zero_add, Int.reduceAdd, Nat.reduceEqDiff, reduceIte, Classical.not_not, b_Md_restBy, shMd]
    refine ⟨by omega, (c_Md_laysRested (d := d - 1) (by omega) hok mok hH hm).mono ?_⟩
    rintro r M1 okM1 ⟨⟨l, f, rfl, L1, L2, L3⟩, u1, u2⟩
    simp only [wR, wB, wE0, wE1, wE2, wE3, g0, gS, s10, s11, s1S, s20, s21, s2S, kl0, kl1, kl2, kl3, sp0, sp1, sp2, sp3, cn1, cn2, cn3, cn4, cn5, cn6, jJa, lk0, lk1, jmS, jmN, s4_0, s4_1, s4_2, s4_3, s4_4, sw0, sw1, cKs, cKn, true_and, and_true, List.map_cons, List.map_nil, Nat.reduceAdd, Nat.zero_add, Int.reduceAdd, Nat.reduceEqDiff, reduceIte, Classical.not_not, b_Md_restBy, shMd]
    obtain ⟨c1, c2⟩ := hR'.lay2 u1 u2
    have c3 := hlo.trans c2
    have hsin : cod σ.m.st σ.h.P ∈ l := (L1.2.1.2 _).mpr Rc.refl
    have hH1 : MH (M1 118) σ.h := by rw [u1 118 (by (first | decide | (simp only [List.mem_cons, List.not_mem_nil, or_false, not_or, not_false_eq_true, and_true]; omega) | (simp [List.mem_cons]; done)))]; exact hH
    have hm1 : MRow (fun y => M1 118 (19 + y)) σ.h.P σ.m := by rw [u1 118 (by (first | decide | (simp only [List.mem_cons, List.not_mem_nil, or_false, not_or, not_false_eq_true, and_true]; omega) | (simp [List.mem_cons]; done)))]; exact hm
    refine ⟨by omega, MS.to (c_Md_standNow hH1.2.1 hP (hm1.st mok)) fun _ => ?_⟩
    simp only [wR, wB, wE0, wE1, wE2, wE3, g0, gS, s10, s11, s1S, s20, s21, s2S, kl0, kl1, kl2, kl3, sp0, sp1, sp2, sp3, cn1, cn2, cn3, cn4, cn5, cn6, jJa, lk0, lk1, jmS, jmN, s4_0, s4_1, s4_2, s4_3, s4_4, sw0, sw1, cKs, cKn, true_and, and_true, List.map_cons, List.map_nil, Nat.reduceAdd, Nat.zero_add, Int.reduceAdd, Nat.reduceEqDiff, reduceIte, Classical.not_not, b_Md_restBy, shMd]
    have hcl := L1.cl
    have hl3 := L1.1.2.2.2.2
    generalize hokf : okP σ.h.P (2 ^ σ.h.P - 1) = okf at L3 hcl
    generalize hgl : goalN σ k = goal at hQ
    have hgl' : aHave σ.h.P k = goal := by rw [← hgl]; rfl
    rw [hgl'] at L3
    have hoA : okA σ.h σ.m.sd σ.m.cold false = okf := by rw [← hokf]; exact okP_all.symm
    rw [hoA] at hQ
    have a112 : ∀ (l3 l4 l5 : Option AV), rbI okf (nxt σ.h σ.m.sd σ.m.cold) goal (cod σ.m.st σ.h.P) j = -1 → AW G d mi_Md_restBy Q 112 [some (vr 117), some (vi k), some (vi j), l3, l4, l5] [] M1 := by
      intro l3 l4 l5 e
      refine AW.run ck_Md_restBy [] 10 112 ?_
      simp only [wR, wB, wE0, wE1, wE2, wE3, g0, gS, s10, s11, s1S, s20, s21, s2S, kl0, kl1, kl2, kl3, sp0, sp1, sp2, sp3, cn1, cn2, cn3, cn4, cn5, cn6, jJa, lk0, lk1, jmS, jmN, s4_0, s4_1, s4_2, s4_3, s4_4, sw0, sw1, cKs, cKn, true_and, and_true, List.map_cons, List.map_nil, Nat.reduceAdd, Nat.zero_add, Int.reduceAdd, Nat.reduceEqDiff, reduceIte, Classical.not_not, b_Md_restBy]
      subst hQ
      exact ⟨by rw [e], c1, c3⟩
    have hs0l := hl3 _ hsin
    rcases L3 _ hsin with ⟨h4, h5⟩ | ⟨h4, h5⟩
    · generalize hD : f (cod σ.m.st σ.h.P) = D at h4 h5
      obtain ⟨c, t, hc⟩ := Chn_of _ _ _ D _ h5
      have er := rbI_D okf (nxt σ.h σ.m.sd σ.m.cold) goal (i := j) h5 hc
      have hcm : ∀ x, x ≤ D → c x ∈ l ∧ f (c x) = D - x := by
        intro x
        induction x with
        | zero => intro _; rw [hc.1]; exact ⟨hsin, hD⟩
        | succ x ih =>
          intro hx
          obtain ⟨a1, a2, a3, a4, a5⟩ := hc.2 x (by omega)
          have hmem : c (x + 1) ∈ l := by rw [← a3]; exact hcl _ _ (ih (by omega)).1 a1 a2
          refine ⟨hmem, ?_⟩
          rcases L3 _ hmem with ⟨b1, b2⟩ | ⟨b1, b2⟩
          · exact Ds_un _ _ _ b2 a4
          · exact absurd a4.1 (b2 _)
      have loop : ∀ (r x : Nat) (l5 : Option AV), x + r = D → x ≤ j → AW G d mi_Md_restBy Q 38 [some (vr 117), some (vi k), some (vi j), some (vi (c x)), some (vi x), l5] [] M1 := by
        intro r
        induction r with
        | zero =>
          intro x l5 hx hxj
          obtain ⟨b1, b2⟩ := hcm x (by omega)
          obtain ⟨e1, e2⟩ := L2 _ b1
          have := hl3 _ b1
          rw [b2, show D - x = 0 by omega] at e1
          refine AW.run ck_Md_restBy [62, 112] 10 38 ?_
          simp only [wR, wB, wE0, wE1, wE2, wE3, g0, gS, s10, s11, s1S, s20, s21, s2S, kl0, kl1, kl2, kl3, sp0, sp1, sp2, sp3, cn1, cn2, cn3, cn4, cn5, cn6, jJa, lk0, lk1, jmS, jmN, s4_0, s4_1, s4_2, s4_3, s4_4, sw0, sw1, cKs, cKn, true_and, and_true, List.map_cons, List.map_nil, Nat.reduceAdd, Nat.zero_add, Int.reduceAdd, Nat.reduceEqDiff, reduceIte, Classical.not_not, b_Md_restBy, shMd, e1, nc0]
          have := a112 (some (vi (c x))) (some (vi x)) l5 (by rw [er, if_neg (by omega)])
          (repeat' (first | omega | exact ⟨by omega, by omega⟩ | (with_reducible exact Or.inr trivial) | (with_reducible exact Or.inl trivial) | (with_reducible assumption) | (with_reducible exact Same.refl) | (with_reducible rfl) | (with_reducible refine And.intro ?_ ?_) | (with_reducible intro _)))
        | succ r ih =>
          intro x l5 hx hxj
          obtain ⟨b1, b2⟩ := hcm x (by omega)
          obtain ⟨e1, e2⟩ := L2 _ b1
          have hcx := hl3 _ b1
          rw [b2] at e1
          obtain ⟨a1, a2, a3, a4, a5⟩ := hc.2 x (by omega)
          have hrb : ∀ y, y < 32 → (rby okf (nxt σ.h σ.m.sd σ.m.cold) f (c x) y = D - x ↔ (okf (c x) y = true ∧ Ds okf (nxt σ.h σ.m.sd σ.m.cold) goal (nxt σ.h σ.m.sd σ.m.cold (c x) y) (D - (x + 1)))) := by
            intro y hy
            unfold rby
            by_cases qo : okf (c x) y = true
            · rw [if_pos qo]
              have ht := hcl _ _ b1 hy qo
              rcases L3 _ ht with ⟨g1, g2⟩ | ⟨g1, g2⟩
              · rw [if_neg (by omega)]
                refine ⟨fun e => ⟨qo, ?_⟩, fun e => ?_⟩
                · rw [show D - (x + 1) = f (nxt σ.h σ.m.sd σ.m.cold (c x) y) by omega]; exact g2
                · have := Ds_un _ _ _ g2 e.2
                  omega
              · rw [if_pos g1]
                exact ⟨fun e => by omega, fun e => absurd e.2.1 (g2 _)⟩
            · rw [if_neg qo]
              exact ⟨fun e => by omega, fun e => absurd e.1 qo⟩
          have find : ∀ (r y : Nat), y + r = t x → AW G d mi_Md_restBy Q 62 [some (vr 117), some (vi k), some (vi j), some (vi (c x)), some (vi x), some (vi y)] [] M1 := by
            intro r
            induction r with
            | zero =>
              intro y hy
              obtain rfl : y = t x := by omega
              have key := (hrb (t x) a1).mpr ⟨a2, by rw [a3]; exact a4⟩
              refine AW.run ck_Md_restBy [84, 62] 10 62 ?_
              simp only [wR, wB, wE0, wE1, wE2, wE3, g0, gS, s10, s11, s1S, s20, s21, s2S, kl0, kl1, kl2, kl3, sp0, sp1, sp2, sp3, cn1, cn2, cn3, cn4, cn5, cn6, jJa, lk0, lk1, jmS, jmN, s4_0, s4_1, s4_2, s4_3, s4_4, sw0, sw1, cKs, cKn, true_and, and_true, List.map_cons, List.map_nil, Nat.reduceAdd, Nat.zero_add, Int.reduceAdd, Nat.reduceEqDiff, reduceIte, Classical.not_not, b_Md_restBy, shMd]
              refine ⟨by omega, MS.to (c_Md_restedBy hok L1 L2 b1 a1) fun _ => ?_⟩
              rw [hokf, key]
              simp only [wR, wB, wE0, wE1, wE2, wE3, g0, gS, s10, s11, s1S, s20, s21, s2S, kl0, kl1, kl2, kl3, sp0, sp1, sp2, sp3, cn1, cn2, cn3, cn4, cn5, cn6, jJa, lk0, lk1, jmS, jmN, s4_0, s4_1, s4_2, s4_3, s4_4, sw0, sw1, cKs, cKn, true_and, and_true, List.map_cons, List.map_nil, Nat.reduceAdd, Nat.zero_add, Int.reduceAdd, Nat.reduceEqDiff, reduceIte, Classical.not_not, b_Md_restBy, shMd, e1, up_rd, Int.reduceEq, and_false, false_and, and_self, reduceIte, not_true_eq_false, not_false_eq_true, false_imp_iff, true_imp_iff, true_or, or_true]
              refine ⟨by omega, ?_⟩
              have e126 := (L1.2.2.2 _ b1 (t x) a1).1
              rw [hokf, if_pos a2, a3] at e126
              refine AW.run ck_Md_restBy [38] 10 84 ?_
              simp only [wR, wB, wE0, wE1, wE2, wE3, g0, gS, s10, s11, s1S, s20, s21, s2S, kl0, kl1, kl2, kl3, sp0, sp1, sp2, sp3, cn1, cn2, cn3, cn4, cn5, cn6, jJa, lk0, lk1, jmS, jmN, s4_0, s4_1, s4_2, s4_3, s4_4, sw0, sw1, cKs, cKn, true_and, and_true, List.map_cons, List.map_nil, Nat.reduceAdd, Nat.zero_add, Int.reduceAdd, Nat.reduceEqDiff, reduceIte, Classical.not_not, b_Md_restBy, shMd, e126, ce]
              by_cases qx : x = j
              · subst qx
                subst hQ
                rw [er, if_pos (by omega)]
                (repeat' (first | omega | exact ⟨by omega, by omega⟩ | (with_reducible exact Or.inr trivial) | (with_reducible exact Or.inl trivial) | (with_reducible assumption) | (with_reducible exact Same.refl) | (with_reducible rfl) | (with_reducible refine And.intro ?_ ?_) | (with_reducible intro _)))
              · have := ih (x + 1) (some (vi (t x))) (by omega) (by omega)
                (repeat' (first | omega | exact ⟨by omega, by omega⟩ | (with_reducible exact Or.inr trivial) | (with_reducible exact Or.inl trivial) | (with_reducible assumption) | (with_reducible exact Same.refl) | (with_reducible rfl) | (with_reducible refine And.intro ?_ ?_) | (with_reducible intro _)))
            | succ r ih2 =>
              intro y hy
              have hne : ¬ rby okf (nxt σ.h σ.m.sd σ.m.cold) f (c x) y = D - x := fun e => a5 y (by omega) ((hrb y (by omega)).mp e)
              have key := ih2 (y + 1) (by omega)
              refine AW.run ck_Md_restBy [84, 62] 10 62 ?_
              simp only [wR, wB, wE0, wE1, wE2, wE3, g0, gS, s10, s11, s1S, s20, s21, s2S, kl0, kl1, kl2, kl3, sp0, sp1, sp2, sp3, cn1, cn2, cn3, cn4, cn5, cn6, jJa, lk0, lk1, jmS, jmN, s4_0, s4_1, s4_2, s4_3, s4_4, sw0, sw1, cKs, cKn, true_and, and_true, List.map_cons, List.map_nil, Nat.reduceAdd, Nat.zero_add, Int.reduceAdd, Nat.reduceEqDiff, reduceIte, Classical.not_not, b_Md_restBy, shMd]
              refine ⟨by omega, MS.to (c_Md_restedBy hok L1 L2 b1 (by omega)) fun _ => ?_⟩
              rw [hokf]
              simp only [wR, wB, wE0, wE1, wE2, wE3, g0, gS, s10, s11, s1S, s20, s21, s2S, kl0, kl1, kl2, kl3, sp0, sp1, sp2, sp3, cn1, cn2, cn3, cn4, cn5, cn6, jJa, lk0, lk1, jmS, jmN, s4_0, s4_1, s4_2, s4_3, s4_4, sw0, sw1, cKs, cKn, true_and, and_true, List.map_cons, List.map_nil, Nat.reduceAdd, Nat.zero_add, Int.reduceAdd, Nat.reduceEqDiff, reduceIte, Classical.not_not, b_Md_restBy, shMd, e1, ce]
              (repeat' (first | omega | exact ⟨by omega, by omega⟩ | (with_reducible exact Or.inr trivial) | (with_reducible exact Or.inl trivial) | (with_reducible assumption) | (with_reducible exact Same.refl) | (with_reducible rfl) | (with_reducible refine And.intro ?_ ?_) | (with_reducible intro _)))
          refine AW.run ck_Md_restBy [62, 112] 10 38 ?_
          simp only [wR, wB, wE0, wE1, wE2, wE3, g0, gS, s10, s11, s1S, s20, s21, s2S, kl0, kl1, kl2, kl3, sp0, sp1, sp2, sp3, cn1, cn2, cn3, cn4, cn5, cn6, jJa, lk0, lk1, jmS, jmN, s4_0, s4_1, s4_2, s4_3, s4_4, sw0, sw1, cKs, cKn, true_and, and_true, List.map_cons, List.map_nil, Nat.reduceAdd, Nat.zero_add, Int.reduceAdd, Nat.reduceEqDiff, reduceIte, Classical.not_not, b_Md_restBy, shMd, e1]
          have := find (t x) 0 (by omega)
          (repeat' (first | omega | exact ⟨by omega, by omega⟩ | (with_reducible exact Or.inr trivial) | (with_reducible exact Or.inl trivial) | (with_reducible assumption) | (with_reducible exact Same.refl) | (with_reducible rfl) | (with_reducible refine And.intro ?_ ?_) | (with_reducible intro _)))
      have := loop D 0 none (by omega) (by omega)
      rw [hc.1] at this
      exact this
    · obtain ⟨e1, e2⟩ := L2 _ hsin
      rw [h4] at e1
      refine AW.run ck_Md_restBy [62, 112] 10 38 ?_
      have e1' : M1 127 (cod σ.m.st σ.h.P : Nat) = 268435456 := e1
      simp only [wR, wB, wE0, wE1, wE2, wE3, g0, gS, s10, s11, s1S, s20, s21, s2S, kl0, kl1, kl2, kl3, sp0, sp1, sp2, sp3, cn1, cn2, cn3, cn4, cn5, cn6, jJa, lk0, lk1, jmS, jmN, s4_0, s4_1, s4_2, s4_3, s4_4, sw0, sw1, cKs, cKn, true_and, and_true, List.map_cons, List.map_nil, Nat.reduceAdd, Nat.zero_add, Int.reduceAdd, Nat.reduceEqDiff, reduceIte, Classical.not_not, b_Md_restBy, shMd, e1']
      have := a112 (some (vi (cod σ.m.st σ.h.P))) (some (vi 0)) none (rbI_n okf (nxt σ.h σ.m.sd σ.m.cold) goal h5)
      (repeat' (first | omega | exact ⟨by omega, by omega⟩ | (with_reducible exact Or.inr trivial) | (with_reducible exact Or.inl trivial) | (with_reducible assumption) | (with_reducible exact Same.refl) | (with_reducible rfl) | (with_reducible refine And.intro ?_ ?_) | (with_reducible intro _)))
  · rw [if_neg q] at hQ
    have a21 : AW G d mi_Md_restBy Q 21 [some (vr 117), some (vi n), some (vi i), none, none, none] [] N := by
      refine AW.run ck_Md_restBy [] 10 21 ?_
      simp only [wR, wB, wE0, wE1, wE2, wE3, g0, gS, s10, s11, s1S, s20, s21, s2S, kl0, kl1, kl2, kl3, sp0, sp1, sp2, sp3, cn1, cn2, cn3, cn4, cn5, cn6, jJa, lk0, lk1, jmS, jmN, s4_0, s4_1, s4_2, s4_3, s4_4, sw0, sw1, cKs, cKn, true_and, and_true, List.map_cons, List.map_nil, Nat.reduceAdd, Nat.zero_add, Int.reduceAdd, Nat.reduceEqDiff, reduceIte, Classical.not_not, b_Md_restBy]
      subst hQ
      exact ⟨rfl, hR', hlo⟩
    by_cases q1 : 0 ≤ n ∧ n ≤ 4
    · rw [if_pos q1]
      (repeat' (first | omega | exact ⟨by omega, by omega⟩ | (with_reducible exact Or.inr trivial) | (with_reducible exact Or.inl trivial) | (with_reducible assumption) | (with_reducible exact Same.refl) | (with_reducible rfl) | (with_reducible refine And.intro ?_ ?_) | (with_reducible intro _)))
    · rw [if_neg q1]
      (repeat' (first | omega | exact ⟨by omega, by omega⟩ | (with_reducible exact Or.inr trivial) | (with_reducible exact Or.inl trivial) | (with_reducible assumption) | (with_reducible exact Same.refl) | (with_reducible rfl) | (with_reducible refine And.intro ?_ ?_) | (with_reducible intro _)))
end MR2
