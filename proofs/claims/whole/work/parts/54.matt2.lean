section MO2
variable {G : AG} {d : Nat} {M : AM}
theorem MR.w3 {M N : AM} {σ : Sg} (h : MR M σ) (hs : Same [122, 123, 134] M N) : MR N σ := h.eq (hs.at 117 _ (by (first | decide | (simp only [List.mem_cons, List.not_mem_nil, or_false, not_or, not_false_eq_true, and_true]; omega) | (simp [List.mem_cons]; done)))) (hs.at 117 _ (by (first | decide | (simp only [List.mem_cons, List.not_mem_nil, or_false, not_or, not_false_eq_true, and_true]; omega) | (simp [List.mem_cons]; done)))) (hs.at 117 _ (by (first | decide | (simp only [List.mem_cons, List.not_mem_nil, or_false, not_or, not_false_eq_true, and_true]; omega) | (simp [List.mem_cons]; done)))) (fun x hx => hs x (by (first | decide | (simp only [List.mem_cons, List.not_mem_nil, or_false, not_or, not_false_eq_true, and_true]; omega) | (simp [List.mem_cons]; done))))
theorem w3_lo {M N : AM} (hs : Same [122, 123, 134] M N) : Lo M N := hs.lo (by intro x hx; simp only [List.mem_cons, List.not_mem_nil, or_false] at hx; omega)
theorem c_Md_attempt {t p : Int} {B : Nat} {σ : Sg} (hd : 20 ≤ d) (ok : SgOK B σ) (hR : MR M σ) : MS G d mi_Md_attempt [vr 117, vi t, vi p] M (fun r M' => r = some (vi (aAttempt σ t p)) ∧ MR M' σ ∧ Lo M M') := by
  have hR' := hR.thr
  have hok := ok.2.2.1
  have hP := hok.1
  have h32 := p2_32 hP
  have mok := ok.2.2.2.1.1
  refine MS.by ck_Md_attempt [some (vr 117), some (vi t), some (vi p), none, none, none, none, none, none] fun _ _ => ?_
  generalize hQ : (fun (r : Option AV) (M' : AM) => r = some (vi (aAttempt σ t p)) ∧ MR M' σ ∧ Lo M M') = Q
  refine AW.run ck_Md_attempt [18] 10 0 ?_
  simp only [wR, wB, wE0, wE1, wE2, wE3, g0, gS, s10, s11, s1S, s20, s21, s2S, kl0, kl1, kl2, kl3, sp0, sp1, sp2, sp3, cn1, cn2, cn3, cn4, cn5, cn6, jJa, lk0, lk1, jmS, jmN, s4_0, s4_1, s4_2, s4_3, s4_4, sw0, sw1, cKs, cKn, true_and, and_true, List.map_cons, List.map_nil, Nat.reduceAdd, Nat.zero_add, Int.reduceAdd, Nat.reduceEqDiff, reduceIte, Classical.not_not, b_Md_attempt, shMd]
  have hlo : Lo M (up M 117 0 0) := thr_lo
  generalize up M 117 0 0 = N at hR' hlo ⊢
  refine ⟨by omega, MS.to (c_Md_noTired (d := d - 1) (by omega) ok hR') fun _ => ?_⟩
  simp only [wR, wB, wE0, wE1, wE2, wE3, g0, gS, s10, s11, s1S, s20, s21, s2S, kl0, kl1, kl2, kl3, sp0, sp1, sp2, sp3, cn1, cn2, cn3, cn4, cn5, cn6, jJa, lk0, lk1, jmS, jmN, s4_0, s4_1, s4_2, s4_3, s4_4, sw0, sw1, cKs, cKn, true_and, and_true, List.map_cons, List.map_nil, Nat.reduceAdd, Nat.zero_add, Int.reduceAdd, Nat.reduceEqDiff, reduceIte, Classical.not_not, b_Md_attempt, shMd]
  by_cases q : aRT σ t p = 0
  · have ea : aAttempt σ t p = aAtt σ t.toNat p.toNat := by unfold aAttempt; rw [if_pos q]
    rw [ea] at hQ
    have q' := q
    unfold aRT at q
    by_cases hp : 0 ≤ p ∧ p < (σ.h.P : Int)
    · rw [if_pos hp] at q
      obtain ⟨i, rfl, hi, hne, -⟩ := aRN_0 q
      obtain ⟨n, rfl⟩ := Int.eq_ofNat_of_zero_le hp.1
      rw [Int.toNat_natCast, Int.toNat_natCast] at hQ
      (repeat' (first | omega | exact ⟨by omega, by omega⟩ | (with_reducible exact Or.inr trivial) | (with_reducible exact Or.inl trivial) | (with_reducible assumption) | (with_reducible exact Same.refl) | (with_reducible rfl) | (with_reducible refine And.intro ?_ ?_) | (with_reducible intro _)))
      refine AW.run ck_Md_attempt [37] 10 18 ?_
      simp only [wR, wB, wE0, wE1, wE2, wE3, g0, gS, s10, s11, s1S, s20, s21, s2S, kl0, kl1, kl2, kl3, sp0, sp1, sp2, sp3, cn1, cn2, cn3, cn4, cn5, cn6, jJa, lk0, lk1, jmS, jmN, s4_0, s4_1, s4_2, s4_3, s4_4, sw0, sw1, cKs, cKn, true_and, and_true, List.map_cons, List.map_nil, Nat.reduceAdd, Nat.zero_add, Int.reduceAdd, Nat.reduceEqDiff, reduceIte, Classical.not_not, b_Md_attempt, shMd]
      refine ⟨by omega, (c_Md_coldsOf (d := d - 1) (by omega) ok hR' hi hne (by omega)).mono ?_⟩
      rintro r M1 okM1 ⟨rfl, u1⟩
      simp only [wR, wB, wE0, wE1, wE2, wE3, g0, gS, s10, s11, s1S, s20, s21, s2S, kl0, kl1, kl2, kl3, sp0, sp1, sp2, sp3, cn1, cn2, cn3, cn4, cn5, cn6, jJa, lk0, lk1, jmS, jmN, s4_0, s4_1, s4_2, s4_3, s4_4, sw0, sw1, cKs, cKn, true_and, and_true, List.map_cons, List.map_nil, Nat.reduceAdd, Nat.zero_add, Int.reduceAdd, Nat.reduceEqDiff, reduceIte, Classical.not_not, b_Md_attempt, shMd]
      have hR1 := hR'.ww u1
      have hlo1 := hlo.trans (ww_lo u1)
      have hcl : coldsN σ i n < 2 ^ 10 := bitsP_lt _ _
      unfold aAtt at hQ
      generalize hcn : coldsN σ i n = cand at hcl hQ ⊢
      have e2p : bShl 1 (σ.h.P : Int) = ((2 ^ σ.h.P : Nat) : Int) := by rw [show (1 : Int) = ((1 : Nat) : Int) from rfl, bShl_n (by omega) (by omega), Nat.one_mul]
      have h1P := hR1.past.1.2.1
      have h2P : 0 < 2 ^ σ.h.P := Nat.pow_pos (by omega)
      by_cases qc : cand = 0
      · rw [if_pos qc] at hQ
        refine AW.run ck_Md_attempt [68, 96] 10 37 ?_
        simp only [wR, wB, wE0, wE1, wE2, wE3, g0, gS, s10, s11, s1S, s20, s21, s2S, kl0, kl1, kl2, kl3, sp0, sp1, sp2, sp3, cn1, cn2, cn3, cn4, cn5, cn6, jJa, lk0, lk1, jmS, jmN, s4_0, s4_1, s4_2, s4_3, s4_4, sw0, sw1, cKs, cKn, true_and, and_true, List.map_cons, List.map_nil, Nat.reduceAdd, Nat.zero_add, Int.reduceAdd, Nat.reduceEqDiff, reduceIte, Classical.not_not, b_Md_attempt, shMd, h1P, e2p]
        subst hQ
        (repeat' (first | omega | exact ⟨by omega, by omega⟩ | (with_reducible exact Or.inr trivial) | (with_reducible exact Or.inl trivial) | (with_reducible assumption) | (with_reducible exact Same.refl) | (with_reducible rfl) | (with_reducible refine And.intro ?_ ?_) | (with_reducible intro _)))
      · rw [if_neg qc] at hQ
        have hf : ∀ s, alkC cand (codA σ s) 10 ≤ 10 := fun s => alkC_le (cand := cand) (code := codA σ s) 10
        have hab := ablM_lt (st := σ.m.st) hP
        have habP : ablM σ.h.P σ.m.st < 2 ^ σ.h.P := bitsP_lt _ _
        generalize hff : (fun set => alkC cand (codA σ set) 10) = f at hQ
        generalize hcan : (fun set => decide (set &&& (31 ^^^ ablM σ.h.P σ.m.st) = 0)) = can at hQ
        have hfle : ∀ s, f s ≤ 10 := fun s => by rw [← hff]; exact hf s
        have hcs : ∀ s, can s = decide (s &&& (31 ^^^ ablM σ.h.P σ.m.st) = 0) := fun s => by rw [← hcan]
        have e32 : attL f can 32 = attL f can (2 ^ σ.h.P) := by
          have := attL_ext (f := f) (can := can) (n := 2 ^ σ.h.P) (32 - 2 ^ σ.h.P) (fun s h1 h2 => by
            rw [hcs, decide_eq_false_iff_not]
            exact set_out hP habP h1 (by omega))
          rwa [show 2 ^ σ.h.P + (32 - 2 ^ σ.h.P) = 32 by omega] at this
        rw [e32] at hQ
        have loop : ∀ (r s : Nat) (K : AM) (y : Int) (l8 : Option AV), s + r = 2 ^ σ.h.P → Same [122, 123, 134] M1 K → (((attL f can s).1 = -1 ∧ (attL f can s).2 = 1000000 ∧ y = 268435456) ∨ ((attL f can s).2 ≤ 10 ∧ y = (attL f can s).2)) → AW G d mi_Md_attempt Q 37 [some (vr 117), some (vi i), some (vi n), some (vi (aRT σ i n)), some (vi cand), some (vi (attL f can s).1), some (vi y), some (vi s), l8] [] K := by
          intro r
          induction r with
          | zero =>
            intro s K y l8 hs' hK hy
            have hRK := hR1.w3 hK
            have k1 := hRK.past.1.2.1
            have hloK := hlo1.trans (w3_lo hK)
            refine AW.run ck_Md_attempt [68, 96] 10 37 ?_
            simp only [wR, wB, wE0, wE1, wE2, wE3, g0, gS, s10, s11, s1S, s20, s21, s2S, kl0, kl1, kl2, kl3, sp0, sp1, sp2, sp3, cn1, cn2, cn3, cn4, cn5, cn6, jJa, lk0, lk1, jmS, jmN, s4_0, s4_1, s4_2, s4_3, s4_4, sw0, sw1, cKs, cKn, true_and, and_true, List.map_cons, List.map_nil, Nat.reduceAdd, Nat.zero_add, Int.reduceAdd, Nat.reduceEqDiff, reduceIte, Classical.not_not, b_Md_attempt, shMd, k1, e2p]
            subst hQ
            (repeat' (first | omega | exact ⟨by omega, by omega⟩ | (with_reducible exact Or.inr trivial) | (with_reducible exact Or.inl trivial) | (with_reducible assumption) | (with_reducible exact Same.refl) | (with_reducible rfl) | (with_reducible refine And.intro ?_ ?_) | (with_reducible intro _)))
            rw [show s = 2 ^ σ.h.P by omega]
          | succ r ih =>
            intro s K y l8 hs' hK hy
            have hRK := hR1.w3 hK
            obtain ⟨kH, km, -⟩ := hRK.past
            have k1 := kH.2.1
            have a96 : ∀ (K' : AM) (x y' : Int) (l8 : Option AV), x = (attL f can (s + 1)).1 → (((attL f can (s + 1)).1 = -1 ∧ (attL f can (s + 1)).2 = 1000000 ∧ y' = 268435456) ∨ ((attL f can (s + 1)).2 ≤ 10 ∧ y' = (attL f can (s + 1)).2)) → Same [122, 123, 134] M1 K' → AW G d mi_Md_attempt Q 96 [some (vr 117), some (vi i), some (vi n), some (vi (aRT σ i n)), some (vi cand), some (vi x), some (vi y'), some (vi s), l8] [] K' := by
              intro K' x y' l8 hx hy' hK'
              refine AW.run ck_Md_attempt [37] 10 96 ?_
              simp only [wR, wB, wE0, wE1, wE2, wE3, g0, gS, s10, s11, s1S, s20, s21, s2S, kl0, kl1, kl2, kl3, sp0, sp1, sp2, sp3, cn1, cn2, cn3, cn4, cn5, cn6, jJa, lk0, lk1, jmS, jmN, s4_0, s4_1, s4_2, s4_3, s4_4, sw0, sw1, cKs, cKn, true_and, and_true, List.map_cons, List.map_nil, Nat.reduceAdd, Nat.zero_add, Int.reduceAdd, Nat.reduceEqDiff, reduceIte, Classical.not_not, b_Md_attempt, ce]
              (repeat' (first | omega | exact ⟨by omega, by omega⟩ | (with_reducible exact Or.inr trivial) | (with_reducible exact Or.inl trivial) | (with_reducible assumption) | (with_reducible exact Same.refl) | (with_reducible rfl) | (with_reducible refine And.intro ?_ ?_) | (with_reducible intro _)))
              rw [hx]
              exact ih (s + 1) K' y' _ (by omega) hK' hy'
            refine AW.run ck_Md_attempt [68, 96] 10 37 ?_
            simp only [wR, wB, wE0, wE1, wE2, wE3, g0, gS, s10, s11, s1S, s20, s21, s2S, kl0, kl1, kl2, kl3, sp0, sp1, sp2, sp3, cn1, cn2, cn3, cn4, cn5, cn6, jJa, lk0, lk1, jmS, jmN, s4_0, s4_1, s4_2, s4_3, s4_4, sw0, sw1, cKs, cKn, true_and, and_true, List.map_cons, List.map_nil, Nat.reduceAdd, Nat.zero_add, Int.reduceAdd, Nat.reduceEqDiff, reduceIte, Classical.not_not, b_Md_attempt, shMd, k1, e2p]
            (repeat' (first | omega | exact ⟨by omega, by omega⟩ | (with_reducible exact Or.inr trivial) | (with_reducible exact Or.inl trivial) | (with_reducible assumption) | (with_reducible exact Same.refl) | (with_reducible rfl) | (with_reducible refine And.intro ?_ ?_) | (with_reducible intro _)))
            refine MS.to (c_Md_whySet (d := d - 1) (st := σ.m.st) (by omega) k1 hP (km.st mok)) fun _ => ?_
            have ew : whyS σ.h.P σ.m.st s = if s &&& (31 ^^^ ablM σ.h.P σ.m.st) = 0 then 0 else 2 := by
              unfold whyS
              rw [if_pos (by omega), Int.toNat_natCast]
            rw [ew]
            simp only [wR, wB, wE0, wE1, wE2, wE3, g0, gS, s10, s11, s1S, s20, s21, s2S, kl0, kl1, kl2, kl3, sp0, sp1, sp2, sp3, cn1, cn2, cn3, cn4, cn5, cn6, jJa, lk0, lk1, jmS, jmN, s4_0, s4_1, s4_2, s4_3, s4_4, sw0, sw1, cKs, cKn, true_and, and_true, List.map_cons, List.map_nil, Nat.reduceAdd, Nat.zero_add, Int.reduceAdd, Nat.reduceEqDiff, reduceIte, Classical.not_not, b_Md_attempt, shMd]
            by_cases qs : s &&& (31 ^^^ ablM σ.h.P σ.m.st) = 0
            · rw [if_pos qs]
              (repeat' (first | omega | exact ⟨by omega, by omega⟩ | (with_reducible exact Or.inr trivial) | (with_reducible exact Or.inl trivial) | (with_reducible assumption) | (with_reducible exact Same.refl) | (with_reducible rfl) | (with_reducible refine And.intro ?_ ?_) | (with_reducible intro _)))
              refine AW.run ck_Md_attempt [96] 10 68 ?_
              simp only [wR, wB, wE0, wE1, wE2, wE3, g0, gS, s10, s11, s1S, s20, s21, s2S, kl0, kl1, kl2, kl3, sp0, sp1, sp2, sp3, cn1, cn2, cn3, cn4, cn5, cn6, jJa, lk0, lk1, jmS, jmN, s4_0, s4_1, s4_2, s4_3, s4_4, sw0, sw1, cKs, cKn, true_and, and_true, List.map_cons, List.map_nil, Nat.reduceAdd, Nat.zero_add, Int.reduceAdd, Nat.reduceEqDiff, reduceIte, Classical.not_not, b_Md_attempt, shMd]
              refine ⟨by omega, (c_Md_mostAlike (d := d - 1) (by omega) ok hRK hcl (by omega)).mono ?_⟩
              rintro r' M2 okM2 ⟨rfl, u2⟩
              have ef : alkC cand (codA σ s) 10 = f s := by rw [← hff]
              rw [ef]
              have hfs := hfle s
              simp only [wR, wB, wE0, wE1, wE2, wE3, g0, gS, s10, s11, s1S, s20, s21, s2S, kl0, kl1, kl2, kl3, sp0, sp1, sp2, sp3, cn1, cn2, cn3, cn4, cn5, cn6, jJa, lk0, lk1, jmS, jmN, s4_0, s4_1, s4_2, s4_3, s4_4, sw0, sw1, cKs, cKn, true_and, and_true, List.map_cons, List.map_nil, Nat.reduceAdd, Nat.zero_add, Int.reduceAdd, Nat.reduceEqDiff, reduceIte, Classical.not_not, b_Md_attempt, shMd]
              by_cases ql : f s < (attL f can s).2
              · have e : attL f can (s + 1) = ((s : Int), f s) := by simp only [attL]; rw [if_pos ⟨by rw [hcs, decide_eq_true_eq]; exact qs, ql⟩]
                have := a96 M2 (s : Int) (f s : Int) (some (vi (f s))) (by rw [e]) (by rw [e]; right; exact ⟨hfs, rfl⟩) (hK.trans u2)
                (repeat' (first | omega | exact ⟨by omega, by omega⟩ | (with_reducible exact Or.inr trivial) | (with_reducible exact Or.inl trivial) | (with_reducible assumption) | (with_reducible exact Same.refl) | (with_reducible rfl) | (with_reducible refine And.intro ?_ ?_) | (with_reducible intro _)))
              · have e : attL f can (s + 1) = attL f can s := by simp only [attL]; rw [if_neg (fun h => ql h.2)]
                have := a96 M2 (attL f can s).1 y (some (vi (f s))) (by rw [e]) (by rw [e]; exact hy) (hK.trans u2)
                (repeat' (first | omega | exact ⟨by omega, by omega⟩ | (with_reducible exact Or.inr trivial) | (with_reducible exact Or.inl trivial) | (with_reducible assumption) | (with_reducible exact Same.refl) | (with_reducible rfl) | (with_reducible refine And.intro ?_ ?_) | (with_reducible intro _)))
            · rw [if_neg qs]
              have e : attL f can (s + 1) = attL f can s := by simp only [attL]; rw [if_neg (fun h => qs (by have := h.1; rw [hcs, decide_eq_true_eq] at this; exact this))]
              have := a96 K (attL f can s).1 y l8 (by rw [e]) (by rw [e]; exact hy) hK
              (repeat' (first | omega | exact ⟨by omega, by omega⟩ | (with_reducible exact Or.inr trivial) | (with_reducible exact Or.inl trivial) | (with_reducible assumption) | (with_reducible exact Same.refl) | (with_reducible rfl) | (with_reducible refine And.intro ?_ ?_) | (with_reducible intro _)))
        exact loop (2 ^ σ.h.P) 0 M1 _ none (by omega) Same.refl (Or.inl ⟨rfl, rfl, rfl⟩)
    · rw [if_neg hp] at q; omega
  · (repeat' (first | omega | exact ⟨by omega, by omega⟩ | (with_reducible exact Or.inr trivial) | (with_reducible exact Or.inl trivial) | (with_reducible assumption) | (with_reducible exact Same.refl) | (with_reducible rfl) | (with_reducible refine And.intro ?_ ?_) | (with_reducible intro _)))
    subst hQ
    unfold aAttempt
    rw [if_neg q]
    exact ⟨rfl, hR', hlo⟩
end MO2
