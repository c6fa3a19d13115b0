section MK
variable {G : AG} {d : Nat} {M : AM}
theorem c_Md_winter {seed times : Int} {B : Nat} {σ : Sg} (hd : 30 ≤ d) (hB : B + 40 < 1000000000) (ok : SgOK B σ) (hR : MR M σ) :
    MS G d mi_Md_winter [vr 117, vi seed, vi times] M (fun r M' => r = some (vi (aWinter σ seed times)) ∧ MR M' (sWinter σ seed times) ∧ Lo M M') := by
  have hR' := hR.thr
  have hok := ok.2.2.1
  have hP := hok.1
  have mok := ok.2.2.2.1
  refine MS.by ck_Md_winter [some (vr 117), some (vi seed), some (vi times), none, none, none] fun _ _ => ?_
  unfold aWinter sWinter
  generalize hQ : (fun (r : Option AV) (M' : AM) => r = some (vi (if 1 ≤ times ∧ times ≤ 40 then ((winD σ.h times.toNat seed 0 σ.m).1 : Int) else -3)) ∧ MR M' (if (1 ≤ times ∧ times ≤ 40) ∧ 0 < (winD σ.h times.toNat seed 0 σ.m).1 then σ.deed (winD σ.h times.toNat seed 0 σ.m).2 else σ) ∧ Lo M M') = Q
  refine AW.run ck_Md_winter [20] 10 0 ?_
  simp only [wR, wB, wE0, wE1, wE2, wE3, g0, gS, s10, s11, s1S, s20, s21, s2S, kl0, kl1, kl2, kl3, sp0, sp1, sp2, sp3, cn1, cn2, cn3, cn4, cn5, cn6, jJa, lk0, lk1, jmS, jmN, s4_0, s4_1, s4_2, s4_3, s4_4, sw0, sw1, cKs, cKn, true_and, and_true, List.map_cons, List.map_nil, Nat.reduceAdd, Nat.zero_add, Int.reduceAdd, Nat.reduceEqDiff, reduceIte, Classical.not_not, b_Md_winter, shMd]
  have hlo : MDf M (up M 117 0 0) := thr_df
  have h118 : up M 117 0 0 118 = M 118 := by funext y; exact up_ne1 (by omega)
  generalize up M 117 0 0 = N at hR' hlo h118 ⊢
  obtain ⟨hH, hm, hp⟩ := hR'.past
  refine ⟨by omega, MS.to c_Md_within fun _ => ?_⟩
  simp only [wR, wB, wE0, wE1, wE2, wE3, g0, gS, s10, s11, s1S, s20, s21, s2S, kl0, kl1, kl2, kl3, sp0, sp1, sp2, sp3, cn1, cn2, cn3, cn4, cn5, cn6, jJa, lk0, lk1, jmS, jmN, s4_0, s4_1, s4_2, s4_3, s4_4, sw0, sw1, cKs, cKn, true_and, and_true, List.map_cons, List.map_nil, Nat.reduceAdd, Nat.zero_add, Int.reduceAdd, Nat.reduceEqDiff, reduceIte, Classical.not_not, b_Md_winter, shMd]
  by_cases ht : 1 ≤ times ∧ times ≤ 40
  · obtain ⟨n, rfl⟩ := Int.eq_ofNat_of_zero_le (show 0 ≤ times by omega)
    rw [if_pos ht]
    (repeat' (first | omega | exact ⟨by omega, by omega⟩ | (with_reducible exact Or.inr trivial) | (with_reducible exact Or.inl trivial) | (with_reducible assumption) | (with_reducible exact Same.refl) | (with_reducible rfl) | (with_reducible refine And.intro ?_ ?_) | (with_reducible intro _)))
    have hw := winD_ok (h := σ.h) n seed 0 σ.m B mok
    refine AW.run ck_Md_winter [34] 10 20 ?_
    simp only [wR, wB, wE0, wE1, wE2, wE3, g0, gS, s10, s11, s1S, s20, s21, s2S, kl0, kl1, kl2, kl3, sp0, sp1, sp2, sp3, cn1, cn2, cn3, cn4, cn5, cn6, jJa, lk0, lk1, jmS, jmN, s4_0, s4_1, s4_2, s4_3, s4_4, sw0, sw1, cKs, cKn, true_and, and_true, List.map_cons, List.map_nil, Nat.reduceAdd, Nat.zero_add, Int.reduceAdd, Nat.reduceEqDiff, reduceIte, Classical.not_not, b_Md_winter, shMd]
    refine ⟨by omega, MS.to c_Md_keeps fun _ => ?_⟩
    have krow := keeps_row hm hP
    have kdf : MDf N (cpy N 118 19 124 0 12) := keeps_df
    have k118 : cpy N 118 19 124 0 12 118 = N 118 := by funext y; exact cpy_at (by omega)
    generalize cpy N 118 19 124 0 12 = N1 at krow kdf k118 ⊢
    rw [← k118] at hH hm hp
    simp only [wR, wB, wE0, wE1, wE2, wE3, g0, gS, s10, s11, s1S, s20, s21, s2S, kl0, kl1, kl2, kl3, sp0, sp1, sp2, sp3, cn1, cn2, cn3, cn4, cn5, cn6, jJa, lk0, lk1, jmS, jmN, s4_0, s4_1, s4_2, s4_3, s4_4, sw0, sw1, cKs, cKn, true_and, and_true, List.map_cons, List.map_nil, Nat.reduceAdd, Nat.zero_add, Int.reduceAdd, Nat.reduceEqDiff, reduceIte, Classical.not_not, b_Md_winter, shMd]
    have a74 : ∀ (K : AM) (l4 l5 : Option AV), MRow (fun y => K 118 (19 + y)) σ.h.P (winD σ.h n seed 0 σ.m).2 → MRow (K 124) σ.h.P σ.m → MDf M K → (∀ y : Int, (y < 19 ∨ 30 < y) → K 118 y = N1 118 y) → AW G d mi_Md_winter Q 74 [some (vr 117), some (vi seed), some (vi n), some (vi (winD σ.h n seed 0 σ.m).1), l4, l5] [] K := by
      intro K l4 l5 h1 h2 h3 h4
      refine AW.run ck_Md_winter [] 10 74 ?_
      simp only [wR, wB, wE0, wE1, wE2, wE3, g0, gS, s10, s11, s1S, s20, s21, s2S, kl0, kl1, kl2, kl3, sp0, sp1, sp2, sp3, cn1, cn2, cn3, cn4, cn5, cn6, jJa, lk0, lk1, jmS, jmN, s4_0, s4_1, s4_2, s4_3, s4_4, sw0, sw1, cKs, cKn, true_and, and_true, List.map_cons, List.map_nil, Nat.reduceAdd, Nat.zero_add, Int.reduceAdd, Nat.reduceEqDiff, reduceIte, Classical.not_not, b_Md_winter, shMd]
      subst hQ
      rw [if_pos ht, Int.toNat_natCast]
      by_cases q2 : 0 < (winD σ.h n seed 0 σ.m).1
      · rw [if_pos ⟨ht, q2⟩]
        (repeat' (first | omega | exact ⟨by omega, by omega⟩ | (with_reducible exact Or.inr trivial) | (with_reducible exact Or.inl trivial) | (with_reducible assumption) | (with_reducible exact Same.refl) | (with_reducible rfl) | (with_reducible refine And.intro ?_ ?_) | (with_reducible intro _)))
        refine (c_Md_notes hP ok.2.2.2.2.1 (hp.eq hP ok.2.2.2.2.1 (fun y y0 y1 => h4 y (by omega))) h2).mono ?_
        rintro r M3 okM3 ⟨rfl, n1, n2, n3⟩
        simp only [wR, wB, wE0, wE1, wE2, wE3, g0, gS, s10, s11, s1S, s20, s21, s2S, kl0, kl1, kl2, kl3, sp0, sp1, sp2, sp3, cn1, cn2, cn3, cn4, cn5, cn6, jJa, lk0, lk1, jmS, jmN, s4_0, s4_1, s4_2, s4_3, s4_4, sw0, sw1, cKs, cKn, true_and, and_true, List.map_cons, List.map_nil, Nat.reduceAdd, Nat.zero_add, Int.reduceAdd, Nat.reduceEqDiff, reduceIte, Classical.not_not, b_Md_winter]
        exact hR.keep ok h3 h1 n1 n2 n3
      · rw [if_neg (fun h => q2 h.2)]
        rw [hw.2.2.2 (by omega)] at h1
        obtain ⟨c1, c2⟩ := hR.nokeep ok h3 h1 (fun y y0 y1 => by rw [h4 y (by omega), k118, h118])
        (repeat' (first | omega | exact ⟨by omega, by omega⟩ | (with_reducible exact Or.inr trivial) | (with_reducible exact Or.inl trivial) | (with_reducible assumption) | (with_reducible exact Same.refl) | (with_reducible rfl) | (with_reducible refine And.intro ?_ ?_) | (with_reducible intro _)))
    have loop : ∀ (r i c : Nat) (x : Int) (m' : Mo) (K : AM) (l5 : Option AV), i + r = n → c ≤ i → MoB (B + i) m' → K 117 20 = x → MRow (fun y => K 118 (19 + y)) σ.h.P m' → MRow (K 124) σ.h.P σ.m → MDf M K → (∀ y : Int, (y < 19 ∨ 30 < y) → K 118 y = N1 118 y) → winD σ.h r x c m' = winD σ.h n seed 0 σ.m → AW G d mi_Md_winter Q 34 [some (vr 117), some (vi seed), some (vi n), some (vi c), some (vi i), l5] [] K := by
      intro r
      induction r with
      | zero =>
        intro i c x m' K l5 hi hc hb hx h1 h2 h3 h4 he
        refine AW.run ck_Md_winter [74] 10 34 ?_
        simp only [wR, wB, wE0, wE1, wE2, wE3, g0, gS, s10, s11, s1S, s20, s21, s2S, kl0, kl1, kl2, kl3, sp0, sp1, sp2, sp3, cn1, cn2, cn3, cn4, cn5, cn6, jJa, lk0, lk1, jmS, jmN, s4_0, s4_1, s4_2, s4_3, s4_4, sw0, sw1, cKs, cKn, true_and, and_true, List.map_cons, List.map_nil, Nat.reduceAdd, Nat.zero_add, Int.reduceAdd, Nat.reduceEqDiff, reduceIte, Classical.not_not, b_Md_winter, shMd]
        have he' : winD σ.h n seed 0 σ.m = (c, m') := by rw [← he]; rfl
        have := a74 K (some (vi i)) l5 (by rw [he']; exact h1) h2 h3 h4
        rw [he'] at this
        (repeat' (first | omega | exact ⟨by omega, by omega⟩ | (with_reducible exact Or.inr trivial) | (with_reducible exact Or.inl trivial) | (with_reducible assumption) | (with_reducible exact Same.refl) | (with_reducible rfl) | (with_reducible refine And.intro ?_ ?_) | (with_reducible intro _)))
      | succ r ih =>
        intro i c x m' K l5 hi hc hb hx h1 h2 h3 h4 he
        have hdv := drawV_in x
        obtain ⟨w, hw'⟩ := Int.eq_ofNat_of_zero_le hdv.1
        refine AW.run ck_Md_winter [59, 68] 10 34 ?_
        simp only [wR, wB, wE0, wE1, wE2, wE3, g0, gS, s10, s11, s1S, s20, s21, s2S, kl0, kl1, kl2, kl3, sp0, sp1, sp2, sp3, cn1, cn2, cn3, cn4, cn5, cn6, jJa, lk0, lk1, jmS, jmN, s4_0, s4_1, s4_2, s4_3, s4_4, sw0, sw1, cKs, cKn, true_and, and_true, List.map_cons, List.map_nil, Nat.reduceAdd, Nat.zero_add, Int.reduceAdd, Nat.reduceEqDiff, reduceIte, Classical.not_not, b_Md_winter, shMd]
        (repeat' (first | omega | exact ⟨by omega, by omega⟩ | (with_reducible exact Or.inr trivial) | (with_reducible exact Or.inl trivial) | (with_reducible assumption) | (with_reducible exact Same.refl) | (with_reducible rfl) | (with_reducible refine And.intro ?_ ?_) | (with_reducible intro _)))
        refine MS.to (c_Md_drawn (d := d - 1) (by omega)) fun _ => ?_
        rw [hx, hw']
        have u118 : up K 117 20 (lcg (lcg x)) 118 = K 118 := by funext y; exact up_ne1 (by omega)
        have u124 : up K 117 20 (lcg (lcg x)) 124 = K 124 := by funext y; exact up_ne1 (by omega)
        have u20 : up K 117 20 (lcg (lcg x)) 117 20 = lcg (lcg x) := by rw [up_eq]
        have udf : MDf K (up K 117 20 (lcg (lcg x))) := ⟨fun x a b c e f => by funext y; exact up_ne1 (by omega), fun x hx => by funext y; exact up_ne1 (by omega), ⟨up_ne2 (by omega), up_ne2 (by omega), up_ne2 (by omega)⟩, fun y hy => up_ne1 (by omega)⟩
        generalize up K 117 20 (lcg (lcg x)) = K1 at u118 u124 u20 udf ⊢
        rw [← u118] at h1 h4
        rw [← u124] at h2
        have h3' := h3.trans udf
        have hHK : MH (K1 118) σ.h := hH.eq hP (fun y hy => h4 y (by omega))
        simp only [wR, wB, wE0, wE1, wE2, wE3, g0, gS, s10, s11, s1S, s20, s21, s2S, kl0, kl1, kl2, kl3, sp0, sp1, sp2, sp3, cn1, cn2, cn3, cn4, cn5, cn6, jJa, lk0, lk1, jmS, jmN, s4_0, s4_1, s4_2, s4_3, s4_4, sw0, sw1, cKs, cKn, true_and, and_true, List.map_cons, List.map_nil, Nat.reduceAdd, Nat.zero_add, Int.reduceAdd, Nat.reduceEqDiff, reduceIte, Classical.not_not, b_Md_winter, shMd]
        (repeat' (first | omega | exact ⟨by omega, by omega⟩ | (with_reducible exact Or.inr trivial) | (with_reducible exact Or.inl trivial) | (with_reducible assumption) | (with_reducible exact Same.refl) | (with_reducible rfl) | (with_reducible refine And.intro ?_ ?_) | (with_reducible intro _)))
        refine MS.to (c_Md_whyNot (d := d - 1) (by omega) hHK.2.1 hP (h1.st hb.1)) fun _ => ?_
        simp only [wR, wB, wE0, wE1, wE2, wE3, g0, gS, s10, s11, s1S, s20, s21, s2S, kl0, kl1, kl2, kl3, sp0, sp1, sp2, sp3, cn1, cn2, cn3, cn4, cn5, cn6, jJa, lk0, lk1, jmS, jmN, s4_0, s4_1, s4_2, s4_3, s4_4, sw0, sw1, cKs, cKn, true_and, and_true, List.map_cons, List.map_nil, Nat.reduceAdd, Nat.zero_add, Int.reduceAdd, Nat.reduceEqDiff, reduceIte, Classical.not_not, b_Md_winter, shMd]
        have a68 : ∀ (c' : Nat) (m'' : Mo) (K2 : AM) (l5 : Option AV), c' ≤ i + 1 → MoB (B + (i + 1)) m'' → K2 117 20 = lcg (lcg x) → MRow (fun y => K2 118 (19 + y)) σ.h.P m'' → MRow (K2 124) σ.h.P σ.m → MDf M K2 → (∀ y : Int, (y < 19 ∨ 30 < y) → K2 118 y = N1 118 y) → winD σ.h r (lcg (lcg x)) c' m'' = winD σ.h n seed 0 σ.m → AW G d mi_Md_winter Q 68 [some (vr 117), some (vi seed), some (vi n), some (vi c'), some (vi i), l5] [] K2 := by
          intro c' m'' K2 l5 hc' hb' hx' g1 g2 g3 g4 he'
          refine AW.run ck_Md_winter [34] 10 68 ?_
          simp only [wR, wB, wE0, wE1, wE2, wE3, g0, gS, s10, s11, s1S, s20, s21, s2S, kl0, kl1, kl2, kl3, sp0, sp1, sp2, sp3, cn1, cn2, cn3, cn4, cn5, cn6, jJa, lk0, lk1, jmS, jmN, s4_0, s4_1, s4_2, s4_3, s4_4, sw0, sw1, cKs, cKn, true_and, and_true, List.map_cons, List.map_nil, Nat.reduceAdd, Nat.zero_add, Int.reduceAdd, Nat.reduceEqDiff, reduceIte, Classical.not_not, b_Md_winter, ce]
          (repeat' (first | omega | exact ⟨by omega, by omega⟩ | (with_reducible exact Or.inr trivial) | (with_reducible exact Or.inl trivial) | (with_reducible assumption) | (with_reducible exact Same.refl) | (with_reducible rfl) | (with_reducible refine And.intro ?_ ?_) | (with_reducible intro _)))
          exact ih (i + 1) c' _ m'' K2 _ (by omega) hc' hb' hx' g1 g2 g3 g4 he'
        simp only [winD, hw'] at he
        by_cases q : whyD σ.h.P m' w = 0
        · rw [if_pos q] at he
          (repeat' (first | omega | exact ⟨by omega, by omega⟩ | (with_reducible exact Or.inr trivial) | (with_reducible exact Or.inl trivial) | (with_reducible assumption) | (with_reducible exact Same.refl) | (with_reducible rfl) | (with_reducible refine And.intro ?_ ?_) | (with_reducible intro _)))
          refine AW.run ck_Md_winter [68] 10 59 ?_
          simp only [wR, wB, wE0, wE1, wE2, wE3, g0, gS, s10, s11, s1S, s20, s21, s2S, kl0, kl1, kl2, kl3, sp0, sp1, sp2, sp3, cn1, cn2, cn3, cn4, cn5, cn6, jJa, lk0, lk1, jmS, jmN, s4_0, s4_1, s4_2, s4_3, s4_4, sw0, sw1, cKs, cKn, true_and, and_true, List.map_cons, List.map_nil, Nat.reduceAdd, Nat.zero_add, Int.reduceAdd, Nat.reduceEqDiff, reduceIte, Classical.not_not, b_Md_winter, shMd]
          (repeat' (first | omega | exact ⟨by omega, by omega⟩ | (with_reducible exact Or.inr trivial) | (with_reducible exact Or.inl trivial) | (with_reducible assumption) | (with_reducible exact Same.refl) | (with_reducible rfl) | (with_reducible refine And.intro ?_ ?_) | (with_reducible intro _)))
          have hbb := hb.2
          refine (c_Md_does (d := d - 1) (m := m') (v := w) (by omega) hok hb.1 hHK h1 q (by omega)).mono ?_
          rintro r' M1 okM1 ⟨rfl, t1, t2⟩
          simp only [wR, wB, wE0, wE1, wE2, wE3, g0, gS, s10, s11, s1S, s20, s21, s2S, kl0, kl1, kl2, kl3, sp0, sp1, sp2, sp3, cn1, cn2, cn3, cn4, cn5, cn6, jJa, lk0, lk1, jmS, jmN, s4_0, s4_1, s4_2, s4_3, s4_4, sw0, sw1, cKs, cKn, true_and, and_true, List.map_cons, List.map_nil, Nat.reduceAdd, Nat.zero_add, Int.reduceAdd, Nat.reduceEqDiff, reduceIte, Classical.not_not, b_Md_winter, ce]
          (repeat' (first | omega | exact ⟨by omega, by omega⟩ | (with_reducible exact Or.inr trivial) | (with_reducible exact Or.inl trivial) | (with_reducible assumption) | (with_reducible exact Same.refl) | (with_reducible rfl) | (with_reducible refine And.intro ?_ ?_) | (with_reducible intro _)))
          exact a68 (c + 1) _ M1 _ (by omega) (doD_ok hb) (by rw [t2.1.at 117 _ (by (first | decide | (simp only [List.mem_cons, List.not_mem_nil, or_false, not_or, not_false_eq_true, and_true]; omega) | (simp [List.mem_cons]; done)))]; exact u20) t1 (by rw [t2.1 124 (by (first | decide | (simp only [List.mem_cons, List.not_mem_nil, or_false, not_or, not_false_eq_true, and_true]; omega) | (simp [List.mem_cons]; done)))]; exact h2) (h3'.trans t2.df) (fun y hy => by rw [t2.2 y hy]; exact h4 y hy) he
        · rw [if_neg q] at he
          (repeat' (first | omega | exact ⟨by omega, by omega⟩ | (with_reducible exact Or.inr trivial) | (with_reducible exact Or.inl trivial) | (with_reducible assumption) | (with_reducible exact Same.refl) | (with_reducible rfl) | (with_reducible refine And.intro ?_ ?_) | (with_reducible intro _)))
          exact a68 c m' K1 _ (by omega) (hb.mono (by omega)) u20 h1 h2 h3' h4 he
    have u118 : up N1 117 20 seed 118 = N1 118 := by funext y; exact up_ne1 (by omega)
    refine loop n 0 0 seed σ.m _ _ (by omega) (by omega) mok (by rw [up_eq]) (by rw [u118]; exact hm) ?_ ?_ (fun y hy => by rw [u118]) rfl
    · have : up N1 117 20 seed 124 = N1 124 := by funext y; exact up_ne1 (by omega)
      rw [this]; exact krow
    · exact (hlo.trans kdf).trans ⟨fun x a b c e f => by funext y; exact up_ne1 (by omega), fun x hx => by funext y; exact up_ne1 (by omega), ⟨up_ne2 (by omega), up_ne2 (by omega), up_ne2 (by omega)⟩, fun y hy => up_ne1 (by omega)⟩
  · rw [if_neg ht]
    (repeat' (first | omega | exact ⟨by omega, by omega⟩ | (with_reducible exact Or.inr trivial) | (with_reducible exact Or.inl trivial) | (with_reducible assumption) | (with_reducible exact Same.refl) | (with_reducible rfl) | (with_reducible refine And.intro ?_ ?_) | (with_reducible intro _)))
    subst hQ
    rw [if_neg ht, if_neg (fun h => ht h.1)]
    exact ⟨rfl, hR', hlo.2.1⟩
end MK
