theorem told_df {M N : AM} (hs : Same [117, 118, 122, 123] M N) (h1 : ∀ y : Int, y ≠ 19 → N 117 y = M 117 y) (h2 : ∀ y : Int, (y < 19 ∨ 30 < y) → N 118 y = M 118 y) : MDf M N := ⟨fun x a b c e f => hs x (by (first | decide | (simp only [List.mem_cons, List.not_mem_nil, or_false, not_or, not_false_eq_true, and_true]; omega) | (simp [List.mem_cons]; done))), hs.lo (by intro x hx; simp only [List.mem_cons, List.not_mem_nil, or_false] at hx; omega), ⟨h1 _ (by omega), h1 _ (by omega), h1 _ (by omega)⟩, fun y hy => h2 y (by omega)⟩
theorem sum_cod {P : Nat} {st : Nat → Nat} (h : ∀ p, st p ≤ 4) : sumN (dig (cod st P)) P = sumN st P := sumN_congr P (fun p hp => by rw [dig_cod0 (fun p _ => h p), if_pos hp])
section MJ
variable {G : AG} {d : Nat} {M : AM}
theorem c_Md_perform {t : Int} {B : Nat} {σ : Sg} (hd : 30 ≤ d) (hB : B + 40 < 1000000000) (ok : SgOK B σ) (hR : MR M σ) :
    MS G d mi_Md_perform [vr 117, vi t] M (fun r M' => r = some (vi (aPerform σ t)) ∧ MR M' (sPerform σ t) ∧ Lo M M') := by
  have hR' := hR.thr
  have hok := ok.2.2.1
  have hP := hok.1
  have mok := ok.2.2.2.1
  refine MS.by ck_Md_perform [some (vr 117), some (vi t), none, none] fun _ _ => ?_
  unfold aPerform sPerform
  generalize hQ : (fun (r : Option AV) (M' : AM) => r = some (vi (if aTr σ t = 0 then ((trT σ t).1 : Int) else aTr σ t)) ∧ MR M' (if aTr σ t = 0 ∧ 0 < (trT σ t).1 then σ.deed (trT σ t).2.2 else σ) ∧ Lo M M') = Q
  refine AW.run ck_Md_perform [17] 10 0 ?_
  simp only [wR, wB, wE0, wE1, wE2, wE3, g0, gS, s10, s11, s1S, s20, s21, s2S, kl0, kl1, kl2, kl3, sp0, sp1, sp2, sp3, cn1, cn2, cn3, cn4, cn5, cn6, jJa, lk0, lk1, jmS, jmN, s4_0, s4_1, s4_2, s4_3, s4_4, sw0, sw1, cKs, cKn, true_and, and_true, List.map_cons, List.map_nil, Nat.reduceAdd, Nat.zero_add, Int.reduceAdd, Nat.reduceEqDiff, reduceIte, Classical.not_not, b_Md_perform, shMd]
  have hlo : MDf M (up M 117 0 0) := thr_df
  have h118 : up M 117 0 0 118 = M 118 := by funext y; exact up_ne1 (by omega)
  generalize up M 117 0 0 = N at hR' hlo h118 ⊢
  obtain ⟨hH, hm, hp⟩ := hR'.past
  refine ⟨by omega, MS.to (c_Md_noTray (d := d - 1) (by omega) hR') fun _ => ?_⟩
  simp only [wR, wB, wE0, wE1, wE2, wE3, g0, gS, s10, s11, s1S, s20, s21, s2S, kl0, kl1, kl2, kl3, sp0, sp1, sp2, sp3, cn1, cn2, cn3, cn4, cn5, cn6, jJa, lk0, lk1, jmS, jmN, s4_0, s4_1, s4_2, s4_3, s4_4, sw0, sw1, cKs, cKn, true_and, and_true, List.map_cons, List.map_nil, Nat.reduceAdd, Nat.zero_add, Int.reduceAdd, Nat.reduceEqDiff, reduceIte, Classical.not_not, b_Md_perform, shMd]
  by_cases q : aTr σ t = 0
  · (repeat' (first | omega | exact ⟨by omega, by omega⟩ | (with_reducible exact Or.inr trivial) | (with_reducible exact Or.inl trivial) | (with_reducible assumption) | (with_reducible exact Same.refl) | (with_reducible rfl) | (with_reducible refine And.intro ?_ ?_) | (with_reducible intro _)))
    obtain ⟨i, rfl, hi, hne⟩ := aTr_0 q
    obtain ⟨t1, t2⟩ := (hR'.2.2.2.2.2.1 i hi).2 hne
    have hTT : trT σ i = tellD σ.h (σ.tr i).2.2 (σ.tr i).2.1 0 σ.m := rfl
    refine AW.run ck_Md_perform [] 10 17 ?_
    simp only [wR, wB, wE0, wE1, wE2, wE3, g0, gS, s10, s11, s1S, s20, s21, s2S, kl0, kl1, kl2, kl3, sp0, sp1, sp2, sp3, cn1, cn2, cn3, cn4, cn5, cn6, jJa, lk0, lk1, jmS, jmN, s4_0, s4_1, s4_2, s4_3, s4_4, sw0, sw1, cKs, cKn, true_and, and_true, List.map_cons, List.map_nil, Nat.reduceAdd, Nat.zero_add, Int.reduceAdd, Nat.reduceEqDiff, reduceIte, Classical.not_not, b_Md_perform, shMd]
    refine ⟨by omega, MS.to c_Md_keeps fun _ => ?_⟩
    have krow := keeps_row hm hP
    have kdf : MDf N (cpy N 118 19 124 0 12) := keeps_df
    have k118 : cpy N 118 19 124 0 12 118 = N 118 := by funext y; exact cpy_at (by omega)
    generalize cpy N 118 19 124 0 12 = N1 at krow kdf k118 ⊢
    rw [← k118] at hH hm hp
    rw [← kdf.1 136 (by omega) (by omega) (by omega) (by omega) (by omega)] at t1
    rw [← kdf.1 137 (by omega) (by omega) (by omega) (by omega) (by omega)] at t2
    simp only [wR, wB, wE0, wE1, wE2, wE3, g0, gS, s10, s11, s1S, s20, s21, s2S, kl0, kl1, kl2, kl3, sp0, sp1, sp2, sp3, cn1, cn2, cn3, cn4, cn5, cn6, jJa, lk0, lk1, jmS, jmN, s4_0, s4_1, s4_2, s4_3, s4_4, sw0, sw1, cKs, cKn, true_and, and_true, List.map_cons, List.map_nil, Nat.reduceAdd, Nat.zero_add, Int.reduceAdd, Nat.reduceEqDiff, reduceIte, Classical.not_not, b_Md_perform, shMd]
    refine ⟨by omega, (c_Md_toldRow (d := d - 1) (by omega) hi hB ok hne hH hm t1 t2).mono ?_⟩
    rintro r M1 okM1 ⟨rfl, u1, u2, u3, u4, u5⟩
    have krow2 : MRow (M1 124) σ.h.P σ.m := by rw [u3 124 (by (first | decide | (simp only [List.mem_cons, List.not_mem_nil, or_false, not_or, not_false_eq_true, and_true]; omega) | (simp [List.mem_cons]; done)))]; exact krow
    have df := (hlo.trans kdf).trans (told_df u3 u4 u5)
    simp only [wR, wB, wE0, wE1, wE2, wE3, g0, gS, s10, s11, s1S, s20, s21, s2S, kl0, kl1, kl2, kl3, sp0, sp1, sp2, sp3, cn1, cn2, cn3, cn4, cn5, cn6, jJa, lk0, lk1, jmS, jmN, s4_0, s4_1, s4_2, s4_3, s4_4, sw0, sw1, cKs, cKn, true_and, and_true, List.map_cons, List.map_nil, Nat.reduceAdd, Nat.zero_add, Int.reduceAdd, Nat.reduceEqDiff, reduceIte, Classical.not_not, b_Md_perform, shMd]
    subst hQ
    rw [if_pos q]
    by_cases q2 : 0 < (trT σ i).1
    · rw [if_pos ⟨q, q2⟩]
      (repeat' (first | omega | exact ⟨by omega, by omega⟩ | (with_reducible exact Or.inr trivial) | (with_reducible exact Or.inl trivial) | (with_reducible assumption) | (with_reducible exact Same.refl) | (with_reducible rfl) | (with_reducible refine And.intro ?_ ?_) | (with_reducible intro _)))
      refine (c_Md_notes hP ok.2.2.2.2.1 (hp.eq hP ok.2.2.2.2.1 (fun y y0 y1 => u5 y (by omega))) krow2).mono ?_
      rintro r M3 okM3 ⟨rfl, n1, n2, n3⟩
      simp only [wR, wB, wE0, wE1, wE2, wE3, g0, gS, s10, s11, s1S, s20, s21, s2S, kl0, kl1, kl2, kl3, sp0, sp1, sp2, sp3, cn1, cn2, cn3, cn4, cn5, cn6, jJa, lk0, lk1, jmS, jmN, s4_0, s4_1, s4_2, s4_3, s4_4, sw0, sw1, cKs, cKn, true_and, and_true, List.map_cons, List.map_nil, Nat.reduceAdd, Nat.zero_add, Int.reduceAdd, Nat.reduceEqDiff, reduceIte, Classical.not_not, b_Md_perform]
      exact hR.keep ok df u1 n1 n2 n3
    · rw [if_neg (fun h => q2 h.2)]
      rw [show (trT σ i).2.2 = σ.m from tellD_0 (show (trT σ i).1 = 0 by omega)] at u1
      obtain ⟨c1, c2⟩ := hR.nokeep ok df u1 (fun y y0 y1 => by rw [u5 y (by omega), k118, h118])
      (repeat' (first | omega | exact ⟨by omega, by omega⟩ | (with_reducible exact Or.inr trivial) | (with_reducible exact Or.inl trivial) | (with_reducible assumption) | (with_reducible exact Same.refl) | (with_reducible rfl) | (with_reducible refine And.intro ?_ ?_) | (with_reducible intro _)))
  · (repeat' (first | omega | exact ⟨by omega, by omega⟩ | (with_reducible exact Or.inr trivial) | (with_reducible exact Or.inl trivial) | (with_reducible assumption) | (with_reducible exact Same.refl) | (with_reducible rfl) | (with_reducible refine And.intro ?_ ?_) | (with_reducible intro _)))
    subst hQ
    rw [if_neg q, if_neg (fun h => q h.1)]
    exact ⟨rfl, hR', hlo.2.1⟩
set_option maxRecDepth 20000 in
theorem c_Md_judge {t what : Int} {B : Nat} {σ : Sg} (hd : 30 ≤ d) (hB : B + 40 < 1000000000) (ok : SgOK B σ) (hR : MR M σ) :
    MS G d mi_Md_judge [vr 117, vi t, vi what] M (fun r M' => r = some (vi (aJudge σ t what)) ∧ MR M' σ ∧ Lo M M') := by
  have hR' := hR.thr
  have hok := ok.2.2.1
  have hP := hok.1
  have mok := ok.2.2.2.1
  refine MS.by ck_Md_judge [some (vr 117), some (vi t), some (vi what), none, none, none, none] fun _ _ => ?_
  unfold aJudge
  generalize hQ : (fun (r : Option AV) (M' : AM) => r = some (vi (if what < 0 ∨ 3 < what then -2 else if aTr σ t = 0 then (if what = 0 then (if (trT σ t).2.1 = 0 then -1 else ((trT σ t).1 : Int)) else if what = 1 then (trT σ t).2.1 else if what = 2 then (sumN (trT σ t).2.2.st σ.h.P : Int) else (sdB (trT σ t).2.2.sd σ.h.P : Int)) else aTr σ t)) ∧ MR M' σ ∧ Lo M M') = Q
  refine AW.run ck_Md_judge [20] 10 0 ?_
  simp only [wR, wB, wE0, wE1, wE2, wE3, g0, gS, s10, s11, s1S, s20, s21, s2S, kl0, kl1, kl2, kl3, sp0, sp1, sp2, sp3, cn1, cn2, cn3, cn4, cn5, cn6, jJa, lk0, lk1, jmS, jmN, s4_0, s4_1, s4_2, s4_3, s4_4, sw0, sw1, cKs, cKn, true_and, and_true, List.map_cons, List.map_nil, Nat.reduceAdd, Nat.zero_add, Int.reduceAdd, Nat.reduceEqDiff, reduceIte, Classical.not_not, b_Md_judge, shMd]
  have hlo : MDf M (up M 117 0 0) := thr_df
  have h118 : up M 117 0 0 118 = M 118 := by funext y; exact up_ne1 (by omega)
  generalize up M 117 0 0 = N at hR' hlo h118 ⊢
  obtain ⟨hH, hm, hp⟩ := hR'.past
  refine ⟨by omega, MS.to c_Md_within fun _ => ?_⟩
  simp only [wR, wB, wE0, wE1, wE2, wE3, g0, gS, s10, s11, s1S, s20, s21, s2S, kl0, kl1, kl2, kl3, sp0, sp1, sp2, sp3, cn1, cn2, cn3, cn4, cn5, cn6, jJa, lk0, lk1, jmS, jmN, s4_0, s4_1, s4_2, s4_3, s4_4, sw0, sw1, cKs, cKn, true_and, and_true, List.map_cons, List.map_nil, Nat.reduceAdd, Nat.zero_add, Int.reduceAdd, Nat.reduceEqDiff, reduceIte, Classical.not_not, b_Md_judge, shMd]
  by_cases hw : what < 0 ∨ 3 < what
  · rw [if_neg (by omega)]
    (repeat' (first | omega | exact ⟨by omega, by omega⟩ | (with_reducible exact Or.inr trivial) | (with_reducible exact Or.inl trivial) | (with_reducible assumption) | (with_reducible exact Same.refl) | (with_reducible rfl) | (with_reducible refine And.intro ?_ ?_) | (with_reducible intro _)))
    subst hQ
    rw [if_pos hw]
    exact ⟨rfl, hR', hlo.2.1⟩
  · rw [if_pos (by omega)]
    (repeat' (first | omega | exact ⟨by omega, by omega⟩ | (with_reducible exact Or.inr trivial) | (with_reducible exact Or.inl trivial) | (with_reducible assumption) | (with_reducible exact Same.refl) | (with_reducible rfl) | (with_reducible refine And.intro ?_ ?_) | (with_reducible intro _)))
    refine AW.run ck_Md_judge [32] 10 20 ?_
    simp only [wR, wB, wE0, wE1, wE2, wE3, g0, gS, s10, s11, s1S, s20, s21, s2S, kl0, kl1, kl2, kl3, sp0, sp1, sp2, sp3, cn1, cn2, cn3, cn4, cn5, cn6, jJa, lk0, lk1, jmS, jmN, s4_0, s4_1, s4_2, s4_3, s4_4, sw0, sw1, cKs, cKn, true_and, and_true, List.map_cons, List.map_nil, Nat.reduceAdd, Nat.zero_add, Int.reduceAdd, Nat.reduceEqDiff, reduceIte, Classical.not_not, b_Md_judge, shMd]
    refine ⟨by omega, MS.to (c_Md_noTray (d := d - 1) (by omega) hR') fun _ => ?_⟩
    simp only [wR, wB, wE0, wE1, wE2, wE3, g0, gS, s10, s11, s1S, s20, s21, s2S, kl0, kl1, kl2, kl3, sp0, sp1, sp2, sp3, cn1, cn2, cn3, cn4, cn5, cn6, jJa, lk0, lk1, jmS, jmN, s4_0, s4_1, s4_2, s4_3, s4_4, sw0, sw1, cKs, cKn, true_and, and_true, List.map_cons, List.map_nil, Nat.reduceAdd, Nat.zero_add, Int.reduceAdd, Nat.reduceEqDiff, reduceIte, Classical.not_not, b_Md_judge, shMd]
    by_cases q : aTr σ t = 0
    · (repeat' (first | omega | exact ⟨by omega, by omega⟩ | (with_reducible exact Or.inr trivial) | (with_reducible exact Or.inl trivial) | (with_reducible assumption) | (with_reducible exact Same.refl) | (with_reducible rfl) | (with_reducible refine And.intro ?_ ?_) | (with_reducible intro _)))
      obtain ⟨i, rfl, hi, hne⟩ := aTr_0 q
      obtain ⟨t1, t2⟩ := (hR'.2.2.2.2.2.1 i hi).2 hne
      have hTok := tellD_ok (h := σ.h) (v := (σ.tr i).2.2) (σ.tr i).2.1 0 σ.m B mok
      have hTT : trT σ i = tellD σ.h (σ.tr i).2.2 (σ.tr i).2.1 0 σ.m := rfl
      rw [← hTT] at hTok
      refine AW.run ck_Md_judge [] 10 32 ?_
      simp only [wR, wB, wE0, wE1, wE2, wE3, g0, gS, s10, s11, s1S, s20, s21, s2S, kl0, kl1, kl2, kl3, sp0, sp1, sp2, sp3, cn1, cn2, cn3, cn4, cn5, cn6, jJa, lk0, lk1, jmS, jmN, s4_0, s4_1, s4_2, s4_3, s4_4, sw0, sw1, cKs, cKn, true_and, and_true, List.map_cons, List.map_nil, Nat.reduceAdd, Nat.zero_add, Int.reduceAdd, Nat.reduceEqDiff, reduceIte, Classical.not_not, b_Md_judge, shMd]
      refine ⟨by omega, MS.to c_Md_keeps fun _ => ?_⟩
      have krow := keeps_row hm hP
      have kdf : MDf N (cpy N 118 19 124 0 12) := keeps_df
      have k118 : cpy N 118 19 124 0 12 118 = N 118 := by funext y; exact cpy_at (by omega)
      generalize cpy N 118 19 124 0 12 = N1 at krow kdf k118 ⊢
      rw [← k118] at hH hm hp
      rw [← kdf.1 136 (by omega) (by omega) (by omega) (by omega) (by omega)] at t1
      rw [← kdf.1 137 (by omega) (by omega) (by omega) (by omega) (by omega)] at t2
      simp only [wR, wB, wE0, wE1, wE2, wE3, g0, gS, s10, s11, s1S, s20, s21, s2S, kl0, kl1, kl2, kl3, sp0, sp1, sp2, sp3, cn1, cn2, cn3, cn4, cn5, cn6, jJa, lk0, lk1, jmS, jmN, s4_0, s4_1, s4_2, s4_3, s4_4, sw0, sw1, cKs, cKn, true_and, and_true, List.map_cons, List.map_nil, Nat.reduceAdd, Nat.zero_add, Int.reduceAdd, Nat.reduceEqDiff, reduceIte, Classical.not_not, b_Md_judge, shMd]
      refine ⟨by omega, (c_Md_toldRow (d := d - 1) (by omega) hi hB ok hne hH hm t1 t2).mono ?_⟩
      rintro r M1 okM1 ⟨rfl, u1, u2, u3, u4, u5⟩
      have krow2 : MRow (M1 124) σ.h.P σ.m := by rw [u3 124 (by (first | decide | (simp only [List.mem_cons, List.not_mem_nil, or_false, not_or, not_false_eq_true, and_true]; omega) | (simp [List.mem_cons]; done)))]; exact krow
      have df := (hlo.trans kdf).trans (told_df u3 u4 u5)
      have hP1 : M1 118 1 = σ.h.P := by rw [u5 1 (by omega)]; exact hH.2.1
      have hsum : sumN (trT σ i).2.2.st σ.h.P ≤ 4 * σ.h.P := sumN_le 4 _ (fun p _ => (hTok.1.1 p).2)
      simp only [wR, wB, wE0, wE1, wE2, wE3, g0, gS, s10, s11, s1S, s20, s21, s2S, kl0, kl1, kl2, kl3, sp0, sp1, sp2, sp3, cn1, cn2, cn3, cn4, cn5, cn6, jJa, lk0, lk1, jmS, jmN, s4_0, s4_1, s4_2, s4_3, s4_4, sw0, sw1, cKs, cKn, true_and, and_true, List.map_cons, List.map_nil, Nat.reduceAdd, Nat.zero_add, Int.reduceAdd, Nat.reduceEqDiff, reduceIte, Classical.not_not, b_Md_judge, shMd]
      refine ⟨by omega, MS.to (c_Md_standNow hP1 hP (u1.st hTok.1)) fun _ => ?_⟩
      simp only [wR, wB, wE0, wE1, wE2, wE3, g0, gS, s10, s11, s1S, s20, s21, s2S, kl0, kl1, kl2, kl3, sp0, sp1, sp2, sp3, cn1, cn2, cn3, cn4, cn5, cn6, jJa, lk0, lk1, jmS, jmN, s4_0, s4_1, s4_2, s4_3, s4_4, sw0, sw1, cKs, cKn, true_and, and_true, List.map_cons, List.map_nil, Nat.reduceAdd, Nat.zero_add, Int.reduceAdd, Nat.reduceEqDiff, reduceIte, Classical.not_not, b_Md_judge, shMd]
      refine ⟨by omega, MS.to (c_Md_sumIn (d := d - 1) (by omega) hP1 hP) fun _ => ?_⟩
      rw [sum_cod (fun p => (hTok.1.1 p).2)]
      simp only [wR, wB, wE0, wE1, wE2, wE3, g0, gS, s10, s11, s1S, s20, s21, s2S, kl0, kl1, kl2, kl3, sp0, sp1, sp2, sp3, cn1, cn2, cn3, cn4, cn5, cn6, jJa, lk0, lk1, jmS, jmN, s4_0, s4_1, s4_2, s4_3, s4_4, sw0, sw1, cKs, cKn, true_and, and_true, List.map_cons, List.map_nil, Nat.reduceAdd, Nat.zero_add, Int.reduceAdd, Nat.reduceEqDiff, reduceIte, Classical.not_not, b_Md_judge, shMd]
      refine ⟨by omega, MS.to (c_Md_sideOf (s := 1) hP1 hP u1.g.1) fun _ => ?_⟩
      rw [show bitsP (fun p => decide ((trT σ i).2.2.sd p = 1)) σ.h.P = sdB (trT σ i).2.2.sd σ.h.P from rfl]
      simp only [wR, wB, wE0, wE1, wE2, wE3, g0, gS, s10, s11, s1S, s20, s21, s2S, kl0, kl1, kl2, kl3, sp0, sp1, sp2, sp3, cn1, cn2, cn3, cn4, cn5, cn6, jJa, lk0, lk1, jmS, jmN, s4_0, s4_1, s4_2, s4_3, s4_4, sw0, sw1, cKs, cKn, true_and, and_true, List.map_cons, List.map_nil, Nat.reduceAdd, Nat.zero_add, Int.reduceAdd, Nat.reduceEqDiff, reduceIte, Classical.not_not, b_Md_judge, shMd]
      refine ⟨by omega, MS.to c_Md_isAgain fun _ => ?_⟩
      have e19 : cpy M1 124 0 118 19 12 117 19 = (trT σ i).2.1 := by rw [cpy_at (by omega)]; exact u2
      have fin : MR (cpy M1 124 0 118 19 12) σ ∧ Lo M (cpy M1 124 0 118 19 12) := by
        refine hR.nokeep ok (df.trans ⟨fun x a b c e f => by funext y; exact cpy_at (by omega), fun x hx => by funext y; exact cpy_at (by omega), ⟨cpy_at (by omega), cpy_at (by omega), cpy_at (by omega)⟩, fun y hy => cpy_at (by omega)⟩) ?_ ?_
        · refine krow2.eq hP (fun y y0 y1 => ?_)
          rw [cpy_in y0 (by omega), Int.zero_add]
        · intro y y0 y1
          rw [cpy_at (by omega), u5 y (by omega), k118, h118]
      generalize cpy M1 124 0 118 19 12 = K at e19 fin ⊢
      obtain ⟨c1, c2⟩ := fin
      simp only [wR, wB, wE0, wE1, wE2, wE3, g0, gS, s10, s11, s1S, s20, s21, s2S, kl0, kl1, kl2, kl3, sp0, sp1, sp2, sp3, cn1, cn2, cn3, cn4, cn5, cn6, jJa, lk0, lk1, jmS, jmN, s4_0, s4_1, s4_2, s4_3, s4_4, sw0, sw1, cKs, cKn, true_and, and_true, List.map_cons, List.map_nil, Nat.reduceAdd, Nat.zero_add, Int.reduceAdd, Nat.reduceEqDiff, reduceIte, Classical.not_not, b_Md_judge, shMd, e19]
      subst hQ
      rw [if_neg hw, if_pos q]
      refine ⟨fun w0 => ⟨fun w1 => ⟨fun w2 => ?_, fun w2 => ?_⟩, fun w1 => ?_⟩, fun w0 => ⟨fun e => ?_, fun e => ?_⟩⟩
      · rw [if_neg w0, if_neg w1, if_neg w2]; exact ⟨rfl, c1, c2⟩
      · rw [if_neg w0, if_neg w1, if_pos w2]; exact ⟨rfl, c1, c2⟩
      · rw [if_neg w0, if_pos w1]; exact ⟨rfl, c1, c2⟩
      · rw [if_pos w0, if_neg e]; exact ⟨rfl, c1, c2⟩
      · rw [if_pos w0, if_pos e]; exact ⟨rfl, c1, c2⟩
    · (repeat' (first | omega | exact ⟨by omega, by omega⟩ | (with_reducible exact Or.inr trivial) | (with_reducible exact Or.inl trivial) | (with_reducible assumption) | (with_reducible exact Same.refl) | (with_reducible rfl) | (with_reducible refine And.intro ?_ ?_) | (with_reducible intro _)))
      subst hQ
      rw [if_neg hw, if_neg q]
      exact ⟨rfl, hR', hlo.2.1⟩
theorem c_Md_draw {b : Nat} (hb : 0 < b) : MS G d mi_Md_draw [vr 117, vi b] M (fun r M' => r = some (vi (bUshr (lcg (M 117 20)) 16 % b)) ∧ M' = up M 117 20 (lcg (M 117 20))) := by
  have h := ush16 (lcg (M 117 20))
  refine MS.run ck_Md_draw [some (vr 117), some (vi b)] [] 10 fun _ _ => ?_
  simp only [wR, wB, wE0, wE1, wE2, wE3, g0, gS, s10, s11, s1S, s20, s21, s2S, kl0, kl1, kl2, kl3, sp0, sp1, sp2, sp3, cn1, cn2, cn3, cn4, cn5, cn6, jJa, lk0, lk1, jmS, jmN, s4_0, s4_1, s4_2, s4_3, s4_4, sw0, sw1, cKs, cKn, true_and, and_true, List.map_cons, List.map_nil, Nat.reduceAdd, Nat.zero_add, Int.reduceAdd, Nat.reduceEqDiff, reduceIte, Classical.not_not, b_Md_draw, shMd, up_rd, Int.reduceEq, and_false, false_and, and_self, reduceIte, not_true_eq_false, not_false_eq_true, false_imp_iff, true_imp_iff, true_or, or_true]
  rw [show w3 (w3 (1103515245 * M 117 20) + 12345) = lcg (M 117 20) from rfl]
  (repeat' (first | omega | exact ⟨by omega, by omega⟩ | (with_reducible exact Or.inr trivial) | (with_reducible exact Or.inl trivial) | (with_reducible assumption) | (with_reducible exact Same.refl) | (with_reducible rfl) | (with_reducible refine And.intro ?_ ?_) | (with_reducible intro _)))
theorem c_Md_drawn (hd : 1 ≤ d) : MS G d mi_Md_drawn [vr 117] M (fun r M' => r = some (vi (drawV (M 117 20))) ∧ M' = up M 117 20 (lcg (lcg (M 117 20)))) := by
  have h1 := ush16 (lcg (M 117 20))
  have h2 := ush16 (lcg (lcg (M 117 20)))
  refine MS.run ck_Md_drawn [some (vr 117), none] [] 10 fun _ _ => ?_
  simp only [wR, wB, wE0, wE1, wE2, wE3, g0, gS, s10, s11, s1S, s20, s21, s2S, kl0, kl1, kl2, kl3, sp0, sp1, sp2, sp3, cn1, cn2, cn3, cn4, cn5, cn6, jJa, lk0, lk1, jmS, jmN, s4_0, s4_1, s4_2, s4_3, s4_4, sw0, sw1, cKs, cKn, true_and, and_true, List.map_cons, List.map_nil, Nat.reduceAdd, Nat.zero_add, Int.reduceAdd, Nat.reduceEqDiff, reduceIte, Classical.not_not, b_Md_drawn, shMd]
  refine ⟨by omega, MS.to (c_Md_draw (b := 6) (by omega)) fun _ => ?_⟩
  have uu : ∀ v w : Int, up (up M 117 20 v) 117 20 w = up M 117 20 w := by
    intro v w
    funext x y
    unfold up
    split <;> rfl
  simp only [wR, wB, wE0, wE1, wE2, wE3, g0, gS, s10, s11, s1S, s20, s21, s2S, kl0, kl1, kl2, kl3, sp0, sp1, sp2, sp3, cn1, cn2, cn3, cn4, cn5, cn6, jJa, lk0, lk1, jmS, jmN, s4_0, s4_1, s4_2, s4_3, s4_4, sw0, sw1, cKs, cKn, true_and, and_true, List.map_cons, List.map_nil, Nat.reduceAdd, Nat.zero_add, Int.reduceAdd, Nat.reduceEqDiff, reduceIte, Classical.not_not, b_Md_drawn, shMd]
  unfold drawV
  refine ⟨fun q => ⟨fun q2 => ⟨by omega, MS.to (c_Md_draw (b := 5) (by omega)) fun _ => ?_⟩, fun q2 => ⟨by omega, MS.to (c_Md_draw (b := 5) (by omega)) fun _ => ?_⟩⟩, fun q => ⟨by omega, MS.to (c_Md_draw (b := 32) (by omega)) fun _ => ?_⟩⟩
  · simp only [wR, wB, wE0, wE1, wE2, wE3, g0, gS, s10, s11, s1S, s20, s21, s2S, kl0, kl1, kl2, kl3, sp0, sp1, sp2, sp3, cn1, cn2, cn3, cn4, cn5, cn6, jJa, lk0, lk1, jmS, jmN, s4_0, s4_1, s4_2, s4_3, s4_4, sw0, sw1, cKs, cKn, true_and, and_true, List.map_cons, List.map_nil, Nat.reduceAdd, Nat.zero_add, Int.reduceAdd, Nat.reduceEqDiff, reduceIte, Classical.not_not, b_Md_drawn, up_rd, Int.reduceEq, and_false, false_and, and_self, reduceIte, not_true_eq_false, not_false_eq_true, false_imp_iff, true_imp_iff, true_or, or_true, uu]
    rw [if_neg (by omega), if_neg (by omega)]
    exact ⟨⟨by omega, by omega⟩, rfl⟩
  · simp only [wR, wB, wE0, wE1, wE2, wE3, g0, gS, s10, s11, s1S, s20, s21, s2S, kl0, kl1, kl2, kl3, sp0, sp1, sp2, sp3, cn1, cn2, cn3, cn4, cn5, cn6, jJa, lk0, lk1, jmS, jmN, s4_0, s4_1, s4_2, s4_3, s4_4, sw0, sw1, cKs, cKn, true_and, and_true, List.map_cons, List.map_nil, Nat.reduceAdd, Nat.zero_add, Int.reduceAdd, Nat.reduceEqDiff, reduceIte, Classical.not_not, b_Md_drawn, up_rd, Int.reduceEq, and_false, false_and, and_self, reduceIte, not_true_eq_false, not_false_eq_true, false_imp_iff, true_imp_iff, true_or, or_true, uu]
    rw [if_neg (by omega), if_pos (by omega)]
    exact ⟨⟨by omega, by omega⟩, rfl⟩
  · simp only [wR, wB, wE0, wE1, wE2, wE3, g0, gS, s10, s11, s1S, s20, s21, s2S, kl0, kl1, kl2, kl3, sp0, sp1, sp2, sp3, cn1, cn2, cn3, cn4, cn5, cn6, jJa, lk0, lk1, jmS, jmN, s4_0, s4_1, s4_2, s4_3, s4_4, sw0, sw1, cKs, cKn, true_and, and_true, List.map_cons, List.map_nil, Nat.reduceAdd, Nat.zero_add, Int.reduceAdd, Nat.reduceEqDiff, reduceIte, Classical.not_not, b_Md_drawn, up_rd, Int.reduceEq, and_false, false_and, and_self, reduceIte, not_true_eq_false, not_false_eq_true, false_imp_iff, true_imp_iff, true_or, or_true, uu]
    rw [if_pos (by omega)]
    rfl
end MJ
