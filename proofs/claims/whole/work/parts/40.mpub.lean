/-- behind deeds of the model, the moment before them kept in was -/
theorem MR.keep {M N K : AM} {B : Nat} {σ : Sg} {m : Mo} (hR : MR M σ) (ok : SgOK B σ) (hf : MDf M N) (hm : MRow (fun y => N 118 (19 + y)) σ.h.P m) (hp : MPast (K 118) σ.h.P (pushN σ.np) (pushM σ.np σ.pm σ.m)) (hs : Same [118] N K) (hy : ∀ y : Int, (y < 31 ∨ 152 ≤ y) → K 118 y = N 118 y) : MR K (σ.deed m) ∧ Lo M K := by
  have f3 := hf.trans (notes_df hs hy)
  have hP := ok.2.2.1.1
  exact ⟨hR.upd hP ok.im5 f3 (hm.eq hP (fun y y0 y1 => hy _ (by omega))) hp, f3.2.1⟩
theorem MR.nokeep {M N : AM} {B : Nat} {σ : Sg} (hR : MR M σ) (ok : SgOK B σ) (hf : MDf M N) (hm : MRow (fun y => N 118 (19 + y)) σ.h.P σ.m) (hy : ∀ y : Int, 31 ≤ y → y < 152 → N 118 y = M 118 y) : MR N σ ∧ Lo M N :=
  ⟨hR.upd ok.2.2.1.1 ok.im5 hf hm (hR.past.2.2.eq ok.2.2.1.1 ok.2.2.2.2.1 hy), hf.2.1⟩
section MF
variable {G : AG} {d : Nat} {M : AM}
theorem c_Md_hour {v : Int} {B : Nat} {σ : Sg} (hd : 20 ≤ d) (hB : B < 1000000000) (ok : SgOK B σ) (hR : MR M σ) (hv : inI v) :
    MS G d mi_Md_hour [vr 117, vi v] M (fun r M' => r = some (vi (aHour σ v)) ∧ MR M' (sHour σ v) ∧ Lo M M') := by
  have hR' := hR.thr
  have hok := ok.2.2.1
  have hP := hok.1
  have h32 := p2_32 hP
  have mok := ok.2.2.2.1
  obtain ⟨hH, hm, hp⟩ := hR'.past
  have hst := hm.st mok.1
  refine MS.by ck_Md_hour [some (vr 117), some (vi v), none, none] fun _ _ => ?_
  unfold aHour sHour
  generalize hQ : (fun (r : Option AV) (M' : AM) => r = some (vi (if aWhy σ v = 0 then (stoodM σ.h σ.m v.toNat : Int) else -10 - aWhy σ v)) ∧ MR M' (if aWhy σ v = 0 then σ.deed (hourM σ.h σ.m v.toNat) else σ) ∧ Lo M M') = Q
  refine AW.run ck_Md_hour [21] 10 0 ?_
  simp only [wR, wB, wE0, wE1, wE2, wE3, g0, gS, s10, s11, s1S, s20, s21, s2S, kl0, kl1, kl2, kl3, sp0, sp1, sp2, sp3, cn1, cn2, cn3, cn4, cn5, cn6, jJa, lk0, lk1, jmS, jmN, s4_0, s4_1, s4_2, s4_3, s4_4, sw0, sw1, cKs, cKn, true_and, and_true, List.map_cons, List.map_nil, Nat.reduceAdd, Nat.zero_add, Int.reduceAdd, Nat.reduceEqDiff, reduceIte, Classical.not_not, b_Md_hour, shMd]
  have hlo : MDf M (up M 117 0 0) := thr_df
  generalize up M 117 0 0 = N at hR' hH hm hp hst hlo ⊢
  refine ⟨by omega, MS.to (c_Md_whySet (d := d - 1) (by omega) hH.2.1 hP hst) fun _ => ?_⟩
  simp only [wR, wB, wE0, wE1, wE2, wE3, g0, gS, s10, s11, s1S, s20, s21, s2S, kl0, kl1, kl2, kl3, sp0, sp1, sp2, sp3, cn1, cn2, cn3, cn4, cn5, cn6, jJa, lk0, lk1, jmS, jmN, s4_0, s4_1, s4_2, s4_3, s4_4, sw0, sw1, cKs, cKn, true_and, and_true, List.map_cons, List.map_nil, Nat.reduceAdd, Nat.zero_add, Int.reduceAdd, Nat.reduceEqDiff, reduceIte, Classical.not_not, b_Md_hour, shMd]
  rw [show whyS σ.h.P σ.m.st v = aWhy σ v from rfl]
  by_cases q : aWhy σ v = 0
  · obtain ⟨h0, h1⟩ := aWhy_set (show aWhy σ v ≠ 1 by omega)
    obtain ⟨n, rfl⟩ := Int.eq_ofNat_of_zero_le h0
    (repeat' (first | omega | exact ⟨by omega, by omega⟩ | (with_reducible exact Or.inr trivial) | (with_reducible exact Or.inl trivial) | (with_reducible assumption) | (with_reducible exact Same.refl) | (with_reducible rfl) | (with_reducible refine And.intro ?_ ?_) | (with_reducible intro _)))
    refine AW.run ck_Md_hour [] 10 21 ?_
    simp only [wR, wB, wE0, wE1, wE2, wE3, g0, gS, s10, s11, s1S, s20, s21, s2S, kl0, kl1, kl2, kl3, sp0, sp1, sp2, sp3, cn1, cn2, cn3, cn4, cn5, cn6, jJa, lk0, lk1, jmS, jmN, s4_0, s4_1, s4_2, s4_3, s4_4, sw0, sw1, cKs, cKn, true_and, and_true, List.map_cons, List.map_nil, Nat.reduceAdd, Nat.zero_add, Int.reduceAdd, Nat.reduceEqDiff, reduceIte, Classical.not_not, b_Md_hour, shMd]
    refine ⟨by omega, MS.to c_Md_keeps fun _ => ?_⟩
    have krow := keeps_row hm hP
    have kdf : MDf N (cpy N 118 19 124 0 12) := keeps_df
    have k118 : cpy N 118 19 124 0 12 118 = N 118 := by funext y; exact cpy_at (by omega)
    generalize cpy N 118 19 124 0 12 = N1 at krow kdf k118 ⊢
    rw [← k118] at hH hm hp hst
    have hsd := hm.sd mok.1
    simp only [wR, wB, wE0, wE1, wE2, wE3, g0, gS, s10, s11, s1S, s20, s21, s2S, kl0, kl1, kl2, kl3, sp0, sp1, sp2, sp3, cn1, cn2, cn3, cn4, cn5, cn6, jJa, lk0, lk1, jmS, jmN, s4_0, s4_1, s4_2, s4_3, s4_4, sw0, sw1, cKs, cKn, true_and, and_true, List.map_cons, List.map_nil, Nat.reduceAdd, Nat.zero_add, Int.reduceAdd, Nat.reduceEqDiff, reduceIte, Classical.not_not, b_Md_hour, shMd]
    refine ⟨by omega, MS.to (c_Md_standNow hH.2.1 hP hst) fun _ => ?_⟩
    simp only [wR, wB, wE0, wE1, wE2, wE3, g0, gS, s10, s11, s1S, s20, s21, s2S, kl0, kl1, kl2, kl3, sp0, sp1, sp2, sp3, cn1, cn2, cn3, cn4, cn5, cn6, jJa, lk0, lk1, jmS, jmN, s4_0, s4_1, s4_2, s4_3, s4_4, sw0, sw1, cKs, cKn, true_and, and_true, List.map_cons, List.map_nil, Nat.reduceAdd, Nat.zero_add, Int.reduceAdd, Nat.reduceEqDiff, reduceIte, Classical.not_not, b_Md_hour, shMd]
    refine ⟨by omega, (c_Md_standing (d := d - 1) (sd := σ.m.sd) (cold := σ.m.cold) (by omega) hok hH hsd (by omega) hm.g.2.2.1 mok.1.2).mono ?_⟩
    rintro r M1 okM1 ⟨rfl, s1⟩
    rw [stood_cod mok.1]
    have e118 : M1 118 = N1 118 := s1 118 (by (first | decide | (simp only [List.mem_cons, List.not_mem_nil, or_false, not_or, not_false_eq_true, and_true]; omega) | (simp [List.mem_cons]; done)))
    rw [← e118] at hH hm hp
    simp only [wR, wB, wE0, wE1, wE2, wE3, g0, gS, s10, s11, s1S, s20, s21, s2S, kl0, kl1, kl2, kl3, sp0, sp1, sp2, sp3, cn1, cn2, cn3, cn4, cn5, cn6, jJa, lk0, lk1, jmS, jmN, s4_0, s4_1, s4_2, s4_3, s4_4, sw0, sw1, cKs, cKn, true_and, and_true, List.map_cons, List.map_nil, Nat.reduceAdd, Nat.zero_add, Int.reduceAdd, Nat.reduceEqDiff, reduceIte, Classical.not_not, b_Md_hour, shMd]
    refine ⟨by omega, (c_Md_goesHour (d := d - 1) (by omega) hok mok.1 hH hm (by omega) (by have := mok.2; omega)).mono ?_⟩
    rintro r M2 okM2 ⟨rfl, g1, g2⟩
    simp only [wR, wB, wE0, wE1, wE2, wE3, g0, gS, s10, s11, s1S, s20, s21, s2S, kl0, kl1, kl2, kl3, sp0, sp1, sp2, sp3, cn1, cn2, cn3, cn4, cn5, cn6, jJa, lk0, lk1, jmS, jmN, s4_0, s4_1, s4_2, s4_3, s4_4, sw0, sw1, cKs, cKn, true_and, and_true, List.map_cons, List.map_nil, Nat.reduceAdd, Nat.zero_add, Int.reduceAdd, Nat.reduceEqDiff, reduceIte, Classical.not_not, b_Md_hour, shMd]
    have krow2 : MRow (M2 124) σ.h.P σ.m := by rw [g2.1 124 (by (first | decide | (simp only [List.mem_cons, List.not_mem_nil, or_false, not_or, not_false_eq_true, and_true]; omega) | (simp [List.mem_cons]; done))), s1 124 (by (first | decide | (simp only [List.mem_cons, List.not_mem_nil, or_false, not_or, not_false_eq_true, and_true]; omega) | (simp [List.mem_cons]; done)))]; exact krow
    refine ⟨by omega, (c_Md_notes hP ok.2.2.2.2.1 (hp.eq hP ok.2.2.2.2.1 (fun y y0 y1 => g2.2 y (by omega))) krow2).mono ?_⟩
    rintro r M3 okM3 ⟨rfl, n1, n2, n3⟩
    simp only [wR, wB, wE0, wE1, wE2, wE3, g0, gS, s10, s11, s1S, s20, s21, s2S, kl0, kl1, kl2, kl3, sp0, sp1, sp2, sp3, cn1, cn2, cn3, cn4, cn5, cn6, jJa, lk0, lk1, jmS, jmN, s4_0, s4_1, s4_2, s4_3, s4_4, sw0, sw1, cKs, cKn, true_and, and_true, List.map_cons, List.map_nil, Nat.reduceAdd, Nat.zero_add, Int.reduceAdd, Nat.reduceEqDiff, reduceIte, Classical.not_not, b_Md_hour]
    subst hQ
    rw [if_pos q, if_pos q, Int.toNat_natCast]
    exact ⟨rfl, hR.keep ok (((hlo.trans kdf).trans (ww_mfr s1).df).trans g2.df) g1 n1 n2 n3⟩
  · (repeat' (first | omega | exact ⟨by omega, by omega⟩ | (with_reducible exact Or.inr trivial) | (with_reducible exact Or.inl trivial) | (with_reducible assumption) | (with_reducible exact Same.refl) | (with_reducible rfl) | (with_reducible refine And.intro ?_ ?_) | (with_reducible intro _)))
    · have := aRS_why (σ := σ) (v := v)
      refine ⟨by omega, by omega⟩
    · subst hQ
      rw [if_neg q, if_neg q]
      exact ⟨rfl, hR', hlo.2.1⟩
theorem c_Md_change {p : Int} {B : Nat} {σ : Sg} (hd : 20 ≤ d) (ok : SgOK B σ) (hR : MR M σ) :
    MS G d mi_Md_change [vr 117, vi p] M (fun r M' => r = some (vi (aChange σ p)) ∧ MR M' (sChange σ p) ∧ Lo M M') := by
  have hR' := hR.thr
  have hok := ok.2.2.1
  have hP := hok.1
  have mok := ok.2.2.2.1
  obtain ⟨hH, hm, hp⟩ := hR'.past
  refine MS.by ck_Md_change [some (vr 117), some (vi p)] fun _ _ => ?_
  unfold aChange sChange
  generalize hQ : (fun (r : Option AV) (M' : AM) => r = some (vi (if 0 ≤ p ∧ p < (σ.h.P : Int) then 1 - (σ.m.sd p.toNat : Int) else -11)) ∧ MR M' (if 0 ≤ p ∧ p < (σ.h.P : Int) then σ.deed (σ.m.flip p.toNat) else σ) ∧ Lo M M') = Q
  refine AW.run ck_Md_change [17] 10 0 ?_
  simp only [wR, wB, wE0, wE1, wE2, wE3, g0, gS, s10, s11, s1S, s20, s21, s2S, kl0, kl1, kl2, kl3, sp0, sp1, sp2, sp3, cn1, cn2, cn3, cn4, cn5, cn6, jJa, lk0, lk1, jmS, jmN, s4_0, s4_1, s4_2, s4_3, s4_4, sw0, sw1, cKs, cKn, true_and, and_true, List.map_cons, List.map_nil, Nat.reduceAdd, Nat.zero_add, Int.reduceAdd, Nat.reduceEqDiff, reduceIte, Classical.not_not, b_Md_change, shMd]
  have hlo : MDf M (up M 117 0 0) := thr_df
  generalize up M 117 0 0 = N at hR' hH hm hp hlo ⊢
  refine ⟨by omega, MS.to (c_Md_isPerson (d := d - 1) (by omega) hH.2.1 hP) fun _ => ?_⟩
  simp only [wR, wB, wE0, wE1, wE2, wE3, g0, gS, s10, s11, s1S, s20, s21, s2S, kl0, kl1, kl2, kl3, sp0, sp1, sp2, sp3, cn1, cn2, cn3, cn4, cn5, cn6, jJa, lk0, lk1, jmS, jmN, s4_0, s4_1, s4_2, s4_3, s4_4, sw0, sw1, cKs, cKn, true_and, and_true, List.map_cons, List.map_nil, Nat.reduceAdd, Nat.zero_add, Int.reduceAdd, Nat.reduceEqDiff, reduceIte, Classical.not_not, b_Md_change, shMd]
  by_cases q : 0 ≤ p ∧ p < (σ.h.P : Int)
  · obtain ⟨n, rfl⟩ := Int.eq_ofNat_of_zero_le q.1
    have hn : n < σ.h.P := by omega
    rw [if_pos q]
    (repeat' (first | omega | exact ⟨by omega, by omega⟩ | (with_reducible exact Or.inr trivial) | (with_reducible exact Or.inl trivial) | (with_reducible assumption) | (with_reducible exact Same.refl) | (with_reducible rfl) | (with_reducible refine And.intro ?_ ?_) | (with_reducible intro _)))
    refine AW.run ck_Md_change [] 10 17 ?_
    simp only [wR, wB, wE0, wE1, wE2, wE3, g0, gS, s10, s11, s1S, s20, s21, s2S, kl0, kl1, kl2, kl3, sp0, sp1, sp2, sp3, cn1, cn2, cn3, cn4, cn5, cn6, jJa, lk0, lk1, jmS, jmN, s4_0, s4_1, s4_2, s4_3, s4_4, sw0, sw1, cKs, cKn, true_and, and_true, List.map_cons, List.map_nil, Nat.reduceAdd, Nat.zero_add, Int.reduceAdd, Nat.reduceEqDiff, reduceIte, Classical.not_not, b_Md_change, shMd]
    refine ⟨by omega, MS.to c_Md_keeps fun _ => ?_⟩
    have krow := keeps_row hm hP
    have kdf : MDf N (cpy N 118 19 124 0 12) := keeps_df
    have k118 : cpy N 118 19 124 0 12 118 = N 118 := by funext y; exact cpy_at (by omega)
    generalize cpy N 118 19 124 0 12 = N1 at krow kdf k118 ⊢
    rw [← k118] at hm hp
    obtain ⟨g1, g2, g3, g4⟩ := hm.g
    have hs1 := (mok.1.1 n).1
    simp only [wR, wB, wE0, wE1, wE2, wE3, g0, gS, s10, s11, s1S, s20, s21, s2S, kl0, kl1, kl2, kl3, sp0, sp1, sp2, sp3, cn1, cn2, cn3, cn4, cn5, cn6, jJa, lk0, lk1, jmS, jmN, s4_0, s4_1, s4_2, s4_3, s4_4, sw0, sw1, cKs, cKn, true_and, and_true, List.map_cons, List.map_nil, Nat.reduceAdd, Nat.zero_add, Int.reduceAdd, Nat.reduceEqDiff, reduceIte, Classical.not_not, b_Md_change, shMd, g1 n hn]
    have fin : MRow (fun y => up N1 118 (19 + (n : Int)) (1 - (σ.m.sd n : Int)) 118 (19 + y)) σ.h.P (σ.m.flip n) := by
      refine MRow19 (fun p hp' => ?_) (fun p hp' => ?_) ?_ ?_
      · rw [flip_sd]
        by_cases e : p = n
        · subst e
          rw [up_eq, if_pos rfl]; omega
        · rw [up_ne2 (by omega), if_neg e]; exact g1 p hp'
      · rw [up_ne2 (by omega)]; exact g2 p hp'
      · rw [up_ne2 (by omega)]; exact g3
      · rw [up_ne2 (by omega)]; exact g4
    have ffr : MFr N1 (up N1 118 (19 + (n : Int)) (1 - (σ.m.sd n : Int))) := ⟨Same.refl.up (by simp), fun y hy => up_ne2 (by omega)⟩
    (repeat' (first | omega | exact ⟨by omega, by omega⟩ | (with_reducible exact Or.inr trivial) | (with_reducible exact Or.inl trivial) | (with_reducible assumption) | (with_reducible exact Same.refl) | (with_reducible rfl) | (with_reducible refine And.intro ?_ ?_) | (with_reducible intro _)))
    have krow2 : MRow (up N1 118 (19 + (n : Int)) (1 - (σ.m.sd n : Int)) 124) σ.h.P σ.m := by rw [ffr.1 124 (by (first | decide | (simp only [List.mem_cons, List.not_mem_nil, or_false, not_or, not_false_eq_true, and_true]; omega) | (simp [List.mem_cons]; done)))]; exact krow
    have e19 : up N1 118 (19 + (n : Int)) (1 - (σ.m.sd n : Int)) 118 (19 + (n : Int)) = 1 - (σ.m.sd n : Int) := by rw [up_eq]
    generalize up N1 118 (19 + (n : Int)) (1 - (σ.m.sd n : Int)) = N2 at fin ffr krow2 e19 ⊢
    refine (c_Md_notes hP ok.2.2.2.2.1 (hp.eq hP ok.2.2.2.2.1 (fun y y0 y1 => ffr.2 y (by omega))) krow2).mono ?_
    rintro r M3 okM3 ⟨rfl, n1, n2, n3⟩
    simp only [wR, wB, wE0, wE1, wE2, wE3, g0, gS, s10, s11, s1S, s20, s21, s2S, kl0, kl1, kl2, kl3, sp0, sp1, sp2, sp3, cn1, cn2, cn3, cn4, cn5, cn6, jJa, lk0, lk1, jmS, jmN, s4_0, s4_1, s4_2, s4_3, s4_4, sw0, sw1, cKs, cKn, true_and, and_true, List.map_cons, List.map_nil, Nat.reduceAdd, Nat.zero_add, Int.reduceAdd, Nat.reduceEqDiff, reduceIte, Classical.not_not, b_Md_change, shMd, n3 (19 + (n : Int)) (by omega), e19]
    subst hQ
    rw [if_pos q, if_pos q, Int.toNat_natCast]
    obtain ⟨c1, c2⟩ := hR.keep ok ((hlo.trans kdf).trans ffr.df) fin n1 n2 n3
    (repeat' (first | omega | exact ⟨by omega, by omega⟩ | (with_reducible exact Or.inr trivial) | (with_reducible exact Or.inl trivial) | (with_reducible assumption) | (with_reducible exact Same.refl) | (with_reducible rfl) | (with_reducible refine And.intro ?_ ?_) | (with_reducible intro _)))
  · rw [if_neg q]
    (repeat' (first | omega | exact ⟨by omega, by omega⟩ | (with_reducible exact Or.inr trivial) | (with_reducible exact Or.inl trivial) | (with_reducible assumption) | (with_reducible exact Same.refl) | (with_reducible rfl) | (with_reducible refine And.intro ?_ ?_) | (with_reducible intro _)))
    subst hQ
    rw [if_neg q, if_neg q]
    exact ⟨rfl, hR', hlo.2.1⟩
theorem c_Md_soup {p : Int} {B : Nat} {σ : Sg} (hd : 20 ≤ d) (ok : SgOK B σ) (hR : MR M σ) :
    MS G d mi_Md_soup [vr 117, vi p] M (fun r M' => r = some (vi (aSoup σ p)) ∧ MR M' (sSoup σ p) ∧ Lo M M') := by
  have hR' := hR.thr
  have hok := ok.2.2.1
  have hP := hok.1
  have mok := ok.2.2.2.1
  obtain ⟨hH, hm, hp⟩ := hR'.past
  refine MS.by ck_Md_soup [some (vr 117), some (vi p)] fun _ _ => ?_
  unfold aSoup sSoup
  generalize hQ : (fun (r : Option AV) (M' : AM) => r = some (vi (if 0 ≤ p ∧ p < (σ.h.P : Int) then (σ.m.st p.toNat : Int) else -11)) ∧ MR M' (if 0 ≤ p ∧ p < (σ.h.P : Int) then σ.deed (σ.m.soup p.toNat) else σ) ∧ Lo M M') = Q
  refine AW.run ck_Md_soup [17] 10 0 ?_
  simp only [wR, wB, wE0, wE1, wE2, wE3, g0, gS, s10, s11, s1S, s20, s21, s2S, kl0, kl1, kl2, kl3, sp0, sp1, sp2, sp3, cn1, cn2, cn3, cn4, cn5, cn6, jJa, lk0, lk1, jmS, jmN, s4_0, s4_1, s4_2, s4_3, s4_4, sw0, sw1, cKs, cKn, true_and, and_true, List.map_cons, List.map_nil, Nat.reduceAdd, Nat.zero_add, Int.reduceAdd, Nat.reduceEqDiff, reduceIte, Classical.not_not, b_Md_soup, shMd]
  have hlo : MDf M (up M 117 0 0) := thr_df
  generalize up M 117 0 0 = N at hR' hH hm hp hlo ⊢
  refine ⟨by omega, MS.to (c_Md_isPerson (d := d - 1) (by omega) hH.2.1 hP) fun _ => ?_⟩
  simp only [wR, wB, wE0, wE1, wE2, wE3, g0, gS, s10, s11, s1S, s20, s21, s2S, kl0, kl1, kl2, kl3, sp0, sp1, sp2, sp3, cn1, cn2, cn3, cn4, cn5, cn6, jJa, lk0, lk1, jmS, jmN, s4_0, s4_1, s4_2, s4_3, s4_4, sw0, sw1, cKs, cKn, true_and, and_true, List.map_cons, List.map_nil, Nat.reduceAdd, Nat.zero_add, Int.reduceAdd, Nat.reduceEqDiff, reduceIte, Classical.not_not, b_Md_soup, shMd]
  by_cases q : 0 ≤ p ∧ p < (σ.h.P : Int)
  · obtain ⟨n, rfl⟩ := Int.eq_ofNat_of_zero_le q.1
    have hn : n < σ.h.P := by omega
    rw [if_pos q]
    (repeat' (first | omega | exact ⟨by omega, by omega⟩ | (with_reducible exact Or.inr trivial) | (with_reducible exact Or.inl trivial) | (with_reducible assumption) | (with_reducible exact Same.refl) | (with_reducible rfl) | (with_reducible refine And.intro ?_ ?_) | (with_reducible intro _)))
    refine AW.run ck_Md_soup [] 10 17 ?_
    simp only [wR, wB, wE0, wE1, wE2, wE3, g0, gS, s10, s11, s1S, s20, s21, s2S, kl0, kl1, kl2, kl3, sp0, sp1, sp2, sp3, cn1, cn2, cn3, cn4, cn5, cn6, jJa, lk0, lk1, jmS, jmN, s4_0, s4_1, s4_2, s4_3, s4_4, sw0, sw1, cKs, cKn, true_and, and_true, List.map_cons, List.map_nil, Nat.reduceAdd, Nat.zero_add, Int.reduceAdd, Nat.reduceEqDiff, reduceIte, Classical.not_not, b_Md_soup, shMd]
    refine ⟨by omega, MS.to c_Md_keeps fun _ => ?_⟩
    have krow := keeps_row hm hP
    have kdf : MDf N (cpy N 118 19 124 0 12) := keeps_df
    have k118 : cpy N 118 19 124 0 12 118 = N 118 := by funext y; exact cpy_at (by omega)
    generalize cpy N 118 19 124 0 12 = N1 at krow kdf k118 ⊢
    rw [← k118] at hm hp
    obtain ⟨g1, g2, g3, g4⟩ := hm.g
    simp only [wR, wB, wE0, wE1, wE2, wE3, g0, gS, s10, s11, s1S, s20, s21, s2S, kl0, kl1, kl2, kl3, sp0, sp1, sp2, sp3, cn1, cn2, cn3, cn4, cn5, cn6, jJa, lk0, lk1, jmS, jmN, s4_0, s4_1, s4_2, s4_3, s4_4, sw0, sw1, cKs, cKn, true_and, and_true, List.map_cons, List.map_nil, Nat.reduceAdd, Nat.zero_add, Int.reduceAdd, Nat.reduceEqDiff, reduceIte, Classical.not_not, b_Md_soup, shMd]
    have fin : MRow (fun y => up N1 118 (24 + (n : Int)) 4 118 (19 + y)) σ.h.P (σ.m.soup n) := by
      refine MRow19 (fun p hp' => ?_) (fun p hp' => ?_) ?_ ?_
      · rw [up_ne2 (by omega)]; exact g1 p hp'
      · show _ = ((if p = n then 4 else σ.m.st p : Nat) : Int)
        by_cases e : p = n
        · subst e
          rw [up_eq, if_pos rfl]; rfl
        · rw [up_ne2 (by omega), if_neg e]; exact g2 p hp'
      · rw [up_ne2 (by omega)]; exact g3
      · rw [up_ne2 (by omega)]; exact g4
    have ffr : MFr N1 (up N1 118 (24 + (n : Int)) 4) := ⟨Same.refl.up (by simp), fun y hy => up_ne2 (by omega)⟩
    (repeat' (first | omega | exact ⟨by omega, by omega⟩ | (with_reducible exact Or.inr trivial) | (with_reducible exact Or.inl trivial) | (with_reducible assumption) | (with_reducible exact Same.refl) | (with_reducible rfl) | (with_reducible refine And.intro ?_ ?_) | (with_reducible intro _)))
    have krow2 : MRow (up N1 118 (24 + (n : Int)) 4 124) σ.h.P σ.m := by rw [ffr.1 124 (by (first | decide | (simp only [List.mem_cons, List.not_mem_nil, or_false, not_or, not_false_eq_true, and_true]; omega) | (simp [List.mem_cons]; done)))]; exact krow
    generalize up N1 118 (24 + (n : Int)) 4 = N2 at fin ffr krow2 ⊢
    refine (c_Md_notes hP ok.2.2.2.2.1 (hp.eq hP ok.2.2.2.2.1 (fun y y0 y1 => ffr.2 y (by omega))) krow2).mono ?_
    rintro r M3 okM3 ⟨rfl, n1, n2, n3⟩
    have e5 : M3 124 (5 + (n : Int)) = σ.m.st n := by rw [n2.at 124 _ (by (first | decide | (simp only [List.mem_cons, List.not_mem_nil, or_false, not_or, not_false_eq_true, and_true]; omega) | (simp [List.mem_cons]; done)))]; exact (krow2.1 n hn).2
    simp only [wR, wB, wE0, wE1, wE2, wE3, g0, gS, s10, s11, s1S, s20, s21, s2S, kl0, kl1, kl2, kl3, sp0, sp1, sp2, sp3, cn1, cn2, cn3, cn4, cn5, cn6, jJa, lk0, lk1, jmS, jmN, s4_0, s4_1, s4_2, s4_3, s4_4, sw0, sw1, cKs, cKn, true_and, and_true, List.map_cons, List.map_nil, Nat.reduceAdd, Nat.zero_add, Int.reduceAdd, Nat.reduceEqDiff, reduceIte, Classical.not_not, b_Md_soup, shMd, e5]
    subst hQ
    rw [if_pos q, if_pos q, Int.toNat_natCast]
    obtain ⟨c1, c2⟩ := hR.keep ok ((hlo.trans kdf).trans ffr.df) fin n1 n2 n3
    (repeat' (first | omega | exact ⟨by omega, by omega⟩ | (with_reducible exact Or.inr trivial) | (with_reducible exact Or.inl trivial) | (with_reducible assumption) | (with_reducible exact Same.refl) | (with_reducible rfl) | (with_reducible refine And.intro ?_ ?_) | (with_reducible intro _)))
  · rw [if_neg q]
    (repeat' (first | omega | exact ⟨by omega, by omega⟩ | (with_reducible exact Or.inr trivial) | (with_reducible exact Or.inl trivial) | (with_reducible assumption) | (with_reducible exact Same.refl) | (with_reducible rfl) | (with_reducible refine And.intro ?_ ?_) | (with_reducible intro _)))
    subst hQ
    rw [if_neg q, if_neg q]
    exact ⟨rfl, hR', hlo.2.1⟩
theorem c_Md_cold {n : Int} {B : Nat} {σ : Sg} (hd : 20 ≤ d) (ok : SgOK B σ) (hR : MR M σ) :
    MS G d mi_Md_cold [vr 117, vi n] M (fun r M' => r = some (vi (aCold σ n)) ∧ MR M' (sCold σ n) ∧ Lo M M') := by
  have hR' := hR.thr
  have hok := ok.2.2.1
  have hP := hok.1
  have mok := ok.2.2.2.1
  obtain ⟨hH, hm, hp⟩ := hR'.past
  refine MS.by ck_Md_cold [some (vr 117), some (vi n)] fun _ _ => ?_
  unfold aCold sCold
  generalize hQ : (fun (r : Option AV) (M' : AM) => r = some (vi (if 0 ≤ n ∧ n ≤ 9 then (σ.m.cold : Int) else -11)) ∧ MR M' (if 0 ≤ n ∧ n ≤ 9 then σ.deed (σ.m.chill n.toNat) else σ) ∧ Lo M M') = Q
  refine AW.run ck_Md_cold [20] 10 0 ?_
  simp only [wR, wB, wE0, wE1, wE2, wE3, g0, gS, s10, s11, s1S, s20, s21, s2S, kl0, kl1, kl2, kl3, sp0, sp1, sp2, sp3, cn1, cn2, cn3, cn4, cn5, cn6, jJa, lk0, lk1, jmS, jmN, s4_0, s4_1, s4_2, s4_3, s4_4, sw0, sw1, cKs, cKn, true_and, and_true, List.map_cons, List.map_nil, Nat.reduceAdd, Nat.zero_add, Int.reduceAdd, Nat.reduceEqDiff, reduceIte, Classical.not_not, b_Md_cold, shMd]
  have hlo : MDf M (up M 117 0 0) := thr_df
  generalize up M 117 0 0 = N at hR' hH hm hp hlo ⊢
  refine ⟨by omega, MS.to c_Md_within fun _ => ?_⟩
  simp only [wR, wB, wE0, wE1, wE2, wE3, g0, gS, s10, s11, s1S, s20, s21, s2S, kl0, kl1, kl2, kl3, sp0, sp1, sp2, sp3, cn1, cn2, cn3, cn4, cn5, cn6, jJa, lk0, lk1, jmS, jmN, s4_0, s4_1, s4_2, s4_3, s4_4, sw0, sw1, cKs, cKn, true_and, and_true, List.map_cons, List.map_nil, Nat.reduceAdd, Nat.zero_add, Int.reduceAdd, Nat.reduceEqDiff, reduceIte, Classical.not_not, b_Md_cold, shMd]
  by_cases q : 0 ≤ n ∧ n ≤ 9
  · obtain ⟨k, rfl⟩ := Int.eq_ofNat_of_zero_le q.1
    rw [if_pos q]
    (repeat' (first | omega | exact ⟨by omega, by omega⟩ | (with_reducible exact Or.inr trivial) | (with_reducible exact Or.inl trivial) | (with_reducible assumption) | (with_reducible exact Same.refl) | (with_reducible rfl) | (with_reducible refine And.intro ?_ ?_) | (with_reducible intro _)))
    refine AW.run ck_Md_cold [] 10 20 ?_
    simp only [wR, wB, wE0, wE1, wE2, wE3, g0, gS, s10, s11, s1S, s20, s21, s2S, kl0, kl1, kl2, kl3, sp0, sp1, sp2, sp3, cn1, cn2, cn3, cn4, cn5, cn6, jJa, lk0, lk1, jmS, jmN, s4_0, s4_1, s4_2, s4_3, s4_4, sw0, sw1, cKs, cKn, true_and, and_true, List.map_cons, List.map_nil, Nat.reduceAdd, Nat.zero_add, Int.reduceAdd, Nat.reduceEqDiff, reduceIte, Classical.not_not, b_Md_cold, shMd]
    refine ⟨by omega, MS.to c_Md_keeps fun _ => ?_⟩
    have krow := keeps_row hm hP
    have kdf : MDf N (cpy N 118 19 124 0 12) := keeps_df
    have k118 : cpy N 118 19 124 0 12 118 = N 118 := by funext y; exact cpy_at (by omega)
    generalize cpy N 118 19 124 0 12 = N1 at krow kdf k118 ⊢
    rw [← k118] at hm hp
    obtain ⟨g1, g2, g3, g4⟩ := hm.g
    simp only [wR, wB, wE0, wE1, wE2, wE3, g0, gS, s10, s11, s1S, s20, s21, s2S, kl0, kl1, kl2, kl3, sp0, sp1, sp2, sp3, cn1, cn2, cn3, cn4, cn5, cn6, jJa, lk0, lk1, jmS, jmN, s4_0, s4_1, s4_2, s4_3, s4_4, sw0, sw1, cKs, cKn, true_and, and_true, List.map_cons, List.map_nil, Nat.reduceAdd, Nat.zero_add, Int.reduceAdd, Nat.reduceEqDiff, reduceIte, Classical.not_not, b_Md_cold, shMd]
    have fin : MRow (fun y => up N1 118 29 (k : Int) 118 (19 + y)) σ.h.P (σ.m.chill k) := by
      refine MRow19 (fun p hp' => ?_) (fun p hp' => ?_) ?_ ?_
      · rw [up_ne2 (by omega)]; exact g1 p hp'
      · rw [up_ne2 (by omega)]; exact g2 p hp'
      · rw [up_eq]; rfl
      · rw [up_ne2 (by omega)]; exact g4
    have ffr : MFr N1 (up N1 118 29 (k : Int)) := ⟨Same.refl.up (by simp), fun y hy => up_ne2 (by omega)⟩
    (repeat' (first | omega | exact ⟨by omega, by omega⟩ | (with_reducible exact Or.inr trivial) | (with_reducible exact Or.inl trivial) | (with_reducible assumption) | (with_reducible exact Same.refl) | (with_reducible rfl) | (with_reducible refine And.intro ?_ ?_) | (with_reducible intro _)))
    have krow2 : MRow (up N1 118 29 (k : Int) 124) σ.h.P σ.m := by rw [ffr.1 124 (by (first | decide | (simp only [List.mem_cons, List.not_mem_nil, or_false, not_or, not_false_eq_true, and_true]; omega) | (simp [List.mem_cons]; done)))]; exact krow
    generalize up N1 118 29 (k : Int) = N2 at fin ffr krow2 ⊢
    refine (c_Md_notes hP ok.2.2.2.2.1 (hp.eq hP ok.2.2.2.2.1 (fun y y0 y1 => ffr.2 y (by omega))) krow2).mono ?_
    rintro r M3 okM3 ⟨rfl, n1, n2, n3⟩
    have e5 : M3 124 10 = σ.m.cold := by rw [n2.at 124 _ (by (first | decide | (simp only [List.mem_cons, List.not_mem_nil, or_false, not_or, not_false_eq_true, and_true]; omega) | (simp [List.mem_cons]; done)))]; exact krow2.2.1
    simp only [wR, wB, wE0, wE1, wE2, wE3, g0, gS, s10, s11, s1S, s20, s21, s2S, kl0, kl1, kl2, kl3, sp0, sp1, sp2, sp3, cn1, cn2, cn3, cn4, cn5, cn6, jJa, lk0, lk1, jmS, jmN, s4_0, s4_1, s4_2, s4_3, s4_4, sw0, sw1, cKs, cKn, true_and, and_true, List.map_cons, List.map_nil, Nat.reduceAdd, Nat.zero_add, Int.reduceAdd, Nat.reduceEqDiff, reduceIte, Classical.not_not, b_Md_cold, shMd, e5]
    subst hQ
    rw [if_pos q, if_pos q, Int.toNat_natCast]
    obtain ⟨c1, c2⟩ := hR.keep ok ((hlo.trans kdf).trans ffr.df) fin n1 n2 n3
    (repeat' (first | omega | exact ⟨by omega, by omega⟩ | (with_reducible exact Or.inr trivial) | (with_reducible exact Or.inl trivial) | (with_reducible assumption) | (with_reducible exact Same.refl) | (with_reducible rfl) | (with_reducible refine And.intro ?_ ?_) | (with_reducible intro _)))
  · rw [if_neg q]
    (repeat' (first | omega | exact ⟨by omega, by omega⟩ | (with_reducible exact Or.inr trivial) | (with_reducible exact Or.inl trivial) | (with_reducible assumption) | (with_reducible exact Same.refl) | (with_reducible rfl) | (with_reducible refine And.intro ?_ ?_) | (with_reducible intro _)))
    subst hQ
    rw [if_neg q, if_neg q]
    exact ⟨rfl, hR', hlo.2.1⟩
end MF
