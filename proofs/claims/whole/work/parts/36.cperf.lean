def aWinter (σ : Sg) (seed times : Int) : Int := if 1 ≤ times ∧ times ≤ 40 then ((winD σ.h times.toNat seed 0 σ.m).1 : Int) else -3
def sWinter (σ : Sg) (seed times : Int) : Sg := if (1 ≤ times ∧ times ≤ 40) ∧ 0 < (winD σ.h times.toNat seed 0 σ.m).1 then σ.deed (winD σ.h times.toNat seed 0 σ.m).2 else σ
section CI
variable {G : AG} {d : Nat} {M : AM}
/-- behind deeds done at the moment, the one before it lying in trial -/
theorem CR.keep {M N K : AM} {σ : Sg} {z : Int} {m : Mo} (hR : CR M σ) (hz : z = 7 ∨ z = 16) (hs : Same [25, 26, 27, 28, z + 7, z + 8] M N) (hm : CM N 25 σ.h.P m) (hp : PastOK K σ.h.P (pushN σ.np) (pushM σ.np σ.pm σ.m)) (hf : FrP N K) : CR K (σ.deed m) ∧ Hi M K := by
  have f1 : DFr M N := hs.dfr (by intro x hx; simp only [List.mem_cons, List.not_mem_nil, or_false] at hx; omega)
  have f3 := f1.trans hf.dfr
  exact ⟨hR.upd f3 (hm.eq (hf.1 _ (by omega) (by omega) (by omega)) (hf.1 _ (by omega) (by omega) (by omega))) hp, f3.hi⟩
theorem CR.nokeep {M N : AM} {σ : Sg} {z : Int} (hR : CR M σ) (hz : z = 7 ∨ z = 16) (hs : Same [25, 26, 27, 28, z + 7, z + 8] M N) (hm : CM N 25 σ.h.P σ.m) : CR N σ ∧ Hi M N := by
  have f1 : DFr M N := hs.dfr (by intro x hx; simp only [List.mem_cons, List.not_mem_nil, or_false] at hx; omega)
  obtain ⟨z', _, _, hp, _⟩ := hR.z
  exact ⟨hR.upd f1 hm (hp.eq (hs.at 0 _ (by (first | decide | (simp only [List.mem_cons, List.not_mem_nil, or_false, not_or, not_false_eq_true, and_true]; omega) | (simp [List.mem_cons]; done)))) (fun x hx => hs x (by (first | decide | (simp only [List.mem_cons, List.not_mem_nil, or_false, not_or, not_false_eq_true, and_true]; omega) | (simp [List.mem_cons]; done))))), f1.hi⟩
theorem c_H_perform {t : Int} {B : Nat} {σ : Sg} (hd : 20 ≤ d) (hB : B + 40 < 1000000000) (ok : SgOK B σ) (hR : CR M σ) :
    MS G d mi_H_perform [vr 0, vi t] M (fun r M' => r = some (vi (aPerform σ t)) ∧ CR M' (sPerform σ t) ∧ Hi M M') := by
  obtain ⟨z, hs, hM, hp, hT⟩ := hR.z
  have hz := hs.z
  have hzz := hs.2.2.1
  have mok := ok.2.2.2.1
  refine MS.by ck_H_perform [some (vr 0), some (vi t), none, none] fun _ _ => ?_
  unfold aPerform sPerform
  generalize hQ : (fun (r : Option AV) (M' : AM) => r = some (vi (if aTr σ t = 0 then ((trT σ t).1 : Int) else aTr σ t)) ∧ CR M' (if aTr σ t = 0 ∧ 0 < (trT σ t).1 then σ.deed (trT σ t).2.2 else σ) ∧ Hi M M') = Q
  refine AW.run ck_H_perform [12] 10 0 ?_
  simp only [wR, wB, wE0, wE1, wE2, wE3, g0, gS, s10, s11, s1S, s20, s21, s2S, kl0, kl1, kl2, kl3, sp0, sp1, sp2, sp3, cn1, cn2, cn3, cn4, cn5, cn6, jJa, lk0, lk1, jmS, jmN, s4_0, s4_1, s4_2, s4_3, s4_4, sw0, sw1, cKs, cKn, true_and, and_true, List.map_cons, List.map_nil, Nat.reduceAdd, Nat.zero_add, Int.reduceAdd, Nat.reduceEqDiff, reduceIte, Classical.not_not, b_H_perform, shH]
  refine ⟨by omega, MS.to (c_H_refusedTray (by omega) hT) fun _ => ?_⟩
  simp only [wR, wB, wE0, wE1, wE2, wE3, g0, gS, s10, s11, s1S, s20, s21, s2S, kl0, kl1, kl2, kl3, sp0, sp1, sp2, sp3, cn1, cn2, cn3, cn4, cn5, cn6, jJa, lk0, lk1, jmS, jmN, s4_0, s4_1, s4_2, s4_3, s4_4, sw0, sw1, cKs, cKn, true_and, and_true, List.map_cons, List.map_nil, Nat.reduceAdd, Nat.zero_add, Int.reduceAdd, Nat.reduceEqDiff, reduceIte, Classical.not_not, b_H_perform, shH]
  by_cases q : aTr σ t = 0
  · (repeat' (first | omega | exact ⟨by omega, by omega⟩ | (with_reducible exact Or.inr trivial) | (with_reducible exact Or.inl trivial) | (with_reducible assumption) | (with_reducible exact Same.refl) | (with_reducible rfl) | (with_reducible refine And.intro ?_ ?_) | (with_reducible intro _)))
    obtain ⟨i, rfl, hi, hne⟩ := aTr_0 q
    obtain ⟨t1, t2, t3, t4⟩ := hT i hi
    obtain ⟨t5, t6⟩ := t4 hne
    rw [if_neg hne] at t2
    have ho := tr_O i hi
    have ht40 := (ok.2.2.2.2.2.2.1 i hi).2.2
    have hTT : trT σ i = tellD σ.h (σ.tr i).2.2 (σ.tr i).2.1 0 σ.m := rfl
    refine AW.run ck_H_perform [] 10 12 ?_
    simp only [wR, wB, wE0, wE1, wE2, wE3, g0, gS, s10, s11, s1S, s20, s21, s2S, kl0, kl1, kl2, kl3, sp0, sp1, sp2, sp3, cn1, cn2, cn3, cn4, cn5, cn6, jJa, lk0, lk1, jmS, jmN, s4_0, s4_1, s4_2, s4_3, s4_4, sw0, sw1, cKs, cKn, true_and, and_true, List.map_cons, List.map_nil, Nat.reduceAdd, Nat.zero_add, Int.reduceAdd, Nat.reduceEqDiff, reduceIte, Classical.not_not, b_H_perform, shH]
    refine ⟨by omega, MS.to (c_Mo_copy (by omega) o27 o25) fun _ => ?_⟩
    have h27 := moC_CM (z := 27) hM
    have sm : Same [27, 28] M (moC M 27 25) := moC_same
    generalize moC M 27 25 = N at h27 sm ⊢
    have e30 : N 30 (i : Int) = 87 + 2 * (i : Int) := by rw [sm.at 30 _ (by (first | decide | (simp only [List.mem_cons, List.not_mem_nil, or_false, not_or, not_false_eq_true, and_true]; omega) | (simp [List.mem_cons]; done)))]; exact t1
    simp only [wR, wB, wE0, wE1, wE2, wE3, g0, gS, s10, s11, s1S, s20, s21, s2S, kl0, kl1, kl2, kl3, sp0, sp1, sp2, sp3, cn1, cn2, cn3, cn4, cn5, cn6, jJa, lk0, lk1, jmS, jmN, s4_0, s4_1, s4_2, s4_3, s4_4, sw0, sw1, cKs, cKn, true_and, and_true, List.map_cons, List.map_nil, Nat.reduceAdd, Nat.zero_add, Int.reduceAdd, Nat.reduceEqDiff, reduceIte, Classical.not_not, b_H_perform, shH, shR0, l30, e30, ho]
    refine ⟨by omega, by omega, (c_H_doAll (d := d - 1) (B := B) (n := (σ.tr i).2.1) (v := (σ.tr i).2.2) (by omega) (by rw [sm.at 0 _ (by (first | decide | (simp only [List.mem_cons, List.not_mem_nil, or_false, not_or, not_false_eq_true, and_true]; omega) | (simp [List.mem_cons]; done)))]; exact hs.1) hz hzz o25 (Or.inl rfl) ho (by omega) ok.2.2.1 (hs.2.2.2.same sm (by (first | decide | (simp only [List.mem_cons, List.not_mem_nil, or_false, not_or, not_false_eq_true, and_true]; omega) | (simp [List.mem_cons]; done))) (by (first | decide | (simp only [List.mem_cons, List.not_mem_nil, or_false, not_or, not_false_eq_true, and_true]; omega) | (simp [List.mem_cons]; done))) (by (first | decide | (simp only [List.mem_cons, List.not_mem_nil, or_false, not_or, not_false_eq_true, and_true]; omega) | (simp [List.mem_cons]; done))) (by (first | decide | (simp only [List.mem_cons, List.not_mem_nil, or_false, not_or, not_false_eq_true, and_true]; omega) | (simp [List.mem_cons]; done))) (by (first | decide | (simp only [List.mem_cons, List.not_mem_nil, or_false, not_or, not_false_eq_true, and_true]; omega) | (simp [List.mem_cons]; done))) (by (first | decide | (simp only [List.mem_cons, List.not_mem_nil, or_false, not_or, not_false_eq_true, and_true]; omega) | (simp [List.mem_cons]; done)))) mok hB (hM.same sm (by (first | decide | (simp only [List.mem_cons, List.not_mem_nil, or_false, not_or, not_false_eq_true, and_true]; omega) | (simp [List.mem_cons]; done))) (by (first | decide | (simp only [List.mem_cons, List.not_mem_nil, or_false, not_or, not_false_eq_true, and_true]; omega) | (simp [List.mem_cons]; done)))) (by rw [sm.at _ _ (by (first | decide | (simp only [List.mem_cons, List.not_mem_nil, or_false, not_or, not_false_eq_true, and_true]; omega) | (simp [List.mem_cons]; done)))]; exact t2) ht40 (fun k hk => by rw [show 87 + 2 * (i : Int) + 1 = 88 + 2 * (i : Int) by omega, sm.at _ _ (by (first | decide | (simp only [List.mem_cons, List.not_mem_nil, or_false, not_or, not_false_eq_true, and_true]; omega) | (simp [List.mem_cons]; done)))]; exact t6 k hk)).mono ?_⟩
    rintro r' M1 okM1 ⟨rfl, u1, u2⟩
    have hss : Same [25, 26, 27, 28, z + 7, z + 8] M M1 := (sm.mono (by simp)).trans (u2.mono (by simp))
    have h27' : CM M1 27 σ.h.P σ.m := h27.same u2 (by (first | decide | (simp only [List.mem_cons, List.not_mem_nil, or_false, not_or, not_false_eq_true, and_true]; omega) | (simp [List.mem_cons]; done))) (by (first | decide | (simp only [List.mem_cons, List.not_mem_nil, or_false, not_or, not_false_eq_true, and_true]; omega) | (simp [List.mem_cons]; done)))
    have hp1 : PastOK M1 σ.h.P σ.np σ.pm := hp.eq (hss.at 0 _ (by (first | decide | (simp only [List.mem_cons, List.not_mem_nil, or_false, not_or, not_false_eq_true, and_true]; omega) | (simp [List.mem_cons]; done)))) (fun x hx => hss x (by (first | decide | (simp only [List.mem_cons, List.not_mem_nil, or_false, not_or, not_false_eq_true, and_true]; omega) | (simp [List.mem_cons]; done))))
    rw [← hTT] at u1 ⊢
    simp only [wR, wB, wE0, wE1, wE2, wE3, g0, gS, s10, s11, s1S, s20, s21, s2S, kl0, kl1, kl2, kl3, sp0, sp1, sp2, sp3, cn1, cn2, cn3, cn4, cn5, cn6, jJa, lk0, lk1, jmS, jmN, s4_0, s4_1, s4_2, s4_3, s4_4, sw0, sw1, cKs, cKn, true_and, and_true, List.map_cons, List.map_nil, Nat.reduceAdd, Nat.zero_add, Int.reduceAdd, Nat.reduceEqDiff, reduceIte, Classical.not_not, b_H_perform, shH]
    subst hQ
    rw [if_pos q]
    by_cases q2 : 0 < (trT σ i).1
    · rw [if_pos ⟨q, q2⟩]
      (repeat' (first | omega | exact ⟨by omega, by omega⟩ | (with_reducible exact Or.inr trivial) | (with_reducible exact Or.inl trivial) | (with_reducible assumption) | (with_reducible exact Same.refl) | (with_reducible rfl) | (with_reducible refine And.intro ?_ ?_) | (with_reducible intro _)))
      refine (c_H_keepPast (by omega) hp1 h27').mono ?_
      rintro r M2 okM2 ⟨rfl, p1, p2⟩
      simp only [wR, wB, wE0, wE1, wE2, wE3, g0, gS, s10, s11, s1S, s20, s21, s2S, kl0, kl1, kl2, kl3, sp0, sp1, sp2, sp3, cn1, cn2, cn3, cn4, cn5, cn6, jJa, lk0, lk1, jmS, jmN, s4_0, s4_1, s4_2, s4_3, s4_4, sw0, sw1, cKs, cKn, true_and, and_true, List.map_cons, List.map_nil, Nat.reduceAdd, Nat.zero_add, Int.reduceAdd, Nat.reduceEqDiff, reduceIte, Classical.not_not, b_H_perform]
      exact hR.keep hzz hss u1 p1 p2
    · rw [if_neg (fun h => q2 h.2)]
      rw [show (trT σ i).2.2 = σ.m from tellD_0 (show (trT σ i).1 = 0 by omega)] at u1
      obtain ⟨c1, c2⟩ := hR.nokeep hzz hss u1
      (repeat' (first | omega | exact ⟨by omega, by omega⟩ | (with_reducible exact Or.inr trivial) | (with_reducible exact Or.inl trivial) | (with_reducible assumption) | (with_reducible exact Same.refl) | (with_reducible rfl) | (with_reducible refine And.intro ?_ ?_) | (with_reducible intro _)))
  · (repeat' (first | omega | exact ⟨by omega, by omega⟩ | (with_reducible exact Or.inr trivial) | (with_reducible exact Or.inl trivial) | (with_reducible assumption) | (with_reducible exact Same.refl) | (with_reducible rfl) | (with_reducible refine And.intro ?_ ?_) | (with_reducible intro _)))
    subst hQ
    rw [if_neg q, if_neg (fun h => q h.1)]
    exact ⟨rfl, hR, Hi.refl⟩
theorem drawV_in (x : Int) : 0 ≤ drawV x ∧ drawV x < 60 := by
  have h1 := ush16 (lcg (lcg x))
  unfold drawV
  (repeat' split) <;> omega
theorem c_H_winter {seed times : Int} {B : Nat} {σ : Sg} (hd : 20 ≤ d) (hB : B + 40 < 1000000000) (ok : SgOK B σ) (hR : CR M σ) :
    MS G d mi_H_winter [vr 0, vi seed, vi times] M (fun r M' => r = some (vi (aWinter σ seed times)) ∧ CR M' (sWinter σ seed times) ∧ Hi M M') := by
  obtain ⟨z, hs, hM, hp, hT⟩ := hR.z
  have hz := hs.z
  have hzz := hs.2.2.1
  have mok := ok.2.2.2.1
  refine MS.by ck_H_winter [some (vr 0), some (vi seed), some (vi times), none, none, none, none] fun _ _ => ?_
  unfold aWinter sWinter
  generalize hQ : (fun (r : Option AV) (M' : AM) => r = some (vi (if 1 ≤ times ∧ times ≤ 40 then ((winD σ.h times.toNat seed 0 σ.m).1 : Int) else -3)) ∧ CR M' (if (1 ≤ times ∧ times ≤ 40) ∧ 0 < (winD σ.h times.toNat seed 0 σ.m).1 then σ.deed (winD σ.h times.toNat seed 0 σ.m).2 else σ) ∧ Hi M M') = Q
  by_cases ht : 1 ≤ times ∧ times ≤ 40
  · obtain ⟨n, rfl⟩ := Int.eq_ofNat_of_zero_le (show 0 ≤ times by omega)
    have hw := winD_ok (h := σ.h) n seed 0 σ.m B mok
    have a94 : ∀ (N : AM) (l3 l5 l6 : Option AV), CM N 25 σ.h.P (winD σ.h n seed 0 σ.m).2 → CM N 27 σ.h.P σ.m → Same [25, 26, 27, 28, z + 7, z + 8] M N → AW G d mi_H_winter Q 94 [some (vr 0), some (vi seed), some (vi n), l3, some (vi (winD σ.h n seed 0 σ.m).1), l5, l6] [] N := by
      intro N l3 l5 l6 h25 h27 hN
      have hp1 : PastOK N σ.h.P σ.np σ.pm := hp.eq (hN.at 0 _ (by (first | decide | (simp only [List.mem_cons, List.not_mem_nil, or_false, not_or, not_false_eq_true, and_true]; omega) | (simp [List.mem_cons]; done)))) (fun x hx => hN x (by (first | decide | (simp only [List.mem_cons, List.not_mem_nil, or_false, not_or, not_false_eq_true, and_true]; omega) | (simp [List.mem_cons]; done))))
      refine AW.run ck_H_winter [] 10 94 ?_
      simp only [wR, wB, wE0, wE1, wE2, wE3, g0, gS, s10, s11, s1S, s20, s21, s2S, kl0, kl1, kl2, kl3, sp0, sp1, sp2, sp3, cn1, cn2, cn3, cn4, cn5, cn6, jJa, lk0, lk1, jmS, jmN, s4_0, s4_1, s4_2, s4_3, s4_4, sw0, sw1, cKs, cKn, true_and, and_true, List.map_cons, List.map_nil, Nat.reduceAdd, Nat.zero_add, Int.reduceAdd, Nat.reduceEqDiff, reduceIte, Classical.not_not, b_H_winter, shH]
      subst hQ
      rw [if_pos ht, Int.toNat_natCast]
      by_cases q2 : 0 < (winD σ.h n seed 0 σ.m).1
      · rw [if_pos ⟨ht, q2⟩]
        (repeat' (first | omega | exact ⟨by omega, by omega⟩ | (with_reducible exact Or.inr trivial) | (with_reducible exact Or.inl trivial) | (with_reducible assumption) | (with_reducible exact Same.refl) | (with_reducible rfl) | (with_reducible refine And.intro ?_ ?_) | (with_reducible intro _)))
        refine (c_H_keepPast (by omega) hp1 h27).mono ?_
        rintro r M2 okM2 ⟨rfl, p1, p2⟩
        simp only [wR, wB, wE0, wE1, wE2, wE3, g0, gS, s10, s11, s1S, s20, s21, s2S, kl0, kl1, kl2, kl3, sp0, sp1, sp2, sp3, cn1, cn2, cn3, cn4, cn5, cn6, jJa, lk0, lk1, jmS, jmN, s4_0, s4_1, s4_2, s4_3, s4_4, sw0, sw1, cKs, cKn, true_and, and_true, List.map_cons, List.map_nil, Nat.reduceAdd, Nat.zero_add, Int.reduceAdd, Nat.reduceEqDiff, reduceIte, Classical.not_not, b_H_winter]
        exact hR.keep hzz hN h25 p1 p2
      · rw [if_neg (fun h => q2 h.2)]
        rw [hw.2.2.2 (by omega)] at h25
        obtain ⟨c1, c2⟩ := hR.nokeep hzz hN h25
        (repeat' (first | omega | exact ⟨by omega, by omega⟩ | (with_reducible exact Or.inr trivial) | (with_reducible exact Or.inl trivial) | (with_reducible assumption) | (with_reducible exact Same.refl) | (with_reducible rfl) | (with_reducible refine And.intro ?_ ?_) | (with_reducible intro _)))
    have loop : ∀ (r i c : Nat) (x : Int) (m' : Mo) (N : AM) (l6 : Option AV), i + r = n → c ≤ i → MoB (B + i) m' → CM N 25 σ.h.P m' → CM N 27 σ.h.P σ.m → Same [25, 26, 27, 28, z + 7, z + 8] M N → winD σ.h r x c m' = winD σ.h n seed 0 σ.m → AW G d mi_H_winter Q 33 [some (vr 0), some (vi seed), some (vi n), some (vi x), some (vi c), some (vi i), l6] [] N := by
      intro r
      induction r with
      | zero =>
        intro i c x m' N l6 hi hc hb h25 h27 hN he
        refine AW.run ck_H_winter [94] 10 33 ?_
        simp only [wR, wB, wE0, wE1, wE2, wE3, g0, gS, s10, s11, s1S, s20, s21, s2S, kl0, kl1, kl2, kl3, sp0, sp1, sp2, sp3, cn1, cn2, cn3, cn4, cn5, cn6, jJa, lk0, lk1, jmS, jmN, s4_0, s4_1, s4_2, s4_3, s4_4, sw0, sw1, cKs, cKn, true_and, and_true, List.map_cons, List.map_nil, Nat.reduceAdd, Nat.zero_add, Int.reduceAdd, Nat.reduceEqDiff, reduceIte, Classical.not_not, b_H_winter, shH]
        have he' : winD σ.h n seed 0 σ.m = (c, m') := by rw [← he]; rfl
        have := a94 N (some (vi x)) (some (vi i)) l6 (by rw [he']; exact h25) h27 hN
        rw [he'] at this
        (repeat' (first | omega | exact ⟨by omega, by omega⟩ | (with_reducible exact Or.inr trivial) | (with_reducible exact Or.inl trivial) | (with_reducible assumption) | (with_reducible exact Same.refl) | (with_reducible rfl) | (with_reducible refine And.intro ?_ ?_) | (with_reducible intro _)))
      | succ r ih =>
        intro i c x m' N l6 hi hc hb h25 h27 hN he
        have u1 := ush16 (lcg x)
        have u2 := ush16 (lcg (lcg x))
        have ew : (if bUshr (lcg x) 16 % 6 < 4 then bUshr (lcg (lcg x)) 16 % 32 else (if bUshr (lcg x) 16 % 6 = 4 then 40 else 50) + bUshr (lcg (lcg x)) 16 % 5) = drawV x := rfl
        refine AW.run ck_H_winter [85] 10 33 ?_
        simp only [wR, wB, wE0, wE1, wE2, wE3, g0, gS, s10, s11, s1S, s20, s21, s2S, kl0, kl1, kl2, kl3, sp0, sp1, sp2, sp3, cn1, cn2, cn3, cn4, cn5, cn6, jJa, lk0, lk1, jmS, jmN, s4_0, s4_1, s4_2, s4_3, s4_4, sw0, sw1, cKs, cKn, true_and, and_true, List.map_cons, List.map_nil, Nat.reduceAdd, Nat.zero_add, Int.reduceAdd, Nat.reduceEqDiff, reduceIte, Classical.not_not, b_H_winter, shH]
        (repeat' (first | omega | exact ⟨by omega, by omega⟩ | (with_reducible exact Or.inr trivial) | (with_reducible exact Or.inl trivial) | (with_reducible assumption) | (with_reducible exact Same.refl) | (with_reducible rfl) | (with_reducible refine And.intro ?_ ?_) | (with_reducible intro _)))
        refine MS.to c_H_drawn fun _ => ?_
        simp only [wR, wB, wE0, wE1, wE2, wE3, g0, gS, s10, s11, s1S, s20, s21, s2S, kl0, kl1, kl2, kl3, sp0, sp1, sp2, sp3, cn1, cn2, cn3, cn4, cn5, cn6, jJa, lk0, lk1, jmS, jmN, s4_0, s4_1, s4_2, s4_3, s4_4, sw0, sw1, cKs, cKn, true_and, and_true, List.map_cons, List.map_nil, Nat.reduceAdd, Nat.zero_add, Int.reduceAdd, Nat.reduceEqDiff, reduceIte, Classical.not_not, b_H_winter, shH]
        (repeat' (first | omega | exact ⟨by omega, by omega⟩ | (with_reducible exact Or.inr trivial) | (with_reducible exact Or.inl trivial) | (with_reducible assumption) | (with_reducible exact Same.refl) | (with_reducible rfl) | (with_reducible refine And.intro ?_ ?_) | (with_reducible intro _)))
        refine MS.to c_H_drawn fun _ => ?_
        simp only [wR, wB, wE0, wE1, wE2, wE3, g0, gS, s10, s11, s1S, s20, s21, s2S, kl0, kl1, kl2, kl3, sp0, sp1, sp2, sp3, cn1, cn2, cn3, cn4, cn5, cn6, jJa, lk0, lk1, jmS, jmN, s4_0, s4_1, s4_2, s4_3, s4_4, sw0, sw1, cKs, cKn, true_and, and_true, List.map_cons, List.map_nil, Nat.reduceAdd, Nat.zero_add, Int.reduceAdd, Nat.reduceEqDiff, reduceIte, Classical.not_not, b_H_winter, shH]
        (repeat' (first | omega | exact ⟨by omega, by omega⟩ | (with_reducible exact Or.inr trivial) | (with_reducible exact Or.inl trivial) | (with_reducible assumption) | (with_reducible exact Same.refl) | (with_reducible rfl) | (with_reducible refine And.intro ?_ ?_) | (with_reducible intro _)))
        refine MS.to (c_H_winterDeed u2) fun _ => ?_
        rw [ew]
        simp only [wR, wB, wE0, wE1, wE2, wE3, g0, gS, s10, s11, s1S, s20, s21, s2S, kl0, kl1, kl2, kl3, sp0, sp1, sp2, sp3, cn1, cn2, cn3, cn4, cn5, cn6, jJa, lk0, lk1, jmS, jmN, s4_0, s4_1, s4_2, s4_3, s4_4, sw0, sw1, cKs, cKn, true_and, and_true, List.map_cons, List.map_nil, Nat.reduceAdd, Nat.zero_add, Int.reduceAdd, Nat.reduceEqDiff, reduceIte, Classical.not_not, b_H_winter, shH]
        (repeat' (first | omega | exact ⟨by omega, by omega⟩ | (with_reducible exact Or.inr trivial) | (with_reducible exact Or.inl trivial) | (with_reducible assumption) | (with_reducible exact Same.refl) | (with_reducible rfl) | (with_reducible refine And.intro ?_ ?_) | (with_reducible intro _)))
        have hbb := hb.2
        refine (c_H_tryDeed (d := d - 1) (m := m') (by omega) (by rw [hN.at 0 _ (by (first | decide | (simp only [List.mem_cons, List.not_mem_nil, or_false, not_or, not_false_eq_true, and_true]; omega) | (simp [List.mem_cons]; done)))]; exact hs.1) hz o25 ok.2.2.1 (hs.2.2.2.same hN (by (first | decide | (simp only [List.mem_cons, List.not_mem_nil, or_false, not_or, not_false_eq_true, and_true]; omega) | (simp [List.mem_cons]; done))) (by (first | decide | (simp only [List.mem_cons, List.not_mem_nil, or_false, not_or, not_false_eq_true, and_true]; omega) | (simp [List.mem_cons]; done))) (by (first | decide | (simp only [List.mem_cons, List.not_mem_nil, or_false, not_or, not_false_eq_true, and_true]; omega) | (simp [List.mem_cons]; done))) (by (first | decide | (simp only [List.mem_cons, List.not_mem_nil, or_false, not_or, not_false_eq_true, and_true]; omega) | (simp [List.mem_cons]; done))) (by (first | decide | (simp only [List.mem_cons, List.not_mem_nil, or_false, not_or, not_false_eq_true, and_true]; omega) | (simp [List.mem_cons]; done))) (by (first | decide | (simp only [List.mem_cons, List.not_mem_nil, or_false, not_or, not_false_eq_true, and_true]; omega) | (simp [List.mem_cons]; done)))) hb.1 h25 (by omega)).mono ?_
        rintro r' M1 okM1 ⟨rfl, t1, t2⟩
        have h27' : CM M1 27 σ.h.P σ.m := h27.same t2 (by (first | decide | (simp only [List.mem_cons, List.not_mem_nil, or_false, not_or, not_false_eq_true, and_true]; omega) | (simp [List.mem_cons]; done))) (by (first | decide | (simp only [List.mem_cons, List.not_mem_nil, or_false, not_or, not_false_eq_true, and_true]; omega) | (simp [List.mem_cons]; done)))
        have hN' : Same [25, 26, 27, 28, z + 7, z + 8] M M1 := hN.trans (t2.mono (by simp))
        simp only [wR, wB, wE0, wE1, wE2, wE3, g0, gS, s10, s11, s1S, s20, s21, s2S, kl0, kl1, kl2, kl3, sp0, sp1, sp2, sp3, cn1, cn2, cn3, cn4, cn5, cn6, jJa, lk0, lk1, jmS, jmN, s4_0, s4_1, s4_2, s4_3, s4_4, sw0, sw1, cKs, cKn, true_and, and_true, List.map_cons, List.map_nil, Nat.reduceAdd, Nat.zero_add, Int.reduceAdd, Nat.reduceEqDiff, reduceIte, Classical.not_not, b_H_winter, shH]
        have a85 : ∀ (c' : Nat) (m'' : Mo) (l6 : Option AV), c' ≤ i + 1 → MoB (B + (i + 1)) m'' → CM M1 25 σ.h.P m'' → winD σ.h r (lcg (lcg x)) c' m'' = winD σ.h n seed 0 σ.m → AW G d mi_H_winter Q 85 [some (vr 0), some (vi seed), some (vi n), some (vi (lcg (lcg x))), some (vi c'), some (vi i), l6] [] M1 := by
          intro c' m'' l6 hc' hb' hm'' he'
          refine AW.run ck_H_winter [33] 10 85 ?_
          simp only [wR, wB, wE0, wE1, wE2, wE3, g0, gS, s10, s11, s1S, s20, s21, s2S, kl0, kl1, kl2, kl3, sp0, sp1, sp2, sp3, cn1, cn2, cn3, cn4, cn5, cn6, jJa, lk0, lk1, jmS, jmN, s4_0, s4_1, s4_2, s4_3, s4_4, sw0, sw1, cKs, cKn, true_and, and_true, List.map_cons, List.map_nil, Nat.reduceAdd, Nat.zero_add, Int.reduceAdd, Nat.reduceEqDiff, reduceIte, Classical.not_not, b_H_winter, ce]
          (repeat' (first | omega | exact ⟨by omega, by omega⟩ | (with_reducible exact Or.inr trivial) | (with_reducible exact Or.inl trivial) | (with_reducible assumption) | (with_reducible exact Same.refl) | (with_reducible rfl) | (with_reducible refine And.intro ?_ ?_) | (with_reducible intro _)))
          exact ih (i + 1) c' _ m'' M1 _ (by omega) hc' hb' hm'' h27' hN' he'
        simp only [winD] at he
        by_cases q : whyD σ.h.P m' (drawV x) = 0
        · rw [if_pos q] at t1 he
          have := a85 (c + 1) _ (some (vi (bUshr (lcg x) 16 % 6))) (by omega) (doD_ok hb) t1 he
          rw [show ((c + 1 : Nat) : Int) = (c : Int) + 1 by omega] at this
          (repeat' (first | omega | exact ⟨by omega, by omega⟩ | (with_reducible exact Or.inr trivial) | (with_reducible exact Or.inl trivial) | (with_reducible assumption) | (with_reducible exact Same.refl) | (with_reducible rfl) | (with_reducible refine And.intro ?_ ?_) | (with_reducible intro _)))
        · rw [if_neg q] at t1 he
          have := a85 c m' (some (vi (bUshr (lcg x) 16 % 6))) (by omega) (hb.mono (by omega)) t1 he
          (repeat' (first | omega | exact ⟨by omega, by omega⟩ | (with_reducible exact Or.inr trivial) | (with_reducible exact Or.inl trivial) | (with_reducible assumption) | (with_reducible exact Same.refl) | (with_reducible rfl) | (with_reducible refine And.intro ?_ ?_) | (with_reducible intro _)))
    refine AW.run ck_H_winter [11, 33] 10 0 ?_
    simp only [wR, wB, wE0, wE1, wE2, wE3, g0, gS, s10, s11, s1S, s20, s21, s2S, kl0, kl1, kl2, kl3, sp0, sp1, sp2, sp3, cn1, cn2, cn3, cn4, cn5, cn6, jJa, lk0, lk1, jmS, jmN, s4_0, s4_1, s4_2, s4_3, s4_4, sw0, sw1, cKs, cKn, true_and, and_true, List.map_cons, List.map_nil, Nat.reduceAdd, Nat.zero_add, Int.reduceAdd, Nat.reduceEqDiff, reduceIte, Classical.not_not, b_H_winter, shH]
    (repeat' (first | omega | exact ⟨by omega, by omega⟩ | (with_reducible exact Or.inr trivial) | (with_reducible exact Or.inl trivial) | (with_reducible assumption) | (with_reducible exact Same.refl) | (with_reducible rfl) | (with_reducible refine And.intro ?_ ?_) | (with_reducible intro _)))
    refine MS.to (c_Mo_copy (by omega) o27 o25) fun _ => ?_
    have h27 := moC_CM (z := 27) hM
    have sm : Same [27, 28] M (moC M 27 25) := moC_same
    generalize moC M 27 25 = N at h27 sm ⊢
    simp only [wR, wB, wE0, wE1, wE2, wE3, g0, gS, s10, s11, s1S, s20, s21, s2S, kl0, kl1, kl2, kl3, sp0, sp1, sp2, sp3, cn1, cn2, cn3, cn4, cn5, cn6, jJa, lk0, lk1, jmS, jmN, s4_0, s4_1, s4_2, s4_3, s4_4, sw0, sw1, cKs, cKn, true_and, and_true, List.map_cons, List.map_nil, Nat.reduceAdd, Nat.zero_add, Int.reduceAdd, Nat.reduceEqDiff, reduceIte, Classical.not_not, b_H_winter, shH]
    exact loop n 0 0 seed σ.m N _ (by omega) (by omega) mok (hM.same sm (by (first | decide | (simp only [List.mem_cons, List.not_mem_nil, or_false, not_or, not_false_eq_true, and_true]; omega) | (simp [List.mem_cons]; done))) (by (first | decide | (simp only [List.mem_cons, List.not_mem_nil, or_false, not_or, not_false_eq_true, and_true]; omega) | (simp [List.mem_cons]; done)))) h27 (sm.mono (by simp)) rfl
  · have a11 : AW G d mi_H_winter Q 11 [some (vr 0), some (vi seed), some (vi times), none, none, none, none] [] M := by
      refine AW.run ck_H_winter [] 10 11 ?_
      simp only [wR, wB, wE0, wE1, wE2, wE3, g0, gS, s10, s11, s1S, s20, s21, s2S, kl0, kl1, kl2, kl3, sp0, sp1, sp2, sp3, cn1, cn2, cn3, cn4, cn5, cn6, jJa, lk0, lk1, jmS, jmN, s4_0, s4_1, s4_2, s4_3, s4_4, sw0, sw1, cKs, cKn, true_and, and_true, List.map_cons, List.map_nil, Nat.reduceAdd, Nat.zero_add, Int.reduceAdd, Nat.reduceEqDiff, reduceIte, Classical.not_not, b_H_winter]
      subst hQ
      rw [if_neg ht, if_neg (fun h => ht h.1)]
      exact ⟨rfl, hR, Hi.refl⟩
    refine AW.run ck_H_winter [11, 14] 10 0 ?_
    simp only [wR, wB, wE0, wE1, wE2, wE3, g0, gS, s10, s11, s1S, s20, s21, s2S, kl0, kl1, kl2, kl3, sp0, sp1, sp2, sp3, cn1, cn2, cn3, cn4, cn5, cn6, jJa, lk0, lk1, jmS, jmN, s4_0, s4_1, s4_2, s4_3, s4_4, sw0, sw1, cKs, cKn, true_and, and_true, List.map_cons, List.map_nil, Nat.reduceAdd, Nat.zero_add, Int.reduceAdd, Nat.reduceEqDiff, reduceIte, Classical.not_not, b_H_winter]
    (repeat' (first | omega | exact ⟨by omega, by omega⟩ | (with_reducible exact Or.inr trivial) | (with_reducible exact Or.inl trivial) | (with_reducible assumption) | (with_reducible exact Same.refl) | (with_reducible rfl) | (with_reducible refine And.intro ?_ ?_) | (with_reducible intro _)))
end CI
