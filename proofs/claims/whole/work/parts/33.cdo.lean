/-! the class's deeds -/
def Sg.to (σ : Sg) (m : Mo) (np : Nat) (pm : Nat → Mo) : Sg := mkS σ.tn σ.tp σ.fk σ.fp σ.h m np pm σ.tr σ.im
/-- a deed done: the moment before it is kept -/
def Sg.deed (σ : Sg) (m : Mo) : Sg := σ.to m (pushN σ.np) (pushM σ.np σ.pm σ.m)
def DFr (M N : AM) : Prop := (∀ x : Int, (1 ≤ x ∧ x < 14) ∨ (15 < x ∧ x < 23) ∨ (29 < x ∧ x < 67) ∨ 86 < x → N x = M x) ∧ ∀ y : Int, y ≠ 8 → N 0 y = M 0 y
theorem DFr.refl {M : AM} : DFr M M := ⟨fun _ _ => rfl, fun _ _ => rfl⟩
theorem DFr.trans {M N K : AM} (h : DFr M N) (h2 : DFr N K) : DFr M K := ⟨fun x hx => (h2.1 x hx).trans (h.1 x hx), fun y hy => (h2.2 y hy).trans (h.2 y hy)⟩
theorem DFr.hi {M N : AM} (h : DFr M N) : Hi M N := fun x hx => h.1 x (by omega)
theorem Same.dfr {M N : AM} {ps : List Int} (h : Same ps M N) (hp : ∀ x ∈ ps, ¬ ((1 ≤ x ∧ x < 14) ∨ (15 < x ∧ x < 23) ∨ (29 < x ∧ x < 67) ∨ 86 < x ∨ x = 0)) : DFr M N := ⟨fun x hx => h x (fun q => hp x q (by omega)), fun y _ => h.at 0 y (fun q => hp 0 q (by omega))⟩
theorem FrP.dfr {M N : AM} (h : FrP M N) : DFr M N := ⟨fun x hx => h.1 x (by omega) (by omega) (by omega), h.2⟩
theorem CR.upd {M N : AM} {σ : Sg} {m : Mo} {np : Nat} {pm : Nat → Mo} (h : CR M σ) (hf : DFr M N) (hm : CM N 25 σ.h.P m) (hp : PastOK N σ.h.P np pm) : CR N (σ.to m np pm) := by
  obtain ⟨z, a, b, c, e, f, g, i, j⟩ := h
  have h1 := hf.1 1 (by omega)
  have h2 := hf.1 2 (by omega)
  obtain ⟨a1, a2, a3, a4⟩ := a
  refine ⟨z, ⟨by rw [hf.2 3 (by omega)]; exact a1, by rw [hf.2 4 (by omega)]; exact a2, a3, a4.eq (hf.1 _ (by omega)) (hf.1 _ (by omega)) (hf.1 _ (by omega)) (hf.1 _ (by omega)) (hf.1 _ (by omega)) (hf.1 _ (by omega))⟩, ?_, ?_, hm, hp, fun k hk => (g k hk).eq (hf.1 _ (by omega)) (hf.1 _ (by omega)) (hf.1 _ (by omega)), ?_, j.1.eq (fun x h1 h2 => hf.1 x (by omega)), j.2.eq (fun x hx => hf.1 x (by omega))⟩
  · unfold Ctape; rw [hf.2 1 (by omega), h1]; exact b
  · unfold Cflt; rw [h2]; exact c
  · exact Cim.eq (σ := σ.to m np pm) i (hf.2 12 (by omega)) (fun x hx => hf.1 x (by omega))
theorem PastOK.eq {M N : AM} {P np : Nat} {pm : Nat → Mo} (h : PastOK M P np pm) (h0 : N 0 8 = M 0 8) (hs : ∀ x : Int, x = 29 ∨ (67 ≤ x ∧ x ≤ 86) → N x = M x) : PastOK N P np pm := by
  obtain ⟨a, a2, q, b, c, e⟩ := h
  have h29 := hs 29 (by omega)
  refine ⟨by rw [h0]; exact a, a2, q, fun i hi => by rw [h29]; exact b i hi, c, fun i hi => (e i hi).eq (hs _ ?_) (hs _ ?_)⟩
  all_goals
    have := b i (by omega)
    omega
theorem CR.z {M : AM} {σ : Sg} (h : CR M σ) : ∃ z, Chs M z σ ∧ CM M 25 σ.h.P σ.m ∧ PastOK M σ.h.P σ.np σ.pm ∧ ∀ i : Nat, i < 4 → Ctr M i (σ.tr i) := by
  obtain ⟨z, a, b, c, e, f, g, i, j⟩ := h
  exact ⟨z, a, e, f, g⟩
section CE
variable {G : AG} {d : Nat} {M : AM}
theorem o25 : isO 25 4 := shH.2.2.2.1
theorem o27 : isO 27 4 := shH.2.2.2.2.1
theorem c_H_doOne {v : Int} {B : Nat} {σ : Sg} (hd : 15 ≤ d) (hB : B < 1000000000) (ok : SgOK B σ) (hR : CR M σ) (hv : inI v) :
    MS G d mi_H_doOne [vr 0, vi v] M (fun r M' => r = some (vi (whyD σ.h.P σ.m v)) ∧ CR M' (if whyD σ.h.P σ.m v = 0 then σ.deed (doD σ.h σ.m v) else σ) ∧ Hi M M') := by
  obtain ⟨z, hs, hM, hp, hT⟩ := hR.z
  have hz := hs.z
  have hzz := hs.2.2.1
  have mok := ok.2.2.2.1
  refine MS.run ck_H_doOne [some (vr 0), some (vi v), none] [] 10 fun _ _ => ?_
  simp only [wR, wB, wE0, wE1, wE2, wE3, g0, gS, s10, s11, s1S, s20, s21, s2S, kl0, kl1, kl2, kl3, sp0, sp1, sp2, sp3, cn1, cn2, cn3, cn4, cn5, cn6, jJa, lk0, lk1, jmS, jmN, s4_0, s4_1, s4_2, s4_3, s4_4, sw0, sw1, cKs, cKn, true_and, and_true, List.map_cons, List.map_nil, Nat.reduceAdd, Nat.zero_add, Int.reduceAdd, Nat.reduceEqDiff, reduceIte, Classical.not_not, b_H_doOne, shH]
  refine ⟨by omega, MS.to (c_Mo_copy (by omega) o27 o25) fun _ => ?_⟩
  have h27 := moC_CM (z := 27) hM
  have sm := moC_same (M := M) (z := 27) (o := 25)
  generalize moC M 27 25 = N at h27 sm ⊢
  have sm' : Same [27, 28] M N := sm
  have f1 : DFr M N := sm'.dfr (by intro x hx; simp only [List.mem_cons, List.not_mem_nil, or_false] at hx; omega)
  simp only [wR, wB, wE0, wE1, wE2, wE3, g0, gS, s10, s11, s1S, s20, s21, s2S, kl0, kl1, kl2, kl3, sp0, sp1, sp2, sp3, cn1, cn2, cn3, cn4, cn5, cn6, jJa, lk0, lk1, jmS, jmN, s4_0, s4_1, s4_2, s4_3, s4_4, sw0, sw1, cKs, cKn, true_and, and_true, List.map_cons, List.map_nil, Nat.reduceAdd, Nat.zero_add, Int.reduceAdd, Nat.reduceEqDiff, reduceIte, Classical.not_not, b_H_doOne, shH]
  have hC : CH N z σ.h := hs.2.2.2.same sm' (by (first | decide | (simp only [List.mem_cons, List.not_mem_nil, or_false, not_or, not_false_eq_true, and_true]; omega) | (simp [List.mem_cons]; done))) (by (first | decide | (simp only [List.mem_cons, List.not_mem_nil, or_false, not_or, not_false_eq_true, and_true]; omega) | (simp [List.mem_cons]; done))) (by (first | decide | (simp only [List.mem_cons, List.not_mem_nil, or_false, not_or, not_false_eq_true, and_true]; omega) | (simp [List.mem_cons]; done))) (by (first | decide | (simp only [List.mem_cons, List.not_mem_nil, or_false, not_or, not_false_eq_true, and_true]; omega) | (simp [List.mem_cons]; done))) (by (first | decide | (simp only [List.mem_cons, List.not_mem_nil, or_false, not_or, not_false_eq_true, and_true]; omega) | (simp [List.mem_cons]; done))) (by (first | decide | (simp only [List.mem_cons, List.not_mem_nil, or_false, not_or, not_false_eq_true, and_true]; omega) | (simp [List.mem_cons]; done)))
  have hM2 : CM N 25 σ.h.P σ.m := hM.same sm' (by (first | decide | (simp only [List.mem_cons, List.not_mem_nil, or_false, not_or, not_false_eq_true, and_true]; omega) | (simp [List.mem_cons]; done))) (by (first | decide | (simp only [List.mem_cons, List.not_mem_nil, or_false, not_or, not_false_eq_true, and_true]; omega) | (simp [List.mem_cons]; done)))
  refine ⟨by omega, (c_H_tryDeed (by omega) (by rw [f1.2 3 (by omega)]; exact hs.1) hz o25 ok.2.2.1 hC mok.1 hM2 (by have := mok.2; omega)).mono ?_⟩
  rintro r M1 okM1 ⟨rfl, t1, t2⟩
  have f2 : DFr N M1 := t2.dfr (by intro x hx; simp only [List.mem_cons, List.not_mem_nil, or_false] at hx; omega)
  have hp1 : PastOK M1 σ.h.P σ.np σ.pm := hp.eq (by rw [t2.at 0 _ (by (first | decide | (simp only [List.mem_cons, List.not_mem_nil, or_false, not_or, not_false_eq_true, and_true]; omega) | (simp [List.mem_cons]; done))), sm'.at 0 _ (by (first | decide | (simp only [List.mem_cons, List.not_mem_nil, or_false, not_or, not_false_eq_true, and_true]; omega) | (simp [List.mem_cons]; done)))]) (fun x hx => by rw [t2 x (by (first | decide | (simp only [List.mem_cons, List.not_mem_nil, or_false, not_or, not_false_eq_true, and_true]; omega) | (simp [List.mem_cons]; done))), sm' x (by (first | decide | (simp only [List.mem_cons, List.not_mem_nil, or_false, not_or, not_false_eq_true, and_true]; omega) | (simp [List.mem_cons]; done)))])
  have hm27 : CM M1 27 σ.h.P σ.m := h27.same t2 (by (first | decide | (simp only [List.mem_cons, List.not_mem_nil, or_false, not_or, not_false_eq_true, and_true]; omega) | (simp [List.mem_cons]; done))) (by (first | decide | (simp only [List.mem_cons, List.not_mem_nil, or_false, not_or, not_false_eq_true, and_true]; omega) | (simp [List.mem_cons]; done)))
  simp only [wR, wB, wE0, wE1, wE2, wE3, g0, gS, s10, s11, s1S, s20, s21, s2S, kl0, kl1, kl2, kl3, sp0, sp1, sp2, sp3, cn1, cn2, cn3, cn4, cn5, cn6, jJa, lk0, lk1, jmS, jmN, s4_0, s4_1, s4_2, s4_3, s4_4, sw0, sw1, cKs, cKn, true_and, and_true, List.map_cons, List.map_nil, Nat.reduceAdd, Nat.zero_add, Int.reduceAdd, Nat.reduceEqDiff, reduceIte, Classical.not_not, b_H_doOne, shH]
  by_cases q : whyD σ.h.P σ.m v = 0
  · rw [if_pos q] at t1 ⊢
    (repeat' (first | omega | exact ⟨by omega, by omega⟩ | (with_reducible exact Or.inr trivial) | (with_reducible exact Or.inl trivial) | (with_reducible assumption) | (with_reducible exact Same.refl) | (with_reducible rfl) | (with_reducible refine And.intro ?_ ?_) | (with_reducible intro _)))
    refine (c_H_keepPast (by omega) hp1 hm27).mono ?_
    rintro r M2 okM2 ⟨rfl, p1, p2⟩
    simp only [wR, wB, wE0, wE1, wE2, wE3, g0, gS, s10, s11, s1S, s20, s21, s2S, kl0, kl1, kl2, kl3, sp0, sp1, sp2, sp3, cn1, cn2, cn3, cn4, cn5, cn6, jJa, lk0, lk1, jmS, jmN, s4_0, s4_1, s4_2, s4_3, s4_4, sw0, sw1, cKs, cKn, true_and, and_true, List.map_cons, List.map_nil, Nat.reduceAdd, Nat.zero_add, Int.reduceAdd, Nat.reduceEqDiff, reduceIte, Classical.not_not, b_H_doOne]
    have f3 := (f1.trans f2).trans p2.dfr
    exact ⟨hR.upd f3 (t1.eq (p2.1 _ (by omega) (by omega) (by omega)) (p2.1 _ (by omega) (by omega) (by omega))) p1, f3.hi⟩
  · rw [if_neg q] at t1 ⊢
    (repeat' (first | omega | exact ⟨by omega, by omega⟩ | (with_reducible exact Or.inr trivial) | (with_reducible exact Or.inl trivial) | (with_reducible assumption) | (with_reducible exact Same.refl) | (with_reducible rfl) | (with_reducible refine And.intro ?_ ?_) | (with_reducible intro _)))
    · exact hR.upd (f1.trans f2) t1 hp1
    · exact (f1.trans f2).hi
def aHour (σ : Sg) (v : Int) : Int := if aWhy σ v = 0 then (stoodM σ.h σ.m v.toNat : Int) else -10 - aWhy σ v
def sHour (σ : Sg) (v : Int) : Sg := if aWhy σ v = 0 then σ.deed (hourM σ.h σ.m v.toNat) else σ
theorem c_H_hour {v : Int} {B : Nat} {σ : Sg} (hd : 20 ≤ d) (hB : B < 1000000000) (ok : SgOK B σ) (hR : CR M σ) (hv : inI v) :
    MS G d mi_H_hour [vr 0, vi v] M (fun r M' => r = some (vi (aHour σ v)) ∧ CR M' (sHour σ v) ∧ Hi M M') := by
  obtain ⟨z, hs, hM, hp, hT⟩ := hR.z
  have hz := hs.z
  have mok := ok.2.2.2.1
  have hP := ok.2.2.1.1
  have h32 := p2_32 hP
  refine MS.run ck_H_hour [some (vr 0), some (vi v), none, none] [] 10 fun _ _ => ?_
  simp only [wR, wB, wE0, wE1, wE2, wE3, g0, gS, s10, s11, s1S, s20, s21, s2S, kl0, kl1, kl2, kl3, sp0, sp1, sp2, sp3, cn1, cn2, cn3, cn4, cn5, cn6, jJa, lk0, lk1, jmS, jmN, s4_0, s4_1, s4_2, s4_3, s4_4, sw0, sw1, cKs, cKn, true_and, and_true, List.map_cons, List.map_nil, Nat.reduceAdd, Nat.zero_add, Int.reduceAdd, Nat.reduceEqDiff, reduceIte, Classical.not_not, b_H_hour, shH]
  refine ⟨by omega, MS.to (c_H_isSet (by omega) hs hP hv) fun _ => ?_⟩
  unfold aHour sHour
  by_cases q : 0 ≤ v ∧ v < ((2 ^ σ.h.P : Nat) : Int)
  · obtain ⟨n, rfl⟩ := Int.eq_ofNat_of_zero_le q.1
    rw [if_pos q]
    simp only [wR, wB, wE0, wE1, wE2, wE3, g0, gS, s10, s11, s1S, s20, s21, s2S, kl0, kl1, kl2, kl3, sp0, sp1, sp2, sp3, cn1, cn2, cn3, cn4, cn5, cn6, jJa, lk0, lk1, jmS, jmN, s4_0, s4_1, s4_2, s4_3, s4_4, sw0, sw1, cKs, cKn, true_and, and_true, List.map_cons, List.map_nil, Nat.reduceAdd, Nat.zero_add, Int.reduceAdd, Nat.reduceEqDiff, reduceIte, Classical.not_not, b_H_hour, shH, hs.1, hz, up_rd, Int.reduceEq, and_false, false_and, and_self, reduceIte, not_true_eq_false, not_false_eq_true, false_imp_iff, true_imp_iff, true_or, or_true]
    refine ⟨by omega, (c_Ha_standing (by omega) hz o25 ok.2.2.1 hs.2.2.2 mok.1 hM (by omega)).mono ?_⟩
    rintro r M1 okM1 ⟨rfl, t2⟩
    obtain ⟨hR1, hi1⟩ := hR.z78 hs.2.2.1 t2
    have hsl : stoodM σ.h σ.m n ≤ 3 := by unfold stoodM; (repeat' split) <;> omega
    simp only [wR, wB, wE0, wE1, wE2, wE3, g0, gS, s10, s11, s1S, s20, s21, s2S, kl0, kl1, kl2, kl3, sp0, sp1, sp2, sp3, cn1, cn2, cn3, cn4, cn5, cn6, jJa, lk0, lk1, jmS, jmN, s4_0, s4_1, s4_2, s4_3, s4_4, sw0, sw1, cKs, cKn, true_and, and_true, List.map_cons, List.map_nil, Nat.reduceAdd, Nat.zero_add, Int.reduceAdd, Nat.reduceEqDiff, reduceIte, Classical.not_not, b_H_hour, shH]
    refine ⟨by omega, (c_H_doOne (by omega) hB ok hR1 hv).mono ?_⟩
    rintro r M2 okM2 ⟨rfl, t3, hi2⟩
    have ew : whyD σ.h.P σ.m n = aWhy σ n := by unfold whyD aWhy; rw [if_pos (by omega)]
    have ed : doD σ.h σ.m n = hourM σ.h σ.m n := by unfold doD; rw [if_pos (by omega), Int.toNat_natCast]
    rw [ew, ed] at t3
    rw [ew]
    simp only [wR, wB, wE0, wE1, wE2, wE3, g0, gS, s10, s11, s1S, s20, s21, s2S, kl0, kl1, kl2, kl3, sp0, sp1, sp2, sp3, cn1, cn2, cn3, cn4, cn5, cn6, jJa, lk0, lk1, jmS, jmN, s4_0, s4_1, s4_2, s4_3, s4_4, sw0, sw1, cKs, cKn, true_and, and_true, List.map_cons, List.map_nil, Nat.reduceAdd, Nat.zero_add, Int.reduceAdd, Nat.reduceEqDiff, reduceIte, Classical.not_not, b_H_hour, Int.toNat_natCast]
    by_cases q2 : aWhy σ n = 0
    · rw [if_pos q2] at t3 ⊢
      rw [if_pos q2]
      (repeat' (first | omega | exact ⟨by omega, by omega⟩ | (with_reducible exact Or.inr trivial) | (with_reducible exact Or.inl trivial) | (with_reducible assumption) | (with_reducible exact Same.refl) | (with_reducible rfl) | (with_reducible refine And.intro ?_ ?_) | (with_reducible intro _)))
      exact hi1.trans hi2
    · rw [if_neg q2] at t3 ⊢
      rw [if_neg q2]
      have : aWhy σ n = 0 ∨ aWhy σ n = 1 ∨ aWhy σ n = 2 := by unfold aWhy whyS; (repeat' split) <;> simp
      (repeat' (first | omega | exact ⟨by omega, by omega⟩ | (with_reducible exact Or.inr trivial) | (with_reducible exact Or.inl trivial) | (with_reducible assumption) | (with_reducible exact Same.refl) | (with_reducible rfl) | (with_reducible refine And.intro ?_ ?_) | (with_reducible intro _)))
      exact hi1.trans hi2
  · rw [if_neg q]
    have ew : aWhy σ v = 1 := by unfold aWhy whyS; rw [if_neg q]
    rw [ew]
    simp only [wR, wB, wE0, wE1, wE2, wE3, g0, gS, s10, s11, s1S, s20, s21, s2S, kl0, kl1, kl2, kl3, sp0, sp1, sp2, sp3, cn1, cn2, cn3, cn4, cn5, cn6, jJa, lk0, lk1, jmS, jmN, s4_0, s4_1, s4_2, s4_3, s4_4, sw0, sw1, cKs, cKn, true_and, and_true, List.map_cons, List.map_nil, Nat.reduceAdd, Nat.zero_add, Int.reduceAdd, Nat.reduceEqDiff, reduceIte, Classical.not_not, b_H_hour, shH, up_rd, Int.reduceEq, and_false, false_and, and_self, reduceIte, not_true_eq_false, not_false_eq_true, false_imp_iff, true_imp_iff, true_or, or_true]
    exact ⟨rfl, hR, Hi.refl⟩
end CE
