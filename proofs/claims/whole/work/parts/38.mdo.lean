/-- of the model only the moment has changed (and what is reckoned) -/
def MFr (M N : AM) : Prop := Same [118, 122, 123] M N ∧ ∀ y : Int, (y < 19 ∨ 30 < y) → N 118 y = M 118 y
theorem MFr.refl {M : AM} : MFr M M := ⟨Same.refl, fun _ _ => rfl⟩
theorem MFr.trans {M N K : AM} (h : MFr M N) (h2 : MFr N K) : MFr M K := ⟨h.1.trans h2.1, fun y hy => (h2.2 y hy).trans (h.2 y hy)⟩
theorem MFr.mh {M N : AM} {h : Hl} (hf : MFr M N) (H : MH (M 118) h) (hP : h.P ≤ 5) : MH (N 118) h := H.eq hP (fun y hy => hf.2 y (by omega))
theorem ww_mfr {M N : AM} (hs : Same [122, 123] M N) : MFr M N := ⟨hs.mono (by simp), fun y _ => hs.at 118 y (by (first | decide | (simp only [List.mem_cons, List.not_mem_nil, or_false, not_or, not_false_eq_true, and_true]; omega) | (simp [List.mem_cons]; done)))⟩
/-- of the model the moment and the past have changed, and working places -/
def MDf (M N : AM) : Prop := (∀ x : Int, 117 < x → x ≠ 118 → x ≠ 122 → x ≠ 123 → x ≠ 124 → N x = M x) ∧ Lo M N ∧ (N 117 5 = M 117 5 ∧ N 117 13 = M 117 13 ∧ N 117 14 = M 117 14) ∧ ∀ y : Int, (y < 19 ∨ 152 ≤ y) → N 118 y = M 118 y
theorem MDf.refl {M : AM} : MDf M M := ⟨fun _ _ _ _ _ _ => rfl, Lo.refl, ⟨rfl, rfl, rfl⟩, fun _ _ => rfl⟩
theorem MDf.trans {M N K : AM} (h : MDf M N) (h2 : MDf N K) : MDf M K := ⟨fun x a b c e f => (h2.1 x a b c e f).trans (h.1 x a b c e f), h.2.1.trans h2.2.1, ⟨h2.2.2.1.1.trans h.2.2.1.1, h2.2.2.1.2.1.trans h.2.2.1.2.1, h2.2.2.1.2.2.trans h.2.2.1.2.2⟩, fun y hy => (h2.2.2.2 y hy).trans (h.2.2.2 y hy)⟩
theorem MFr.df {M N : AM} (h : MFr M N) : MDf M N := ⟨fun x a b c e f => h.1 x (by (first | decide | (simp only [List.mem_cons, List.not_mem_nil, or_false, not_or, not_false_eq_true, and_true]; omega) | (simp [List.mem_cons]; done))), h.1.lo (by intro x hx; simp only [List.mem_cons, List.not_mem_nil, or_false] at hx; omega), ⟨h.1.at 117 _ (by (first | decide | (simp only [List.mem_cons, List.not_mem_nil, or_false, not_or, not_false_eq_true, and_true]; omega) | (simp [List.mem_cons]; done))), h.1.at 117 _ (by (first | decide | (simp only [List.mem_cons, List.not_mem_nil, or_false, not_or, not_false_eq_true, and_true]; omega) | (simp [List.mem_cons]; done))), h.1.at 117 _ (by (first | decide | (simp only [List.mem_cons, List.not_mem_nil, or_false, not_or, not_false_eq_true, and_true]; omega) | (simp [List.mem_cons]; done)))⟩, fun y hy => h.2 y (by omega)⟩
theorem thr_df {M : AM} : MDf M (up M 117 0 0) := ⟨fun x a b c e f => by funext y; exact up_ne1 (by omega), thr_lo, ⟨up_ne2 (by omega), up_ne2 (by omega), up_ne2 (by omega)⟩, fun y hy => up_ne1 (by omega)⟩
theorem keeps_df {M : AM} : MDf M (cpy M 118 19 124 0 12) := ⟨fun x a b c e f => by funext y; exact cpy_at (by omega), fun x hx => by funext y; exact cpy_at (by omega), ⟨cpy_at (by omega), cpy_at (by omega), cpy_at (by omega)⟩, fun y hy => cpy_at (by omega)⟩
theorem keeps_row {M : AM} {P : Nat} {m : Mo} (h : MRow (fun y => M 118 (19 + y)) P m) (hP : P ≤ 5) : MRow (cpy M 118 19 124 0 12 124) P m := h.eq hP (fun y y0 y1 => by
  have := cpy_in (M := M) (a := 118) (sp := 19) (b := 124) (dp := 0) (n := 12) (y := y) y0 y1
  rwa [Int.zero_add] at this)
theorem notes_df {M N : AM} (hs : Same [118] M N) (hf : ∀ y : Int, (y < 31 ∨ 152 ≤ y) → N 118 y = M 118 y) : MDf M N := ⟨fun x a b c e f => hs x (by (first | decide | (simp only [List.mem_cons, List.not_mem_nil, or_false, not_or, not_false_eq_true, and_true]; omega) | (simp [List.mem_cons]; done))), hs.lo (by intro x hx; simp only [List.mem_cons, List.not_mem_nil, or_false] at hx; omega), ⟨hs.at 117 _ (by (first | decide | (simp only [List.mem_cons, List.not_mem_nil, or_false, not_or, not_false_eq_true, and_true]; omega) | (simp [List.mem_cons]; done))), hs.at 117 _ (by (first | decide | (simp only [List.mem_cons, List.not_mem_nil, or_false, not_or, not_false_eq_true, and_true]; omega) | (simp [List.mem_cons]; done))), hs.at 117 _ (by (first | decide | (simp only [List.mem_cons, List.not_mem_nil, or_false, not_or, not_false_eq_true, and_true]; omega) | (simp [List.mem_cons]; done)))⟩, fun y hy => hf y (by omega)⟩
theorem MR.upd {M N : AM} {σ : Sg} {m : Mo} {np : Nat} {pm : Nat → Mo} (h : MR M σ) (hP : σ.h.P ≤ 5) (hi5 : ∀ i x, i < 2 → σ.im i = some x → x.1.P ≤ 5) (hf : MDf M N) (hm : MRow (fun y => N 118 (19 + y)) σ.h.P m) (hp : MPast (N 118) σ.h.P np pm) : MR N (σ.to m np pm) := by
  obtain ⟨⟨a1, a2⟩, ⟨b1, b2⟩, c, e, f, g, i⟩ := h
  obtain ⟨f1, f2, ⟨f3, f4, f5⟩, f6⟩ := hf
  refine ⟨⟨by rw [f3]; exact a1, fun k hk => by rw [f1 120 (by omega) (by omega) (by omega) (by omega) (by omega)]; exact a2 k hk⟩, ⟨by rw [f4]; exact b1, by rw [f5]; exact b2⟩, c.eq hP (fun y hy => f6 y (by omega)), hm, hp, fun k hk => ?_, fun k hk => ?_⟩
  · rw [f1 135 (by omega) (by omega) (by omega) (by omega) (by omega), f1 136 (by omega) (by omega) (by omega) (by omega) (by omega), f1 137 (by omega) (by omega) (by omega) (by omega) (by omega)]
    exact g k hk
  · rw [f1 119 (by omega) (by omega) (by omega) (by omega) (by omega)]
    obtain ⟨i1, i2⟩ := i k hk
    refine ⟨i1, fun x hx => ?_⟩
    obtain ⟨j1, j2⟩ := i2 x hx
    have hx5 := hi5 k x hk hx
    exact ⟨j1.eq hx5 (fun y hy => f6 _ (by omega)), j2.eq hx5 (fun y y0 y1 => f6 _ (by omega))⟩
theorem MR.past {M : AM} {σ : Sg} (h : MR M σ) : MH (M 118) σ.h ∧ MRow (fun y => M 118 (19 + y)) σ.h.P σ.m ∧ MPast (M 118) σ.h.P σ.np σ.pm := ⟨h.2.2.1, h.2.2.2.1, h.2.2.2.2.1⟩
theorem MPast.eq {A A' : Int → Int} {P np : Nat} {pm : Nat → Mo} (h : MPast A P np pm) (hP : P ≤ 5) (hn : np ≤ 10) (e : ∀ y : Int, 31 ≤ y → y < 152 → A' y = A y) : MPast A' P np pm := ⟨by rw [e _ (by omega) (by omega)]; exact h.1, fun i hi => (h.2 i hi).eq hP (fun y y0 y1 => e _ (by omega) (by omega))⟩
theorem SgOK.im5 {B : Nat} {σ : Sg} (ok : SgOK B σ) : ∀ i x, i < 2 → σ.im i = some x → x.1.P ≤ 5 := fun i x hi hx => (ok.2.2.2.2.2.2.2 i x hi hx).1.1
theorem MRow19 {A : Int → Int} {P : Nat} {m : Mo} (h1 : ∀ p : Nat, p < P → A (19 + (p : Int)) = m.sd p) (h4 : ∀ p : Nat, p < P → A (24 + (p : Int)) = m.st p) (h2 : A 29 = m.cold) (h3 : A 30 = m.hrs) : MRow (fun y => A (19 + y)) P m :=
  ⟨fun p hp => ⟨h1 p hp, by have := h4 p hp; rwa [show (24 : Int) + (p : Int) = 19 + (5 + (p : Int)) by omega] at this⟩, h2, h3⟩
theorem MRow.g {A : Int → Int} {P : Nat} {m : Mo} (h : MRow (fun y => A (19 + y)) P m) : (∀ p : Nat, p < P → A (19 + (p : Int)) = m.sd p) ∧ (∀ p : Nat, p < P → A (24 + (p : Int)) = m.st p) ∧ A 29 = m.cold ∧ A 30 = m.hrs :=
  ⟨fun p hp => (h.1 p hp).1, fun p hp => by have e : A (19 + (5 + (p : Int))) = m.st p := (h.1 p hp).2; rwa [show (19 : Int) + (5 + (p : Int)) = 24 + p by omega] at e, h.2.1, h.2.2⟩
section ME
variable {G : AG} {d : Nat} {M : AM}
theorem c_Md_goesHour {h : Hl} {m : Mo} {set : Nat} (hd : 10 ≤ d) (ok : HlOK h) (mok : MoOK m) (hH : MH (M 118) h) (hm : MRow (fun y => M 118 (19 + y)) h.P m) (hset : set < 32) (hh : m.hrs < 1000000000) :
    MS G d mi_Md_goesHour [vr 117, vi set] M (fun r M' => r = none ∧ MRow (fun y => M' 118 (19 + y)) h.P (hourM h m set) ∧ MFr M M') := by
  have hP := ok.1
  have hsd := hm.sd mok
  have hst := hm.st mok
  have hcold : M 118 29 = m.cold := hm.2.1
  have hlt := cod_100k ok mok
  refine MS.run ck_Md_goesHour [some (vr 117), some (vi set)] [] 10 fun _ _ => ?_
  simp only [wR, wB, wE0, wE1, wE2, wE3, g0, gS, s10, s11, s1S, s20, s21, s2S, kl0, kl1, kl2, kl3, sp0, sp1, sp2, sp3, cn1, cn2, cn3, cn4, cn5, cn6, jJa, lk0, lk1, jmS, jmN, s4_0, s4_1, s4_2, s4_3, s4_4, sw0, sw1, cKs, cKn, true_and, and_true, List.map_cons, List.map_nil, Nat.reduceAdd, Nat.zero_add, Int.reduceAdd, Nat.reduceEqDiff, reduceIte, Classical.not_not, b_Md_goesHour, shMd]
  refine ⟨by omega, MS.to (c_Md_standNow hH.2.1 hP hst) fun _ => ?_⟩
  simp only [wR, wB, wE0, wE1, wE2, wE3, g0, gS, s10, s11, s1S, s20, s21, s2S, kl0, kl1, kl2, kl3, sp0, sp1, sp2, sp3, cn1, cn2, cn3, cn4, cn5, cn6, jJa, lk0, lk1, jmS, jmN, s4_0, s4_1, s4_2, s4_3, s4_4, sw0, sw1, cKs, cKn, true_and, and_true, List.map_cons, List.map_nil, Nat.reduceAdd, Nat.zero_add, Int.reduceAdd, Nat.reduceEqDiff, reduceIte, Classical.not_not, b_Md_goesHour, shMd, hcold]
  refine ⟨by omega, by omega, (c_Md_hourTo (d := d - 1) (sd := m.sd) (s := cod m.st h.P) (by omega) ok hH hsd (by omega) hset mok.2).mono ?_⟩
  rintro r M1 okM1 ⟨rfl, s1⟩
  have e118 : M1 118 = M 118 := s1 118 (by (first | decide | (simp only [List.mem_cons, List.not_mem_nil, or_false, not_or, not_false_eq_true, and_true]; omega) | (simp [List.mem_cons]; done)))
  simp only [wR, wB, wE0, wE1, wE2, wE3, g0, gS, s10, s11, s1S, s20, s21, s2S, kl0, kl1, kl2, kl3, sp0, sp1, sp2, sp3, cn1, cn2, cn3, cn4, cn5, cn6, jJa, lk0, lk1, jmS, jmN, s4_0, s4_1, s4_2, s4_3, s4_4, sw0, sw1, cKs, cKn, true_and, and_true, List.map_cons, List.map_nil, Nat.reduceAdd, Nat.zero_add, Int.reduceAdd, Nat.reduceEqDiff, reduceIte, Classical.not_not, b_Md_goesHour, shMd]
  refine ⟨by omega, MS.to (c_Md_isStand (d := d - 1) (by omega) (by rw [e118]; exact hH.2.1) hP) fun _ => ?_⟩
  generalize hs : nxt h m.sd m.cold (cod m.st h.P) set = s
  have hdig : ∀ p, p < h.P → dig s p = tired h m.sd m.cold set p (m.st p) := by
    intro p hp
    rw [← hs]
    unfold nxt
    rw [dig_cod0 (fun p _ => tired_le _ _ _ _ _ _), if_pos hp, dig_cod0 (fun p _ => (mok.1 p).2), if_pos hp]
  have e30 : laySt M1 s h.P 118 30 = m.hrs := by
    unfold laySt
    rw [if_neg (by omega), e118]
    exact hm.2.2
  simp only [wR, wB, wE0, wE1, wE2, wE3, g0, gS, s10, s11, s1S, s20, s21, s2S, kl0, kl1, kl2, kl3, sp0, sp1, sp2, sp3, cn1, cn2, cn3, cn4, cn5, cn6, jJa, lk0, lk1, jmS, jmN, s4_0, s4_1, s4_2, s4_3, s4_4, sw0, sw1, cKs, cKn, true_and, and_true, List.map_cons, List.map_nil, Nat.reduceAdd, Nat.zero_add, Int.reduceAdd, Nat.reduceEqDiff, reduceIte, Classical.not_not, b_Md_goesHour, shMd, e30]
  obtain ⟨g1, g2, g3, g4⟩ := hm.g
  (repeat' (first | omega | exact ⟨by omega, by omega⟩ | (with_reducible exact Or.inr trivial) | (with_reducible exact Or.inl trivial) | (with_reducible assumption) | (with_reducible exact Same.refl) | (with_reducible rfl) | (with_reducible refine And.intro ?_ ?_) | (with_reducible intro _)))
  · refine MRow19 (fun p hp => ?_) (fun p hp => ?_) ?_ ?_
    · rw [up_ne2 (by omega)]
      unfold laySt
      rw [if_neg (by omega), e118]
      exact g1 p hp
    · rw [up_ne2 (by omega)]
      unfold laySt
      rw [if_pos (by omega), show (24 + (p : Int) - 24).toNat = p by omega, hdig p hp]
      rfl
    · rw [up_ne2 (by omega)]
      unfold laySt
      rw [if_neg (by omega), e118]
      exact g3
    · rw [up_eq]
      rfl
  · refine ⟨?_, ?_⟩
    · refine (s1.mono (by simp)).trans ?_
      intro x hx
      simp only [List.mem_cons, List.not_mem_nil, or_false, not_or] at hx
      funext y
      rw [up_ne1 (by omega)]
      unfold laySt
      rw [if_neg (by omega)]
    · intro y hy
      rw [up_ne2 (by omega)]
      unfold laySt
      rw [if_neg (by omega), e118]
theorem c_Md_whyNot {P : Nat} {m : Mo} {v : Int} (hd : 10 ≤ d) (hP : M 118 1 = P) (hP5 : P ≤ 5) (hst : MSt (M 118) P m.st) : MS G d mi_Md_whyNot [vr 117, vl v] M (fun r M' => r = some (vi (whyD P m v)) ∧ M' = M) := by
  refine MS.run ck_Md_whyNot [some (vr 117), some (vl v), none] [] 10 fun _ _ => ?_
  simp only [wR, wB, wE0, wE1, wE2, wE3, g0, gS, s10, s11, s1S, s20, s21, s2S, kl0, kl1, kl2, kl3, sp0, sp1, sp2, sp3, cn1, cn2, cn3, cn4, cn5, cn6, jJa, lk0, lk1, jmS, jmN, s4_0, s4_1, s4_2, s4_3, s4_4, sw0, sw1, cKs, cKn, true_and, and_true, List.map_cons, List.map_nil, Nat.reduceAdd, Nat.zero_add, Int.reduceAdd, Nat.reduceEqDiff, reduceIte, Classical.not_not, b_Md_whyNot, shMd]
  refine ⟨by omega, MS.to c_Md_within fun _ => ?_⟩
  unfold whyD
  by_cases q : 0 ≤ v ∧ v ≤ 31
  · rw [if_pos q, if_pos q]
    simp only [wR, wB, wE0, wE1, wE2, wE3, g0, gS, s10, s11, s1S, s20, s21, s2S, kl0, kl1, kl2, kl3, sp0, sp1, sp2, sp3, cn1, cn2, cn3, cn4, cn5, cn6, jJa, lk0, lk1, jmS, jmN, s4_0, s4_1, s4_2, s4_3, s4_4, sw0, sw1, cKs, cKn, true_and, and_true, List.map_cons, List.map_nil, Nat.reduceAdd, Nat.zero_add, Int.reduceAdd, Nat.reduceEqDiff, reduceIte, Classical.not_not, b_Md_whyNot, shMd, up_rd, Int.reduceEq, and_false, false_and, and_self, reduceIte, not_true_eq_false, not_false_eq_true, false_imp_iff, true_imp_iff, true_or, or_true]
    refine ⟨by omega, MS.to (c_Md_whySet (d := d - 1) (by omega) hP hP5 hst) fun _ => ?_⟩
    simp only [wR, wB, wE0, wE1, wE2, wE3, g0, gS, s10, s11, s1S, s20, s21, s2S, kl0, kl1, kl2, kl3, sp0, sp1, sp2, sp3, cn1, cn2, cn3, cn4, cn5, cn6, jJa, lk0, lk1, jmS, jmN, s4_0, s4_1, s4_2, s4_3, s4_4, sw0, sw1, cKs, cKn, true_and, and_true, List.map_cons, List.map_nil, Nat.reduceAdd, Nat.zero_add, Int.reduceAdd, Nat.reduceEqDiff, reduceIte, Classical.not_not, b_Md_whyNot]
  · rw [if_neg q, if_neg q]
    simp only [wR, wB, wE0, wE1, wE2, wE3, g0, gS, s10, s11, s1S, s20, s21, s2S, kl0, kl1, kl2, kl3, sp0, sp1, sp2, sp3, cn1, cn2, cn3, cn4, cn5, cn6, jJa, lk0, lk1, jmS, jmN, s4_0, s4_1, s4_2, s4_3, s4_4, sw0, sw1, cKs, cKn, true_and, and_true, List.map_cons, List.map_nil, Nat.reduceAdd, Nat.zero_add, Int.reduceAdd, Nat.reduceEqDiff, reduceIte, Classical.not_not, b_Md_whyNot, shMd, up_rd, Int.reduceEq, and_false, false_and, and_self, reduceIte, not_true_eq_false, not_false_eq_true, false_imp_iff, true_imp_iff, true_or, or_true]
    refine ⟨by omega, MS.to c_Md_within fun _ => ?_⟩
    by_cases q2 : 40 ≤ v ∧ v ≤ 59
    · rw [if_pos q2, if_pos q2]
      simp only [wR, wB, wE0, wE1, wE2, wE3, g0, gS, s10, s11, s1S, s20, s21, s2S, kl0, kl1, kl2, kl3, sp0, sp1, sp2, sp3, cn1, cn2, cn3, cn4, cn5, cn6, jJa, lk0, lk1, jmS, jmN, s4_0, s4_1, s4_2, s4_3, s4_4, sw0, sw1, cKs, cKn, true_and, and_true, List.map_cons, List.map_nil, Nat.reduceAdd, Nat.zero_add, Int.reduceAdd, Nat.reduceEqDiff, reduceIte, Classical.not_not, b_Md_whyNot, shMd, up_rd, Int.reduceEq, and_false, false_and, and_self, reduceIte, not_true_eq_false, not_false_eq_true, false_imp_iff, true_imp_iff, true_or, or_true]
      (repeat' (first | omega | (with_reducible exact True.intro) | exact ⟨by omega, by omega⟩ | (with_reducible exact Or.inr trivial) | (with_reducible exact Or.inl trivial) | (with_reducible assumption) | (with_reducible exact Same.refl) | (with_reducible rfl) | (with_reducible refine And.intro ?_ ?_) | (with_reducible intro _)))
      refine MS.to (c_Md_isPerson (d := d - 1) (by omega) hP hP5) fun _ => ?_
      by_cases q3 : v % 10 < (P : Int)
      · rw [if_pos q3, if_pos (by omega)]
        simp only [wR, wB, wE0, wE1, wE2, wE3, g0, gS, s10, s11, s1S, s20, s21, s2S, kl0, kl1, kl2, kl3, sp0, sp1, sp2, sp3, cn1, cn2, cn3, cn4, cn5, cn6, jJa, lk0, lk1, jmS, jmN, s4_0, s4_1, s4_2, s4_3, s4_4, sw0, sw1, cKs, cKn, true_and, and_true, List.map_cons, List.map_nil, Nat.reduceAdd, Nat.zero_add, Int.reduceAdd, Nat.reduceEqDiff, reduceIte, Classical.not_not, b_Md_whyNot, up_rd, Int.reduceEq, and_false, false_and, and_self, reduceIte, not_true_eq_false, not_false_eq_true, false_imp_iff, true_imp_iff, true_or, or_true]
      · rw [if_neg q3, if_neg (by omega)]
        simp only [wR, wB, wE0, wE1, wE2, wE3, g0, gS, s10, s11, s1S, s20, s21, s2S, kl0, kl1, kl2, kl3, sp0, sp1, sp2, sp3, cn1, cn2, cn3, cn4, cn5, cn6, jJa, lk0, lk1, jmS, jmN, s4_0, s4_1, s4_2, s4_3, s4_4, sw0, sw1, cKs, cKn, true_and, and_true, List.map_cons, List.map_nil, Nat.reduceAdd, Nat.zero_add, Int.reduceAdd, Nat.reduceEqDiff, reduceIte, Classical.not_not, b_Md_whyNot, up_rd, Int.reduceEq, and_false, false_and, and_self, reduceIte, not_true_eq_false, not_false_eq_true, false_imp_iff, true_imp_iff, true_or, or_true]
    · rw [if_neg q2, if_neg q2]
      simp only [wR, wB, wE0, wE1, wE2, wE3, g0, gS, s10, s11, s1S, s20, s21, s2S, kl0, kl1, kl2, kl3, sp0, sp1, sp2, sp3, cn1, cn2, cn3, cn4, cn5, cn6, jJa, lk0, lk1, jmS, jmN, s4_0, s4_1, s4_2, s4_3, s4_4, sw0, sw1, cKs, cKn, true_and, and_true, List.map_cons, List.map_nil, Nat.reduceAdd, Nat.zero_add, Int.reduceAdd, Nat.reduceEqDiff, reduceIte, Classical.not_not, b_Md_whyNot, shMd, up_rd, Int.reduceEq, and_false, false_and, and_self, reduceIte, not_true_eq_false, not_false_eq_true, false_imp_iff, true_imp_iff, true_or, or_true]
      refine ⟨by omega, MS.to c_Md_within fun _ => ?_⟩
      by_cases q3 : 60 ≤ v ∧ v ≤ 69
      · rw [if_pos q3, if_pos q3]
        simp only [wR, wB, wE0, wE1, wE2, wE3, g0, gS, s10, s11, s1S, s20, s21, s2S, kl0, kl1, kl2, kl3, sp0, sp1, sp2, sp3, cn1, cn2, cn3, cn4, cn5, cn6, jJa, lk0, lk1, jmS, jmN, s4_0, s4_1, s4_2, s4_3, s4_4, sw0, sw1, cKs, cKn, true_and, and_true, List.map_cons, List.map_nil, Nat.reduceAdd, Nat.zero_add, Int.reduceAdd, Nat.reduceEqDiff, reduceIte, Classical.not_not, b_Md_whyNot, up_rd, Int.reduceEq, and_false, false_and, and_self, reduceIte, not_true_eq_false, not_false_eq_true, false_imp_iff, true_imp_iff, true_or, or_true]
      · rw [if_neg q3, if_neg q3]
        simp only [wR, wB, wE0, wE1, wE2, wE3, g0, gS, s10, s11, s1S, s20, s21, s2S, kl0, kl1, kl2, kl3, sp0, sp1, sp2, sp3, cn1, cn2, cn3, cn4, cn5, cn6, jJa, lk0, lk1, jmS, jmN, s4_0, s4_1, s4_2, s4_3, s4_4, sw0, sw1, cKs, cKn, true_and, and_true, List.map_cons, List.map_nil, Nat.reduceAdd, Nat.zero_add, Int.reduceAdd, Nat.reduceEqDiff, reduceIte, Classical.not_not, b_Md_whyNot, up_rd, Int.reduceEq, and_false, false_and, and_self, reduceIte, not_true_eq_false, not_false_eq_true, false_imp_iff, true_imp_iff, true_or, or_true]
theorem c_Md_does {h : Hl} {m : Mo} {v : Nat} (hd : 15 ≤ d) (ok : HlOK h) (mok : MoOK m) (hH : MH (M 118) h) (hm : MRow (fun y => M 118 (19 + y)) h.P m) (hv : whyD h.P m v = 0) (hh : m.hrs < 1000000000) :
    MS G d mi_Md_does [vr 117, vi v] M (fun r M' => r = none ∧ MRow (fun y => M' 118 (19 + y)) h.P (doD h m v) ∧ MFr M M') := by
  have hP := ok.1
  obtain ⟨g1, g2, g3, g4⟩ := hm.g
  unfold whyD at hv
  unfold doD
  refine MS.run ck_Md_does [some (vr 117), some (vi v), none] [] 10 fun _ _ => ?_
  by_cases q : v < 32
  · rw [if_pos (by omega), Int.toNat_natCast]
    simp only [wR, wB, wE0, wE1, wE2, wE3, g0, gS, s10, s11, s1S, s20, s21, s2S, kl0, kl1, kl2, kl3, sp0, sp1, sp2, sp3, cn1, cn2, cn3, cn4, cn5, cn6, jJa, lk0, lk1, jmS, jmN, s4_0, s4_1, s4_2, s4_3, s4_4, sw0, sw1, cKs, cKn, true_and, and_true, List.map_cons, List.map_nil, Nat.reduceAdd, Nat.zero_add, Int.reduceAdd, Nat.reduceEqDiff, reduceIte, Classical.not_not, b_Md_does, shMd]
    (repeat' (first | omega | exact ⟨by omega, by omega⟩ | (with_reducible exact Or.inr trivial) | (with_reducible exact Or.inl trivial) | (with_reducible assumption) | (with_reducible exact Same.refl) | (with_reducible rfl) | (with_reducible refine And.intro ?_ ?_) | (with_reducible intro _)))
    refine (c_Md_goesHour (d := d - 1) (by omega) ok mok hH hm q hh).mono ?_
    rintro r M1 okM1 ⟨rfl, t1, t2⟩
    simp only [wR, wB, wE0, wE1, wE2, wE3, g0, gS, s10, s11, s1S, s20, s21, s2S, kl0, kl1, kl2, kl3, sp0, sp1, sp2, sp3, cn1, cn2, cn3, cn4, cn5, cn6, jJa, lk0, lk1, jmS, jmN, s4_0, s4_1, s4_2, s4_3, s4_4, sw0, sw1, cKs, cKn, true_and, and_true, List.map_cons, List.map_nil, Nat.reduceAdd, Nat.zero_add, Int.reduceAdd, Nat.reduceEqDiff, reduceIte, Classical.not_not, b_Md_does]
    exact ⟨t1, t2⟩
  · rw [if_neg (by omega)] at hv ⊢
    have ep : (v : Int) % 10 = ((v % 10 : Nat) : Int) := by omega
    have hv70 : v ≤ 69 ∧ 40 ≤ v := by
      by_cases a : 40 ≤ (v : Int) ∧ (v : Int) ≤ 59
      · omega
      · rw [if_neg a] at hv
        by_cases b : 60 ≤ (v : Int) ∧ (v : Int) ≤ 69
        · omega
        · rw [if_neg b] at hv; omega
    by_cases q2 : v < 60
    · rw [if_pos (by omega)] at hv
      have hp : v % 10 < h.P := by
        by_cases a : (v : Int) % 10 < (h.P : Int)
        · omega
        · rw [if_neg a] at hv; omega
      have hsd := g1 (v % 10) hp
      have hs1 := (mok.1 (v % 10)).1
      by_cases q3 : v < 50
      · rw [if_pos (by omega), ep, Int.toNat_natCast]
        simp only [wR, wB, wE0, wE1, wE2, wE3, g0, gS, s10, s11, s1S, s20, s21, s2S, kl0, kl1, kl2, kl3, sp0, sp1, sp2, sp3, cn1, cn2, cn3, cn4, cn5, cn6, jJa, lk0, lk1, jmS, jmN, s4_0, s4_1, s4_2, s4_3, s4_4, sw0, sw1, cKs, cKn, true_and, and_true, List.map_cons, List.map_nil, Nat.reduceAdd, Nat.zero_add, Int.reduceAdd, Nat.reduceEqDiff, reduceIte, Classical.not_not, b_Md_does, shMd, ep, hsd]
        have fin : MRow (fun y => up M 118 (19 + ((v % 10 : Nat) : Int)) (1 - (m.sd (v % 10) : Int)) 118 (19 + y)) h.P (m.flip (v % 10)) := by
          refine MRow19 (fun p hp' => ?_) (fun p hp' => ?_) ?_ ?_
          · rw [flip_sd]
            by_cases e : p = v % 10
            · subst e
              rw [up_eq, if_pos rfl]; omega
            · rw [up_ne2 (by omega), if_neg e]; exact g1 p hp'
          · rw [up_ne2 (by omega)]; exact g2 p hp'
          · rw [up_ne2 (by omega)]; exact g3
          · rw [up_ne2 (by omega)]; exact g4
        have ffr : MFr M (up M 118 (19 + ((v % 10 : Nat) : Int)) (1 - (m.sd (v % 10) : Int))) := ⟨Same.refl.up (by simp), fun y hy => up_ne2 (by omega)⟩
        (repeat' (first | omega | exact ⟨by omega, by omega⟩ | (with_reducible exact Or.inr trivial) | (with_reducible exact Or.inl trivial) | (with_reducible assumption) | (with_reducible exact Same.refl) | (with_reducible rfl) | (with_reducible refine And.intro ?_ ?_) | (with_reducible intro _)))
      · rw [if_neg (by omega), if_pos (by omega), ep, Int.toNat_natCast]
        simp only [wR, wB, wE0, wE1, wE2, wE3, g0, gS, s10, s11, s1S, s20, s21, s2S, kl0, kl1, kl2, kl3, sp0, sp1, sp2, sp3, cn1, cn2, cn3, cn4, cn5, cn6, jJa, lk0, lk1, jmS, jmN, s4_0, s4_1, s4_2, s4_3, s4_4, sw0, sw1, cKs, cKn, true_and, and_true, List.map_cons, List.map_nil, Nat.reduceAdd, Nat.zero_add, Int.reduceAdd, Nat.reduceEqDiff, reduceIte, Classical.not_not, b_Md_does, shMd, ep]
        have fin : MRow (fun y => up M 118 (24 + ((v % 10 : Nat) : Int)) 4 118 (19 + y)) h.P (m.soup (v % 10)) := by
          refine MRow19 (fun p hp' => ?_) (fun p hp' => ?_) ?_ ?_
          · rw [up_ne2 (by omega)]; exact g1 p hp'
          · show _ = ((if p = v % 10 then 4 else m.st p : Nat) : Int)
            by_cases e : p = v % 10
            · subst e
              rw [up_eq, if_pos rfl]; rfl
            · rw [up_ne2 (by omega), if_neg e]; exact g2 p hp'
          · rw [up_ne2 (by omega)]; exact g3
          · rw [up_ne2 (by omega)]; exact g4
        have ffr : MFr M (up M 118 (24 + ((v % 10 : Nat) : Int)) 4) := ⟨Same.refl.up (by simp), fun y hy => up_ne2 (by omega)⟩
        (repeat' (first | omega | exact ⟨by omega, by omega⟩ | (with_reducible exact Or.inr trivial) | (with_reducible exact Or.inl trivial) | (with_reducible assumption) | (with_reducible exact Same.refl) | (with_reducible rfl) | (with_reducible refine And.intro ?_ ?_) | (with_reducible intro _)))
    · rw [if_neg (by omega), if_neg (by omega), ep, Int.toNat_natCast]
      simp only [wR, wB, wE0, wE1, wE2, wE3, g0, gS, s10, s11, s1S, s20, s21, s2S, kl0, kl1, kl2, kl3, sp0, sp1, sp2, sp3, cn1, cn2, cn3, cn4, cn5, cn6, jJa, lk0, lk1, jmS, jmN, s4_0, s4_1, s4_2, s4_3, s4_4, sw0, sw1, cKs, cKn, true_and, and_true, List.map_cons, List.map_nil, Nat.reduceAdd, Nat.zero_add, Int.reduceAdd, Nat.reduceEqDiff, reduceIte, Classical.not_not, b_Md_does, shMd, ep]
      have fin : MRow (fun y => up M 118 29 ((v % 10 : Nat) : Int) 118 (19 + y)) h.P (m.chill (v % 10)) := by
        refine MRow19 (fun p hp' => ?_) (fun p hp' => ?_) ?_ ?_
        · rw [up_ne2 (by omega)]; exact g1 p hp'
        · rw [up_ne2 (by omega)]; exact g2 p hp'
        · rw [up_eq]; rfl
        · rw [up_ne2 (by omega)]; exact g4
      have ffr : MFr M (up M 118 29 ((v % 10 : Nat) : Int)) := ⟨Same.refl.up (by simp), fun y hy => up_ne2 (by omega)⟩
      (repeat' (first | omega | exact ⟨by omega, by omega⟩ | (with_reducible exact Or.inr trivial) | (with_reducible exact Or.inl trivial) | (with_reducible assumption) | (with_reducible exact Same.refl) | (with_reducible rfl) | (with_reducible refine And.intro ?_ ?_) | (with_reducible intro _)))
end ME
