/-! what the model answers of people and sets -/
theorem nc3 : ((3 : Nat) : Int) = 3 := rfl
theorem nc5 : ((5 : Nat) : Int) = 5 := rfl
theorem nc10 : ((10 : Nat) : Int) = 10 := rfl
theorem nc39 : ((39 : Nat) : Int) = 39 := rfl
theorem Lo.trans {M N K : AM} (h : Lo M N) (h2 : Lo N K) : Lo M K := fun x hx => (h2 x hx).trans (h x hx)
theorem Hi.trans {M N K : AM} (h : Hi M N) (h2 : Hi N K) : Hi M K := fun x hx => (h2 x hx).trans (h x hx)
theorem Same.lo {M N : AM} {ps : List Int} (h : Same ps M N) (hp : ∀ x ∈ ps, 117 ≤ x) : Lo M N := fun x hx => h x (fun q => by have := hp x q; omega)
theorem MR.thr {M : AM} {σ : Sg} (h : MR M σ) : MR (up M 117 0 0) σ := h.eq (up_ne2 (by omega)) (up_ne2 (by omega)) (up_ne2 (by omega)) (fun x hx => by funext y; exact up_ne1 (by omega))
theorem thr_lo {M : AM} : Lo M (up M 117 0 0) := fun x hx => by funext y; exact up_ne1 (by omega)
theorem MR.ww {M N : AM} {σ : Sg} (h : MR M σ) (hs : Same [122, 123] M N) : MR N σ := h.eq (hs.at 117 _ (by (first | decide | (simp only [List.mem_cons, List.not_mem_nil, or_false, not_or, not_false_eq_true, and_true]; omega) | (simp [List.mem_cons]; done)))) (hs.at 117 _ (by (first | decide | (simp only [List.mem_cons, List.not_mem_nil, or_false, not_or, not_false_eq_true, and_true]; omega) | (simp [List.mem_cons]; done)))) (hs.at 117 _ (by (first | decide | (simp only [List.mem_cons, List.not_mem_nil, or_false, not_or, not_false_eq_true, and_true]; omega) | (simp [List.mem_cons]; done)))) (fun x hx => hs x (by (first | decide | (simp only [List.mem_cons, List.not_mem_nil, or_false, not_or, not_false_eq_true, and_true]; omega) | (simp [List.mem_cons]; done))))
theorem ww_lo {M N : AM} (hs : Same [122, 123] M N) : Lo M N := hs.lo (by intro x hx; simp only [List.mem_cons, List.not_mem_nil, or_false] at hx; omega)
theorem cnts_cod {h : Hl} {sd st : Nat → Nat} {cold p : Nat} (hst : ∀ p, st p ≤ 4) (hp : p < h.P) : cnts h sd cold p (dig (cod st h.P) p) = cnts h sd cold p (st p) := by
  rw [dig_cod0 (fun p _ => hst p), if_pos hp]
theorem hands_cod {h : Hl} {m : Mo} {set side : Nat} (ok : MoOK m) : hands h m.sd m.cold (cod m.st h.P) set side = handsM h m set side := by
  refine cntP_congr _ (fun p hp => ?_)
  rw [cnts_cod (fun p => (ok.1 p).2) hp]
theorem stood_cod {h : Hl} {m : Mo} {set : Nat} (ok : MoOK m) : stood h m.sd m.cold (cod m.st h.P) set = stoodM h m set := by
  unfold stood stoodM
  rw [hands_cod ok, hands_cod ok]
theorem cod_100k {h : Hl} {m : Mo} (ok : HlOK h) (mok : MoOK m) : cod m.st h.P < 3125 := cod_lt ok.1 (fun p _ => (mok.1 p).2)
section MQ2
variable {G : AG} {d : Nat} {M : AM}
theorem c_Md_person {p what : Int} {B : Nat} {σ : Sg} (hd : 20 ≤ d) (ok : SgOK B σ) (hR : MR M σ) : MS G d mi_Md_person [vr 117, vi p, vi what] M (fun r M' => r = some (vi (aPerson σ p what)) ∧ MR M' σ ∧ Lo M M') := by
  have hR' := hR.thr
  have hP := ok.2.2.1.1
  have mok := ok.2.2.2.1.1
  obtain ⟨-, -, hH, hm, -⟩ := id hR'
  have hsd := hm.sd mok
  have hst := hm.st mok
  refine MS.by ck_Md_person [some (vr 117), some (vi p), some (vi what)] fun _ _ => ?_
  refine AW.run ck_Md_person [17] 10 0 ?_
  simp only [wR, wB, wE0, wE1, wE2, wE3, g0, gS, s10, s11, s1S, s20, s21, s2S, kl0, kl1, kl2, kl3, sp0, sp1, sp2, sp3, cn1, cn2, cn3, cn4, cn5, cn6, jJa, lk0, lk1, jmS, jmN, s4_0, s4_1, s4_2, s4_3, s4_4, sw0, sw1, cKs, cKn, true_and, and_true, List.map_cons, List.map_nil, Nat.reduceAdd, Nat.zero_add, Int.reduceAdd, Nat.reduceEqDiff, reduceIte, Classical.not_not, b_Md_person, shMd]
  have hlo : Lo M (up M 117 0 0) := thr_lo
  generalize up M 117 0 0 = N at hR' hH hm hsd hst hlo ⊢
  refine ⟨by omega, MS.to (c_Md_isPerson (by omega) hH.2.1 hP) fun _ => ?_⟩
  simp only [wR, wB, wE0, wE1, wE2, wE3, g0, gS, s10, s11, s1S, s20, s21, s2S, kl0, kl1, kl2, kl3, sp0, sp1, sp2, sp3, cn1, cn2, cn3, cn4, cn5, cn6, jJa, lk0, lk1, jmS, jmN, s4_0, s4_1, s4_2, s4_3, s4_4, sw0, sw1, cKs, cKn, true_and, and_true, List.map_cons, List.map_nil, Nat.reduceAdd, Nat.zero_add, Int.reduceAdd, Nat.reduceEqDiff, reduceIte, Classical.not_not, b_Md_person, shMd]
  by_cases hp : 0 ≤ p ∧ p < σ.h.P
  · rw [if_pos hp]
    obtain ⟨n, rfl⟩ := Int.eq_ofNat_of_zero_le hp.1
    have hn : n < σ.h.P := by omega
    (repeat' (first | omega | exact ⟨by omega, by omega⟩ | (with_reducible exact Or.inr trivial) | (with_reducible exact Or.inl trivial) | (with_reducible assumption) | (with_reducible exact Same.refl) | (with_reducible rfl) | (with_reducible refine And.intro ?_ ?_) | (with_reducible intro _)))
    by_cases hw : what = 0 ∨ what = 1 ∨ what = 2 ∨ what = 3 ∨ what = 4
    · have ea : aPerson σ n what = if what = 0 then (σ.m.sd n : Int) else if what = 1 then (σ.m.st n : Int) else if what = 2 then (σ.h.wt n : Int) else if what = 3 then (σ.h.rd n : Int) else if cnts σ.h σ.m.sd σ.m.cold n (σ.m.st n) = true then 1 else 0 := by
        unfold aPerson
        rw [if_neg (by omega), Int.toNat_natCast]
      rw [ea]
      refine AW.run ck_Md_person [] 10 17 ?_
      rcases hw with rfl | rfl | rfl | rfl | rfl
      · simp only [wR, wB, wE0, wE1, wE2, wE3, g0, gS, s10, s11, s1S, s20, s21, s2S, kl0, kl1, kl2, kl3, sp0, sp1, sp2, sp3, cn1, cn2, cn3, cn4, cn5, cn6, jJa, lk0, lk1, jmS, jmN, s4_0, s4_1, s4_2, s4_3, s4_4, sw0, sw1, cKs, cKn, true_and, and_true, List.map_cons, List.map_nil, Nat.reduceAdd, Nat.zero_add, Int.reduceAdd, Nat.reduceEqDiff, reduceIte, Classical.not_not, b_Md_person, shMd, List.length_cons, List.length_nil, Int.reduceLT, Int.reduceLE, nc3, nc5, nc10, nc39, or_self, or_false, false_or, up_rd, Int.reduceEq, and_false, false_and, and_self, reduceIte, not_true_eq_false, not_false_eq_true, false_imp_iff, true_imp_iff, true_or, or_true, (hsd n hn).1]
        (repeat' (first | omega | exact ⟨by omega, by omega⟩ | (with_reducible exact Or.inr trivial) | (with_reducible exact Or.inl trivial) | (with_reducible assumption) | (with_reducible exact Same.refl) | (with_reducible rfl) | (with_reducible refine And.intro ?_ ?_) | (with_reducible intro _)))
      · simp only [wR, wB, wE0, wE1, wE2, wE3, g0, gS, s10, s11, s1S, s20, s21, s2S, kl0, kl1, kl2, kl3, sp0, sp1, sp2, sp3, cn1, cn2, cn3, cn4, cn5, cn6, jJa, lk0, lk1, jmS, jmN, s4_0, s4_1, s4_2, s4_3, s4_4, sw0, sw1, cKs, cKn, true_and, and_true, List.map_cons, List.map_nil, Nat.reduceAdd, Nat.zero_add, Int.reduceAdd, Nat.reduceEqDiff, reduceIte, Classical.not_not, b_Md_person, shMd, List.length_cons, List.length_nil, Int.reduceLT, Int.reduceLE, nc3, nc5, nc10, nc39, or_self, or_false, false_or, up_rd, Int.reduceEq, and_false, false_and, and_self, reduceIte, not_true_eq_false, not_false_eq_true, false_imp_iff, true_imp_iff, true_or, or_true, (hst n hn).1]
        (repeat' (first | omega | exact ⟨by omega, by omega⟩ | (with_reducible exact Or.inr trivial) | (with_reducible exact Or.inl trivial) | (with_reducible assumption) | (with_reducible exact Same.refl) | (with_reducible rfl) | (with_reducible refine And.intro ?_ ?_) | (with_reducible intro _)))
      · simp only [wR, wB, wE0, wE1, wE2, wE3, g0, gS, s10, s11, s1S, s20, s21, s2S, kl0, kl1, kl2, kl3, sp0, sp1, sp2, sp3, cn1, cn2, cn3, cn4, cn5, cn6, jJa, lk0, lk1, jmS, jmN, s4_0, s4_1, s4_2, s4_3, s4_4, sw0, sw1, cKs, cKn, true_and, and_true, List.map_cons, List.map_nil, Nat.reduceAdd, Nat.zero_add, Int.reduceAdd, Nat.reduceEqDiff, reduceIte, Classical.not_not, b_Md_person, shMd, List.length_cons, List.length_nil, Int.reduceLT, Int.reduceLE, nc3, nc5, nc10, nc39, or_self, or_false, false_or, up_rd, Int.reduceEq, and_false, false_and, and_self, reduceIte, not_true_eq_false, not_false_eq_true, false_imp_iff, true_imp_iff, true_or, or_true, (hH.2.2.2.1 n hn).1]
        (repeat' (first | omega | exact ⟨by omega, by omega⟩ | (with_reducible exact Or.inr trivial) | (with_reducible exact Or.inl trivial) | (with_reducible assumption) | (with_reducible exact Same.refl) | (with_reducible rfl) | (with_reducible refine And.intro ?_ ?_) | (with_reducible intro _)))
      · simp only [wR, wB, wE0, wE1, wE2, wE3, g0, gS, s10, s11, s1S, s20, s21, s2S, kl0, kl1, kl2, kl3, sp0, sp1, sp2, sp3, cn1, cn2, cn3, cn4, cn5, cn6, jJa, lk0, lk1, jmS, jmN, s4_0, s4_1, s4_2, s4_3, s4_4, sw0, sw1, cKs, cKn, true_and, and_true, List.map_cons, List.map_nil, Nat.reduceAdd, Nat.zero_add, Int.reduceAdd, Nat.reduceEqDiff, reduceIte, Classical.not_not, b_Md_person, shMd, List.length_cons, List.length_nil, Int.reduceLT, Int.reduceLE, nc3, nc5, nc10, nc39, or_self, or_false, false_or, up_rd, Int.reduceEq, and_false, false_and, and_self, reduceIte, not_true_eq_false, not_false_eq_true, false_imp_iff, true_imp_iff, true_or, or_true, (hH.2.2.2.1 n hn).2]
        (repeat' (first | omega | exact ⟨by omega, by omega⟩ | (with_reducible exact Or.inr trivial) | (with_reducible exact Or.inl trivial) | (with_reducible assumption) | (with_reducible exact Same.refl) | (with_reducible rfl) | (with_reducible refine And.intro ?_ ?_) | (with_reducible intro _)))
      · simp only [wR, wB, wE0, wE1, wE2, wE3, g0, gS, s10, s11, s1S, s20, s21, s2S, kl0, kl1, kl2, kl3, sp0, sp1, sp2, sp3, cn1, cn2, cn3, cn4, cn5, cn6, jJa, lk0, lk1, jmS, jmN, s4_0, s4_1, s4_2, s4_3, s4_4, sw0, sw1, cKs, cKn, true_and, and_true, List.map_cons, List.map_nil, Nat.reduceAdd, Nat.zero_add, Int.reduceAdd, Nat.reduceEqDiff, reduceIte, Classical.not_not, b_Md_person, shMd, List.length_cons, List.length_nil, Int.reduceLT, Int.reduceLE, nc3, nc5, nc10, nc39, or_self, or_false, false_or, up_rd, Int.reduceEq, and_false, false_and, and_self, reduceIte, not_true_eq_false, not_false_eq_true, false_imp_iff, true_imp_iff, true_or, or_true]
        refine ⟨by omega, MS.to (c_Md_standNow hH.2.1 hP hst) fun _ => ?_⟩
        simp only [wR, wB, wE0, wE1, wE2, wE3, g0, gS, s10, s11, s1S, s20, s21, s2S, kl0, kl1, kl2, kl3, sp0, sp1, sp2, sp3, cn1, cn2, cn3, cn4, cn5, cn6, jJa, lk0, lk1, jmS, jmN, s4_0, s4_1, s4_2, s4_3, s4_4, sw0, sw1, cKs, cKn, true_and, and_true, List.map_cons, List.map_nil, Nat.reduceAdd, Nat.zero_add, Int.reduceAdd, Nat.reduceEqDiff, reduceIte, Classical.not_not, b_Md_person, shMd, List.length_cons, List.length_nil, Int.reduceLT, Int.reduceLE, nc3, nc5, nc10, nc39, or_self, or_false, false_or, up_rd, Int.reduceEq, and_false, false_and, and_self, reduceIte, not_true_eq_false, not_false_eq_true, false_imp_iff, true_imp_iff, true_or, or_true]
        refine ⟨by omega, (c_Md_countsIn (sd := σ.m.sd) (cold := σ.m.cold) (by omega) ok.2.2.1 hH hsd hn hm.2.1 mok.2).mono ?_⟩
        rintro r M' okM' ⟨rfl, hs2⟩
        rw [cnts_cod (fun p => (mok.1 p).2) hn]
        simp only [wR, wB, wE0, wE1, wE2, wE3, g0, gS, s10, s11, s1S, s20, s21, s2S, kl0, kl1, kl2, kl3, sp0, sp1, sp2, sp3, cn1, cn2, cn3, cn4, cn5, cn6, jJa, lk0, lk1, jmS, jmN, s4_0, s4_1, s4_2, s4_3, s4_4, sw0, sw1, cKs, cKn, true_and, and_true, List.map_cons, List.map_nil, Nat.reduceAdd, Nat.zero_add, Int.reduceAdd, Nat.reduceEqDiff, reduceIte, Classical.not_not, b_Md_person]
        by_cases q : cnts σ.h σ.m.sd σ.m.cold n (σ.m.st n) = true
        · simp only [if_pos q]
          exact ⟨fun h => absurd h (by omega), fun _ => ⟨trivial, hR'.ww hs2, hlo.trans (ww_lo hs2)⟩⟩
        · simp only [if_neg q]
          exact ⟨fun _ => ⟨trivial, hR'.ww hs2, hlo.trans (ww_lo hs2)⟩, fun h => absurd trivial h⟩
    · have ea : aPerson σ n what = -2 := by
        unfold aPerson
        rw [if_pos (by omega)]
      rw [ea]
      refine AW.run ck_Md_person [] 10 17 ?_
      simp only [wR, wB, wE0, wE1, wE2, wE3, g0, gS, s10, s11, s1S, s20, s21, s2S, kl0, kl1, kl2, kl3, sp0, sp1, sp2, sp3, cn1, cn2, cn3, cn4, cn5, cn6, jJa, lk0, lk1, jmS, jmN, s4_0, s4_1, s4_2, s4_3, s4_4, sw0, sw1, cKs, cKn, true_and, and_true, List.map_cons, List.map_nil, Nat.reduceAdd, Nat.zero_add, Int.reduceAdd, Nat.reduceEqDiff, reduceIte, Classical.not_not, b_Md_person, shMd, List.length_cons, List.length_nil, Int.reduceLT, Int.reduceLE, nc3, nc5, nc10, nc39, or_self, or_false, false_or]
      exact ⟨fun _ => ⟨hR', hlo⟩, fun h => absurd h (by omega), fun h => absurd h (by omega), fun h => absurd h (by omega), fun h => absurd h (by omega), fun h => absurd h (by omega)⟩
  · rw [if_neg hp]
    have ea : aPerson σ p what = -2 := by
      unfold aPerson
      rw [if_pos (by omega)]
    (repeat' (first | omega | exact ⟨by omega, by omega⟩ | (with_reducible exact Or.inr trivial) | (with_reducible exact Or.inl trivial) | (with_reducible assumption) | (with_reducible exact Same.refl) | (with_reducible rfl) | (with_reducible refine And.intro ?_ ?_) | (with_reducible intro _)))
    rw [ea]
theorem aWhy_set {σ : Sg} {v : Int} (h1 : aWhy σ v ≠ 1) : 0 ≤ v ∧ v < ((2 ^ σ.h.P : Nat) : Int) := by
  unfold aWhy whyS at h1
  by_cases q : 0 ≤ v ∧ v < ((2 ^ σ.h.P : Nat) : Int)
  · exact q
  · rw [if_neg q] at h1; omega
theorem aRS_why {σ : Sg} {v : Int} : (aWhy σ v = 1 ∧ aRS σ v = -3) ∨ (aWhy σ v = 2 ∧ aRS σ v = -5) ∨ (aWhy σ v = 0 ∧ aRS σ v = 0) := by
  unfold aRS
  have : aWhy σ v = 0 ∨ aWhy σ v = 1 ∨ aWhy σ v = 2 := by unfold aWhy whyS; (repeat' split) <;> simp
  rcases this with q | q | q <;> rw [q] <;> simp
theorem c_Md_by {set p : Int} {B : Nat} {σ : Sg} (hd : 20 ≤ d) (ok : SgOK B σ) (hR : MR M σ) (hset : inI set) : MS G d mi_Md_by [vr 117, vi set, vi p] M (fun r M' => r = some (vi (aBy σ set p)) ∧ MR M' σ ∧ Lo M M') := by
  have hR' := hR.thr
  have hP := ok.2.2.1.1
  have h32 := p2_32 hP
  have mok := ok.2.2.2.1.1
  obtain ⟨-, -, hH, hm, -⟩ := id hR'
  have hsd := hm.sd mok
  have hst := hm.st mok
  refine MS.run ck_Md_by [some (vr 117), some (vi set), some (vi p), none] [] 10 fun _ _ => ?_
  unfold aBy
  simp only [wR, wB, wE0, wE1, wE2, wE3, g0, gS, s10, s11, s1S, s20, s21, s2S, kl0, kl1, kl2, kl3, sp0, sp1, sp2, sp3, cn1, cn2, cn3, cn4, cn5, cn6, jJa, lk0, lk1, jmS, jmN, s4_0, s4_1, s4_2, s4_3, s4_4, sw0, sw1, cKs, cKn, true_and, and_true, List.map_cons, List.map_nil, Nat.reduceAdd, Nat.zero_add, Int.reduceAdd, Nat.reduceEqDiff, reduceIte, Classical.not_not, b_Md_by, shMd]
  have hlo : Lo M (up M 117 0 0) := thr_lo
  generalize up M 117 0 0 = N at hR' hH hm hsd hst hlo ⊢
  refine ⟨by omega, MS.to (c_Md_isPerson (by omega) hH.2.1 hP) fun _ => ?_⟩
  simp only [wR, wB, wE0, wE1, wE2, wE3, g0, gS, s10, s11, s1S, s20, s21, s2S, kl0, kl1, kl2, kl3, sp0, sp1, sp2, sp3, cn1, cn2, cn3, cn4, cn5, cn6, jJa, lk0, lk1, jmS, jmN, s4_0, s4_1, s4_2, s4_3, s4_4, sw0, sw1, cKs, cKn, true_and, and_true, List.map_cons, List.map_nil, Nat.reduceAdd, Nat.zero_add, Int.reduceAdd, Nat.reduceEqDiff, reduceIte, Classical.not_not, b_Md_by, shMd]
  by_cases hp : 0 ≤ p ∧ p < σ.h.P
  · rw [if_pos hp, if_pos hp]
    obtain ⟨n, rfl⟩ := Int.eq_ofNat_of_zero_le hp.1
    have hn : n < σ.h.P := by omega
    (repeat' (first | omega | exact ⟨by omega, by omega⟩ | (with_reducible exact Or.inr trivial) | (with_reducible exact Or.inl trivial) | (with_reducible assumption) | (with_reducible exact Same.refl) | (with_reducible rfl) | (with_reducible refine And.intro ?_ ?_) | (with_reducible intro _)))
    refine MS.to (c_Md_whySet (by omega) hH.2.1 hP hst) fun _ => ?_
    simp only [wR, wB, wE0, wE1, wE2, wE3, g0, gS, s10, s11, s1S, s20, s21, s2S, kl0, kl1, kl2, kl3, sp0, sp1, sp2, sp3, cn1, cn2, cn3, cn4, cn5, cn6, jJa, lk0, lk1, jmS, jmN, s4_0, s4_1, s4_2, s4_3, s4_4, sw0, sw1, cKs, cKn, true_and, and_true, List.map_cons, List.map_nil, Nat.reduceAdd, Nat.zero_add, Int.reduceAdd, Nat.reduceEqDiff, reduceIte, Classical.not_not, b_Md_by, shMd]
    rcases aRS_why (σ := σ) (v := set) with ⟨q1, q2⟩ | ⟨q1, q2⟩ | ⟨q1, q2⟩
    · unfold aWhy at q1
      rw [q1, q2]
      (repeat' (first | omega | exact ⟨by omega, by omega⟩ | (with_reducible exact Or.inr trivial) | (with_reducible exact Or.inl trivial) | (with_reducible assumption) | (with_reducible exact Same.refl) | (with_reducible rfl) | (with_reducible refine And.intro ?_ ?_) | (with_reducible intro _)))
      rfl
    · unfold aWhy at q1
      rw [q1, q2]
      (repeat' (first | omega | exact ⟨by omega, by omega⟩ | (with_reducible exact Or.inr trivial) | (with_reducible exact Or.inl trivial) | (with_reducible assumption) | (with_reducible exact Same.refl) | (with_reducible rfl) | (with_reducible refine And.intro ?_ ?_) | (with_reducible intro _)))
      rfl
    · have hset2 := aRS_set q2
      unfold aWhy at q1
      rw [q1, q2]
      obtain ⟨k, rfl⟩ := Int.eq_ofNat_of_zero_le hset2.1
      (repeat' (first | omega | exact ⟨by omega, by omega⟩ | (with_reducible exact Or.inr trivial) | (with_reducible exact Or.inl trivial) | (with_reducible assumption) | (with_reducible exact Same.refl) | (with_reducible rfl) | (with_reducible refine And.intro ?_ ?_) | (with_reducible intro _)))
      refine MS.to (c_Md_standNow hH.2.1 hP hst) fun _ => ?_
      have hcold : N 118 29 = σ.m.cold := hm.2.1
      simp only [wR, wB, wE0, wE1, wE2, wE3, g0, gS, s10, s11, s1S, s20, s21, s2S, kl0, kl1, kl2, kl3, sp0, sp1, sp2, sp3, cn1, cn2, cn3, cn4, cn5, cn6, jJa, lk0, lk1, jmS, jmN, s4_0, s4_1, s4_2, s4_3, s4_4, sw0, sw1, cKs, cKn, true_and, and_true, List.map_cons, List.map_nil, Nat.reduceAdd, Nat.zero_add, Int.reduceAdd, Nat.reduceEqDiff, reduceIte, Classical.not_not, b_Md_by, shMd, hcold]
      have hlt := cod_100k ok.2.2.1 mok
      (repeat' (first | omega | exact ⟨by omega, by omega⟩ | (with_reducible exact Or.inr trivial) | (with_reducible exact Or.inl trivial) | (with_reducible assumption) | (with_reducible exact Same.refl) | (with_reducible rfl) | (with_reducible refine And.intro ?_ ?_) | (with_reducible intro _)))
      refine (c_Md_tiredTo (sd := σ.m.sd) (by omega) ok.2.2.1 hH hsd (by omega) (by omega) hn mok.2).mono ?_
      rintro r M' okM' ⟨rfl, hs2⟩
      rw [dig_cod0 (fun p _ => (mok.1 p).2), if_pos hn]
      simp only [wR, wB, wE0, wE1, wE2, wE3, g0, gS, s10, s11, s1S, s20, s21, s2S, kl0, kl1, kl2, kl3, sp0, sp1, sp2, sp3, cn1, cn2, cn3, cn4, cn5, cn6, jJa, lk0, lk1, jmS, jmN, s4_0, s4_1, s4_2, s4_3, s4_4, sw0, sw1, cKs, cKn, true_and, and_true, List.map_cons, List.map_nil, Nat.reduceAdd, Nat.zero_add, Int.reduceAdd, Nat.reduceEqDiff, reduceIte, Classical.not_not, b_Md_by, Int.toNat_natCast, if_true]
      exact ⟨hR'.ww hs2, hlo.trans (ww_lo hs2)⟩
  · rw [if_neg hp, if_neg hp]
    (repeat' (first | omega | exact ⟨by omega, by omega⟩ | (with_reducible exact Or.inr trivial) | (with_reducible exact Or.inl trivial) | (with_reducible assumption) | (with_reducible exact Same.refl) | (with_reducible rfl) | (with_reducible refine And.intro ?_ ?_) | (with_reducible intro _)))
theorem c_Md_counted {set side : Int} {B : Nat} {σ : Sg} (hd : 20 ≤ d) (ok : SgOK B σ) (hR : MR M σ) (hset : inI set) : MS G d mi_Md_counted [vr 117, vi set, vi side] M (fun r M' => r = some (vi (aCounted σ set side)) ∧ MR M' σ ∧ Lo M M') := by
  have hR' := hR.thr
  have hP := ok.2.2.1.1
  have h32 := p2_32 hP
  have mok := ok.2.2.2.1.1
  obtain ⟨-, -, hH, hm, -⟩ := id hR'
  have hsd := hm.sd mok
  have hst := hm.st mok
  refine MS.run ck_Md_counted [some (vr 117), some (vi set), some (vi side), none] [] 10 fun _ _ => ?_
  unfold aCounted
  simp only [wR, wB, wE0, wE1, wE2, wE3, g0, gS, s10, s11, s1S, s20, s21, s2S, kl0, kl1, kl2, kl3, sp0, sp1, sp2, sp3, cn1, cn2, cn3, cn4, cn5, cn6, jJa, lk0, lk1, jmS, jmN, s4_0, s4_1, s4_2, s4_3, s4_4, sw0, sw1, cKs, cKn, true_and, and_true, List.map_cons, List.map_nil, Nat.reduceAdd, Nat.zero_add, Int.reduceAdd, Nat.reduceEqDiff, reduceIte, Classical.not_not, b_Md_counted, shMd]
  have hlo : Lo M (up M 117 0 0) := thr_lo
  generalize up M 117 0 0 = N at hR' hH hm hsd hst hlo ⊢
  refine ⟨by omega, MS.to (c_Md_isSide (by omega)) fun _ => ?_⟩
  simp only [wR, wB, wE0, wE1, wE2, wE3, g0, gS, s10, s11, s1S, s20, s21, s2S, kl0, kl1, kl2, kl3, sp0, sp1, sp2, sp3, cn1, cn2, cn3, cn4, cn5, cn6, jJa, lk0, lk1, jmS, jmN, s4_0, s4_1, s4_2, s4_3, s4_4, sw0, sw1, cKs, cKn, true_and, and_true, List.map_cons, List.map_nil, Nat.reduceAdd, Nat.zero_add, Int.reduceAdd, Nat.reduceEqDiff, reduceIte, Classical.not_not, b_Md_counted, shMd]
  by_cases hp : side = 0 ∨ side = 1
  · rw [if_pos hp, if_pos hp]
    obtain ⟨n, rfl⟩ := Int.eq_ofNat_of_zero_le (show 0 ≤ side by omega)
    (repeat' (first | omega | exact ⟨by omega, by omega⟩ | (with_reducible exact Or.inr trivial) | (with_reducible exact Or.inl trivial) | (with_reducible assumption) | (with_reducible exact Same.refl) | (with_reducible rfl) | (with_reducible refine And.intro ?_ ?_) | (with_reducible intro _)))
    refine MS.to (c_Md_whySet (by omega) hH.2.1 hP hst) fun _ => ?_
    simp only [wR, wB, wE0, wE1, wE2, wE3, g0, gS, s10, s11, s1S, s20, s21, s2S, kl0, kl1, kl2, kl3, sp0, sp1, sp2, sp3, cn1, cn2, cn3, cn4, cn5, cn6, jJa, lk0, lk1, jmS, jmN, s4_0, s4_1, s4_2, s4_3, s4_4, sw0, sw1, cKs, cKn, true_and, and_true, List.map_cons, List.map_nil, Nat.reduceAdd, Nat.zero_add, Int.reduceAdd, Nat.reduceEqDiff, reduceIte, Classical.not_not, b_Md_counted, shMd]
    rcases aRS_why (σ := σ) (v := set) with ⟨q1, q2⟩ | ⟨q1, q2⟩ | ⟨q1, q2⟩
    · unfold aWhy at q1
      rw [q1, q2]
      (repeat' (first | omega | exact ⟨by omega, by omega⟩ | (with_reducible exact Or.inr trivial) | (with_reducible exact Or.inl trivial) | (with_reducible assumption) | (with_reducible exact Same.refl) | (with_reducible rfl) | (with_reducible refine And.intro ?_ ?_) | (with_reducible intro _)))
      rfl
    · unfold aWhy at q1
      rw [q1, q2]
      (repeat' (first | omega | exact ⟨by omega, by omega⟩ | (with_reducible exact Or.inr trivial) | (with_reducible exact Or.inl trivial) | (with_reducible assumption) | (with_reducible exact Same.refl) | (with_reducible rfl) | (with_reducible refine And.intro ?_ ?_) | (with_reducible intro _)))
      rfl
    · have hset2 := aRS_set q2
      unfold aWhy at q1
      rw [q1, q2]
      obtain ⟨k, rfl⟩ := Int.eq_ofNat_of_zero_le hset2.1
      (repeat' (first | omega | exact ⟨by omega, by omega⟩ | (with_reducible exact Or.inr trivial) | (with_reducible exact Or.inl trivial) | (with_reducible assumption) | (with_reducible exact Same.refl) | (with_reducible rfl) | (with_reducible refine And.intro ?_ ?_) | (with_reducible intro _)))
      refine MS.to (c_Md_standNow hH.2.1 hP hst) fun _ => ?_
      simp only [wR, wB, wE0, wE1, wE2, wE3, g0, gS, s10, s11, s1S, s20, s21, s2S, kl0, kl1, kl2, kl3, sp0, sp1, sp2, sp3, cn1, cn2, cn3, cn4, cn5, cn6, jJa, lk0, lk1, jmS, jmN, s4_0, s4_1, s4_2, s4_3, s4_4, sw0, sw1, cKs, cKn, true_and, and_true, List.map_cons, List.map_nil, Nat.reduceAdd, Nat.zero_add, Int.reduceAdd, Nat.reduceEqDiff, reduceIte, Classical.not_not, b_Md_counted, shMd]
      (repeat' (first | omega | exact ⟨by omega, by omega⟩ | (with_reducible exact Or.inr trivial) | (with_reducible exact Or.inl trivial) | (with_reducible assumption) | (with_reducible exact Same.refl) | (with_reducible rfl) | (with_reducible refine And.intro ?_ ?_) | (with_reducible intro _)))
      refine (c_Md_countIn (sd := σ.m.sd) (cold := σ.m.cold) (by omega) ok.2.2.1 hH hsd (by omega) hm.2.1 mok.2).mono ?_
      rintro r M' okM' ⟨rfl, hs2⟩
      rw [hands_cod mok]
      simp only [wR, wB, wE0, wE1, wE2, wE3, g0, gS, s10, s11, s1S, s20, s21, s2S, kl0, kl1, kl2, kl3, sp0, sp1, sp2, sp3, cn1, cn2, cn3, cn4, cn5, cn6, jJa, lk0, lk1, jmS, jmN, s4_0, s4_1, s4_2, s4_3, s4_4, sw0, sw1, cKs, cKn, true_and, and_true, List.map_cons, List.map_nil, Nat.reduceAdd, Nat.zero_add, Int.reduceAdd, Nat.reduceEqDiff, reduceIte, Classical.not_not, b_Md_counted, Int.toNat_natCast, if_true]
      exact ⟨hR'.ww hs2, hlo.trans (ww_lo hs2)⟩
  · rw [if_neg hp, if_neg hp]
    (repeat' (first | omega | exact ⟨by omega, by omega⟩ | (with_reducible exact Or.inr trivial) | (with_reducible exact Or.inl trivial) | (with_reducible assumption) | (with_reducible exact Same.refl) | (with_reducible rfl) | (with_reducible refine And.intro ?_ ?_) | (with_reducible intro _)))
end MQ2
