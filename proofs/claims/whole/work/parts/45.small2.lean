/-! fault, trays, counts: both sides -/
def aFault (σ : Sg) (w : Int) : Int := if w = 0 then σ.fk else if w = 1 then σ.fp else -1
def Sg.setTr (σ : Sg) (i : Nat) (t : Int × Nat × (Nat → Int)) : Sg := mkS σ.tn σ.tp σ.fk σ.fp σ.h σ.m σ.np σ.pm (fun k => if k = i then t else σ.tr k) σ.im
def aNumbers (t s n : Int) : Int := if (0 ≤ t ∧ t < 4) ∧ 0 ≤ s ∧ s ≤ 3 then (if 0 ≤ n ∧ n ≤ 40 then 0 else -3) else -2
def sNumbers (σ : Sg) (t s n : Int) : Sg := if ((0 ≤ t ∧ t < 4) ∧ 0 ≤ s ∧ s ≤ 3) ∧ 0 ≤ n ∧ n ≤ 40 then σ.setTr t.toNat (s, n.toNat, fun _ => 0) else σ
theorem CR.tr {M N : AM} {σ : Sg} {i : Nat} {t : Int × Nat × (Nat → Int)} (h : CR M σ) (hi : i < 4) (hs : Same [87 + 2 * (i : Int), 88 + 2 * (i : Int)] M N) (ht : Ctr N i t) : CR N (σ.setTr i t) := by
  obtain ⟨z, a, b, c, e, f, g, j, k⟩ := h
  have h0 := hs 0 (by (first | decide | (simp only [List.mem_cons, List.not_mem_nil, or_false, not_or, not_false_eq_true, and_true]; omega) | (simp [List.mem_cons]; done)))
  refine ⟨z, a.eq (fun x hx => hs x (by (first | decide | (simp only [List.mem_cons, List.not_mem_nil, or_false, not_or, not_false_eq_true, and_true]; omega) | (simp [List.mem_cons]; done)))), ?_, ?_, e.eq (hs _ (by (first | decide | (simp only [List.mem_cons, List.not_mem_nil, or_false, not_or, not_false_eq_true, and_true]; omega) | (simp [List.mem_cons]; done)))) (hs _ (by (first | decide | (simp only [List.mem_cons, List.not_mem_nil, or_false, not_or, not_false_eq_true, and_true]; omega) | (simp [List.mem_cons]; done)))), Cpast.eq (σ := σ.setTr i t) f (by rw [h0]) (fun x hx => hs x (by (first | decide | (simp only [List.mem_cons, List.not_mem_nil, or_false, not_or, not_false_eq_true, and_true]; omega) | (simp [List.mem_cons]; done)))), fun l hl => ?_, Cim.eq (σ := σ.setTr i t) j (by rw [h0]) (fun x hx => hs x (by (first | decide | (simp only [List.mem_cons, List.not_mem_nil, or_false, not_or, not_false_eq_true, and_true]; omega) | (simp [List.mem_cons]; done)))), k.1.eq (fun x h1 h2 => hs x (by (first | decide | (simp only [List.mem_cons, List.not_mem_nil, or_false, not_or, not_false_eq_true, and_true]; omega) | (simp [List.mem_cons]; done)))), k.2.eq (fun x hx => hs x (by (first | decide | (simp only [List.mem_cons, List.not_mem_nil, or_false, not_or, not_false_eq_true, and_true]; omega) | (simp [List.mem_cons]; done))))⟩
  · unfold Ctape; rw [h0, hs 1 (by (first | decide | (simp only [List.mem_cons, List.not_mem_nil, or_false, not_or, not_false_eq_true, and_true]; omega) | (simp [List.mem_cons]; done)))]; exact b
  · unfold Cflt; rw [hs 2 (by (first | decide | (simp only [List.mem_cons, List.not_mem_nil, or_false, not_or, not_false_eq_true, and_true]; omega) | (simp [List.mem_cons]; done)))]; exact c
  · show Ctr N l (if l = i then t else σ.tr l)
    by_cases q : l = i
    · rw [if_pos q, q]; exact ht
    · rw [if_neg q]
      exact (g l hl).eq (hs _ (by (first | decide | (simp only [List.mem_cons, List.not_mem_nil, or_false, not_or, not_false_eq_true, and_true]; omega) | (simp [List.mem_cons]; done)))) (hs _ (by (first | decide | (simp only [List.mem_cons, List.not_mem_nil, or_false, not_or, not_false_eq_true, and_true]; omega) | (simp [List.mem_cons]; done)))) (hs _ (by (first | decide | (simp only [List.mem_cons, List.not_mem_nil, or_false, not_or, not_false_eq_true, and_true]; omega) | (simp [List.mem_cons]; done))))
theorem MR.tr {M N : AM} {σ : Sg} {i : Nat} {t : Int × Nat × (Nat → Int)} (h : MR M σ) (hi : i < 4) (hn : ∀ k, k < 4 → (σ.tr k).2.1 ≤ 40) (hs : Same [117, 135, 136, 137] M N) (h7 : ∀ y : Int, y ≠ 0 → N 117 y = M 117 y) (h5 : ∀ k : Nat, k < 4 → k ≠ i → N 135 k = M 135 k ∧ N 136 k = M 136 k ∧ ∀ j : Nat, j < 40 → N 137 (40 * (k : Int) + j) = M 137 (40 * (k : Int) + j)) (ht : N 135 i = t.1 ∧ (t.1 ≠ -1 → N 136 i = t.2.1 ∧ ∀ k : Nat, k < t.2.1 → N 137 (40 * (i : Int) + k) = t.2.2 k)) : MR N (σ.setTr i t) := by
  obtain ⟨a, b, c, e, f, g, j⟩ := h
  refine ⟨⟨by rw [h7 5 (by omega)]; exact a.1, fun k hk => by rw [hs 120 (by (first | decide | (simp only [List.mem_cons, List.not_mem_nil, or_false, not_or, not_false_eq_true, and_true]; omega) | (simp [List.mem_cons]; done)))]; exact a.2 k hk⟩, ⟨by rw [h7 13 (by omega)]; exact b.1, by rw [h7 14 (by omega)]; exact b.2⟩, by rw [hs 118 (by (first | decide | (simp only [List.mem_cons, List.not_mem_nil, or_false, not_or, not_false_eq_true, and_true]; omega) | (simp [List.mem_cons]; done)))]; exact c, by rw [hs 118 (by (first | decide | (simp only [List.mem_cons, List.not_mem_nil, or_false, not_or, not_false_eq_true, and_true]; omega) | (simp [List.mem_cons]; done)))]; exact e, by rw [hs 118 (by (first | decide | (simp only [List.mem_cons, List.not_mem_nil, or_false, not_or, not_false_eq_true, and_true]; omega) | (simp [List.mem_cons]; done)))]; exact f, fun k hk => ?_, by rw [hs 118 (by (first | decide | (simp only [List.mem_cons, List.not_mem_nil, or_false, not_or, not_false_eq_true, and_true]; omega) | (simp [List.mem_cons]; done))), hs 119 (by (first | decide | (simp only [List.mem_cons, List.not_mem_nil, or_false, not_or, not_false_eq_true, and_true]; omega) | (simp [List.mem_cons]; done)))]; exact j⟩
  show N 135 k = (if k = i then t else σ.tr k).1 ∧ ((if k = i then t else σ.tr k).1 ≠ -1 → N 136 k = (if k = i then t else σ.tr k).2.1 ∧ ∀ l : Nat, l < (if k = i then t else σ.tr k).2.1 → N 137 (40 * (k : Int) + l) = (if k = i then t else σ.tr k).2.2 l)
  by_cases q : k = i
  · subst q
    rw [if_pos rfl]; exact ht
  · rw [if_neg q]
    obtain ⟨u1, u2, u3⟩ := h5 k hk q
    obtain ⟨g1, g2⟩ := g k hk
    have := hn k hk
    refine ⟨by rw [u1]; exact g1, fun hne => ⟨by rw [u2]; exact (g2 hne).1, fun l hl => by rw [u3 l (by omega)]; exact (g2 hne).2 l hl⟩⟩
section SN
variable {G : AG} {d : Nat} {M : AM}
theorem c_H_fault {w : Int} {σ : Sg} (hR : CR M σ) : MS G d mi_H_fault [vr 0, vi w] M (fun r M' => r = some (vi (aFault σ w)) ∧ CR M' σ ∧ Hi M M') := by
  have hf : Cflt M σ := by obtain ⟨z, _, _, c, _⟩ := hR; exact c
  refine MS.run ck_H_fault [some (vr 0), some (vi w)] [] 10 fun _ _ => ?_
  simp only [wR, wB, wE0, wE1, wE2, wE3, g0, gS, s10, s11, s1S, s20, s21, s2S, kl0, kl1, kl2, kl3, sp0, sp1, sp2, sp3, cn1, cn2, cn3, cn4, cn5, cn6, jJa, lk0, lk1, jmS, jmN, s4_0, s4_1, s4_2, s4_3, s4_4, sw0, sw1, cKs, cKn, true_and, and_true, List.map_cons, List.map_nil, Nat.reduceAdd, Nat.zero_add, Int.reduceAdd, Nat.reduceEqDiff, reduceIte, Classical.not_not, b_H_fault, shH, hf.1, hf.2]
  unfold aFault
  have := Hi.refl (M := M)
  (repeat' (first | omega | exact ⟨by omega, by omega⟩ | (with_reducible exact Or.inr trivial) | (with_reducible exact Or.inl trivial) | (with_reducible assumption) | (with_reducible exact Same.refl) | (with_reducible rfl) | (with_reducible refine And.intro ?_ ?_) | (with_reducible intro _)))
  all_goals first | rw [if_pos (by omega)] | rw [if_neg (by omega), if_pos (by omega)] | rw [if_neg (by omega), if_neg (by omega)]
theorem c_Md_fault {w : Int} {σ : Sg} (hR : MR M σ) : MS G d mi_Md_fault [vr 117, vi w] M (fun r M' => r = some (vi (aFault σ w)) ∧ MR M' σ ∧ Lo M M') := by
  have hf := hR.2.1
  refine MS.run ck_Md_fault [some (vr 117), some (vi w)] [] 10 fun _ _ => ?_
  simp only [wR, wB, wE0, wE1, wE2, wE3, g0, gS, s10, s11, s1S, s20, s21, s2S, kl0, kl1, kl2, kl3, sp0, sp1, sp2, sp3, cn1, cn2, cn3, cn4, cn5, cn6, jJa, lk0, lk1, jmS, jmN, s4_0, s4_1, s4_2, s4_3, s4_4, sw0, sw1, cKs, cKn, true_and, and_true, List.map_cons, List.map_nil, Nat.reduceAdd, Nat.zero_add, Int.reduceAdd, Nat.reduceEqDiff, reduceIte, Classical.not_not, b_Md_fault, shMd, up_rd, Int.reduceEq, and_false, false_and, and_self, reduceIte, not_true_eq_false, not_false_eq_true, false_imp_iff, true_imp_iff, true_or, or_true, hf.1, hf.2]
  unfold aFault
  have := hR.thr
  have := thr_lo (M := M)
  (repeat' (first | omega | exact ⟨by omega, by omega⟩ | (with_reducible exact Or.inr trivial) | (with_reducible exact Or.inl trivial) | (with_reducible assumption) | (with_reducible exact Same.refl) | (with_reducible rfl) | (with_reducible refine And.intro ?_ ?_) | (with_reducible intro _)))
  all_goals first | rw [if_pos (by omega)] | rw [if_neg (by omega), if_pos (by omega)] | rw [if_neg (by omega), if_neg (by omega)]
theorem c_H_numbers {t s n : Int} {B : Nat} {σ : Sg} (hd : 5 ≤ d) (ok : SgOK B σ) (hR : CR M σ) : MS G d mi_H_numbers [vr 0, vi t, vi s, vi n] M (fun r M' => r = some (vi (aNumbers t s n)) ∧ CR M' (sNumbers σ t s n) ∧ Hi M M') := by
  obtain ⟨z, hs, hM, hp, hT⟩ := hR.z
  refine MS.by ck_H_numbers [some (vr 0), some (vi t), some (vi s), some (vi n)] fun _ _ => ?_
  unfold aNumbers sNumbers
  generalize hQ : (fun (r : Option AV) (M' : AM) => r = some (vi (if (0 ≤ t ∧ t < 4) ∧ 0 ≤ s ∧ s ≤ 3 then (if 0 ≤ n ∧ n ≤ 40 then 0 else -3) else -2)) ∧ CR M' (if ((0 ≤ t ∧ t < 4) ∧ 0 ≤ s ∧ s ≤ 3) ∧ 0 ≤ n ∧ n ≤ 40 then σ.setTr t.toNat (s, n.toNat, fun _ => 0) else σ) ∧ Hi M M') = Q
  have a16 : ¬ ((0 ≤ t ∧ t < 4) ∧ 0 ≤ s ∧ s ≤ 3) → AW G d mi_H_numbers Q 16 [some (vr 0), some (vi t), some (vi s), some (vi n)] [] M := by
    intro q
    refine AW.run ck_H_numbers [] 10 16 ?_
    simp only [wR, wB, wE0, wE1, wE2, wE3, g0, gS, s10, s11, s1S, s20, s21, s2S, kl0, kl1, kl2, kl3, sp0, sp1, sp2, sp3, cn1, cn2, cn3, cn4, cn5, cn6, jJa, lk0, lk1, jmS, jmN, s4_0, s4_1, s4_2, s4_3, s4_4, sw0, sw1, cKs, cKn, true_and, and_true, List.map_cons, List.map_nil, Nat.reduceAdd, Nat.zero_add, Int.reduceAdd, Nat.reduceEqDiff, reduceIte, Classical.not_not, b_H_numbers]
    subst hQ
    rw [if_neg q, if_neg (fun h => q h.1)]
    exact ⟨rfl, hR, Hi.refl⟩
  have a29 : ((0 ≤ t ∧ t < 4) ∧ 0 ≤ s ∧ s ≤ 3) → ¬ (0 ≤ n ∧ n ≤ 40) → AW G d mi_H_numbers Q 29 [some (vr 0), some (vi t), some (vi s), some (vi n)] [] M := by
    intro q q2
    refine AW.run ck_H_numbers [] 10 29 ?_
    simp only [wR, wB, wE0, wE1, wE2, wE3, g0, gS, s10, s11, s1S, s20, s21, s2S, kl0, kl1, kl2, kl3, sp0, sp1, sp2, sp3, cn1, cn2, cn3, cn4, cn5, cn6, jJa, lk0, lk1, jmS, jmN, s4_0, s4_1, s4_2, s4_3, s4_4, sw0, sw1, cKs, cKn, true_and, and_true, List.map_cons, List.map_nil, Nat.reduceAdd, Nat.zero_add, Int.reduceAdd, Nat.reduceEqDiff, reduceIte, Classical.not_not, b_H_numbers]
    subst hQ
    rw [if_pos q, if_neg q2, if_neg (fun h => q2 h.2)]
    exact ⟨rfl, hR, Hi.refl⟩
  have a19 : ((0 ≤ t ∧ t < 4) ∧ 0 ≤ s ∧ s ≤ 3) → AW G d mi_H_numbers Q 19 [some (vr 0), some (vi t), some (vi s), some (vi n)] [] M := by
    intro q
    obtain ⟨i, rfl⟩ := Int.eq_ofNat_of_zero_le q.1.1
    have hi : i < 4 := by omega
    obtain ⟨t1, t2, t3, t4⟩ := hT i hi
    have ho := tr_O i hi
    refine AW.run ck_H_numbers [29] 10 19 ?_
    simp only [wR, wB, wE0, wE1, wE2, wE3, g0, gS, s10, s11, s1S, s20, s21, s2S, kl0, kl1, kl2, kl3, sp0, sp1, sp2, sp3, cn1, cn2, cn3, cn4, cn5, cn6, jJa, lk0, lk1, jmS, jmN, s4_0, s4_1, s4_2, s4_3, s4_4, sw0, sw1, cKs, cKn, true_and, and_true, List.map_cons, List.map_nil, Nat.reduceAdd, Nat.zero_add, Int.reduceAdd, Nat.reduceEqDiff, reduceIte, Classical.not_not, b_H_numbers, shH, shR0, l30, t1, ho]
    (repeat' (first | omega | exact ⟨by omega, by omega⟩ | (with_reducible exact Or.inr trivial) | (with_reducible exact Or.inl trivial) | (with_reducible assumption) | (with_reducible exact Same.refl) | (with_reducible rfl) | (with_reducible refine And.intro ?_ ?_) | (with_reducible intro _)))
    · exact a29 q (by omega)
    · obtain ⟨k, rfl⟩ := Int.eq_ofNat_of_zero_le (show 0 ≤ n by omega)
      refine MS.to (c_Tr_begin (d := d - 1) (by omega) ho (by omega)) fun _ => ?_
      simp only [wR, wB, wE0, wE1, wE2, wE3, g0, gS, s10, s11, s1S, s20, s21, s2S, kl0, kl1, kl2, kl3, sp0, sp1, sp2, sp3, cn1, cn2, cn3, cn4, cn5, cn6, jJa, lk0, lk1, jmS, jmN, s4_0, s4_1, s4_2, s4_3, s4_4, sw0, sw1, cKs, cKn, true_and, and_true, List.map_cons, List.map_nil, Nat.reduceAdd, Nat.zero_add, Int.reduceAdd, Nat.reduceEqDiff, reduceIte, Classical.not_not, b_H_numbers]
      subst hQ
      rw [if_pos q, if_pos (by omega), if_pos (by omega), Int.toNat_natCast, Int.toNat_natCast]
      have hsm : Same [87 + 2 * (i : Int), 88 + 2 * (i : Int)] M (fil (up (up M (87 + 2 * (i : Int)) 1 s) (87 + 2 * (i : Int)) 0 k) (87 + 2 * (i : Int) + 1) 0 40 0) := by
        intro x hx
        simp only [List.mem_cons, List.not_mem_nil, or_false, not_or] at hx
        funext y
        unfold fil
        rw [if_neg (by omega), up_ne1 (by omega), up_ne1 (by omega)]
      refine ⟨rfl, hR.tr hi hsm ⟨?_, ?_, ?_, fun _ => ⟨?_, fun j hj => ?_⟩⟩, fun x hx => hsm x (by (first | decide | (simp only [List.mem_cons, List.not_mem_nil, or_false, not_or, not_false_eq_true, and_true]; omega) | (simp [List.mem_cons]; done)))⟩
      · rw [hsm.at 30 _ (by (first | decide | (simp only [List.mem_cons, List.not_mem_nil, or_false, not_or, not_false_eq_true, and_true]; omega) | (simp [List.mem_cons]; done)))]; exact t1
      · show _ = if s = -1 then -1 else (k : Int)
        rw [if_neg (by omega)]
        unfold fil; rw [if_neg (by omega), up_eq]
      · unfold fil; rw [if_neg (by omega), up_ne2 (by omega), up_eq]; omega
      · unfold fil; rw [if_neg (by omega), up_ne2 (by omega), up_eq]
      · have hj' : j < k := hj
        unfold fil; rw [if_pos (by omega)]
    · exact a29 q (by omega)
  refine AW.run ck_H_numbers [16, 19] 10 0 ?_
  simp only [wR, wB, wE0, wE1, wE2, wE3, g0, gS, s10, s11, s1S, s20, s21, s2S, kl0, kl1, kl2, kl3, sp0, sp1, sp2, sp3, cn1, cn2, cn3, cn4, cn5, cn6, jJa, lk0, lk1, jmS, jmN, s4_0, s4_1, s4_2, s4_3, s4_4, sw0, sw1, cKs, cKn, true_and, and_true, List.map_cons, List.map_nil, Nat.reduceAdd, Nat.zero_add, Int.reduceAdd, Nat.reduceEqDiff, reduceIte, Classical.not_not, b_H_numbers, shH]
  refine ⟨by omega, MS.to c_H_isTray fun _ => ?_⟩
  simp only [wR, wB, wE0, wE1, wE2, wE3, g0, gS, s10, s11, s1S, s20, s21, s2S, kl0, kl1, kl2, kl3, sp0, sp1, sp2, sp3, cn1, cn2, cn3, cn4, cn5, cn6, jJa, lk0, lk1, jmS, jmN, s4_0, s4_1, s4_2, s4_3, s4_4, sw0, sw1, cKs, cKn, true_and, and_true, List.map_cons, List.map_nil, Nat.reduceAdd, Nat.zero_add, Int.reduceAdd, Nat.reduceEqDiff, reduceIte, Classical.not_not, b_H_numbers, shH]
  by_cases q : 0 ≤ t ∧ t < 4
  · rw [if_pos q]
    (repeat' (first | omega | exact ⟨by omega, by omega⟩ | (with_reducible exact Or.inr trivial) | (with_reducible exact Or.inl trivial) | (with_reducible assumption) | (with_reducible exact Same.refl) | (with_reducible rfl) | (with_reducible refine And.intro ?_ ?_) | (with_reducible intro _)))
    all_goals first | exact a16 (by omega) | exact a19 (by omega)
  · rw [if_neg q]
    (repeat' (first | omega | exact ⟨by omega, by omega⟩ | (with_reducible exact Or.inr trivial) | (with_reducible exact Or.inl trivial) | (with_reducible assumption) | (with_reducible exact Same.refl) | (with_reducible rfl) | (with_reducible refine And.intro ?_ ?_) | (with_reducible intro _)))
    exact a16 (by omega)
end SN
