section ML
variable {G : AG} {d : Nat} {M : AM} {t : Nat → Nat} {n : Nat}
/-- the text, as the model keeps it -/
def TxM (M : AM) (t : Nat → Nat) (n : Nat) : Prop := M 117 8 = n ∧ n ≤ 900 ∧ (∀ k : Nat, k < n → M 120 k = t k) ∧ ∀ k, t k ≤ 255
theorem c_Md_isSmall {c : Int} : MS G d mi_Md_isSmall [vi c] M (fun r M' => r = some (vi (if sml c = true then 1 else 0)) ∧ M' = M) := by
  refine MS.run ck_Md_isSmall [some (vi c)] [] 10 fun _ _ => ?_
  have h : sml c = true ↔ 97 ≤ c ∧ c ≤ 122 := by unfold sml; exact decide_eq_true_iff
  simp only [wR, wB, wE0, wE1, wE2, wE3, g0, gS, s10, s11, s1S, s20, s21, s2S, kl0, kl1, kl2, kl3, sp0, sp1, sp2, sp3, cn1, cn2, cn3, cn4, cn5, cn6, jJa, lk0, lk1, jmS, jmN, s4_0, s4_1, s4_2, s4_3, s4_4, sw0, sw1, cKs, cKn, true_and, and_true, List.map_cons, List.map_nil, Nat.reduceAdd, Nat.zero_add, Int.reduceAdd, Nat.reduceEqDiff, reduceIte, Classical.not_not, b_Md_isSmall]
  by_cases q : 97 ≤ c ∧ c ≤ 122
  · rw [if_pos (h.mpr q)]; (repeat' (first | omega | (with_reducible exact True.intro) | exact ⟨by omega, by omega⟩ | (with_reducible exact Or.inr trivial) | (with_reducible exact Or.inl trivial) | (with_reducible assumption) | (with_reducible exact Same.refl) | (with_reducible rfl) | (with_reducible refine And.intro ?_ ?_) | (with_reducible intro _)))
  · rw [if_neg (fun e => q (h.mp e))]; (repeat' (first | omega | (with_reducible exact True.intro) | exact ⟨by omega, by omega⟩ | (with_reducible exact Or.inr trivial) | (with_reducible exact Or.inl trivial) | (with_reducible assumption) | (with_reducible exact Same.refl) | (with_reducible rfl) | (with_reducible refine And.intro ?_ ?_) | (with_reducible intro _)))
theorem c_Md_isDigit {c : Int} : MS G d mi_Md_isDigit [vi c] M (fun r M' => r = some (vi (if dgt c = true then 1 else 0)) ∧ M' = M) := by
  refine MS.run ck_Md_isDigit [some (vi c)] [] 10 fun _ _ => ?_
  have h : dgt c = true ↔ 48 ≤ c ∧ c ≤ 57 := by unfold dgt; exact decide_eq_true_iff
  simp only [wR, wB, wE0, wE1, wE2, wE3, g0, gS, s10, s11, s1S, s20, s21, s2S, kl0, kl1, kl2, kl3, sp0, sp1, sp2, sp3, cn1, cn2, cn3, cn4, cn5, cn6, jJa, lk0, lk1, jmS, jmN, s4_0, s4_1, s4_2, s4_3, s4_4, sw0, sw1, cKs, cKn, true_and, and_true, List.map_cons, List.map_nil, Nat.reduceAdd, Nat.zero_add, Int.reduceAdd, Nat.reduceEqDiff, reduceIte, Classical.not_not, b_Md_isDigit]
  by_cases q : 48 ≤ c ∧ c ≤ 57
  · rw [if_pos (h.mpr q)]; (repeat' (first | omega | (with_reducible exact True.intro) | exact ⟨by omega, by omega⟩ | (with_reducible exact Or.inr trivial) | (with_reducible exact Or.inl trivial) | (with_reducible assumption) | (with_reducible exact Same.refl) | (with_reducible rfl) | (with_reducible refine And.intro ?_ ?_) | (with_reducible intro _)))
  · rw [if_neg (fun e => q (h.mp e))]; (repeat' (first | omega | (with_reducible exact True.intro) | exact ⟨by omega, by omega⟩ | (with_reducible exact Or.inr trivial) | (with_reducible exact Or.inl trivial) | (with_reducible assumption) | (with_reducible exact Same.refl) | (with_reducible rfl) | (with_reducible refine And.intro ?_ ?_) | (with_reducible intro _)))
theorem c_Md_see {i : Nat} (hT : TxM M t n) : MS G d mi_Md_see [vr 117, vi i] M (fun r M' => r = some (vi (ltr t n i)) ∧ M' = M) := by
  obtain ⟨h1, h2, h3, h4⟩ := hT
  refine MS.run ck_Md_see [some (vr 117), some (vi i)] [] 10 fun _ _ => ?_
  by_cases q : i < n
  · have e := h3 i q
    rw [ltr_in q]
    simp only [wR, wB, wE0, wE1, wE2, wE3, g0, gS, s10, s11, s1S, s20, s21, s2S, kl0, kl1, kl2, kl3, sp0, sp1, sp2, sp3, cn1, cn2, cn3, cn4, cn5, cn6, jJa, lk0, lk1, jmS, jmN, s4_0, s4_1, s4_2, s4_3, s4_4, sw0, sw1, cKs, cKn, true_and, and_true, List.map_cons, List.map_nil, Nat.reduceAdd, Nat.zero_add, Int.reduceAdd, Nat.reduceEqDiff, reduceIte, Classical.not_not, b_Md_see, shMd, h1, e]
    (repeat' (first | omega | (with_reducible exact True.intro) | exact ⟨by omega, by omega⟩ | (with_reducible exact Or.inr trivial) | (with_reducible exact Or.inl trivial) | (with_reducible assumption) | (with_reducible exact Same.refl) | (with_reducible rfl) | (with_reducible refine And.intro ?_ ?_) | (with_reducible intro _)))
  · rw [ltr_out (by omega)]
    simp only [wR, wB, wE0, wE1, wE2, wE3, g0, gS, s10, s11, s1S, s20, s21, s2S, kl0, kl1, kl2, kl3, sp0, sp1, sp2, sp3, cn1, cn2, cn3, cn4, cn5, cn6, jJa, lk0, lk1, jmS, jmN, s4_0, s4_1, s4_2, s4_3, s4_4, sw0, sw1, cKs, cKn, true_and, and_true, List.map_cons, List.map_nil, Nat.reduceAdd, Nat.zero_add, Int.reduceAdd, Nat.reduceEqDiff, reduceIte, Classical.not_not, b_Md_see, shMd, h1]
    (repeat' (first | omega | (with_reducible exact True.intro) | exact ⟨by omega, by omega⟩ | (with_reducible exact Or.inr trivial) | (with_reducible exact Or.inl trivial) | (with_reducible assumption) | (with_reducible exact Same.refl) | (with_reducible rfl) | (with_reducible refine And.intro ?_ ?_) | (with_reducible intro _)))
theorem romA22 {i : Nat} : romA (-12 - 10) (i : Int) = rtxt2.getD i 0 := rfl
theorem romN22 : romN (-12 - 10) = (rtxt2.length : Int) := rfl
theorem txt2_len : rtxt2.length = 107 := by decide +kernel
theorem c_Md_keyAt {i j : Nat} (hd : 5 ≤ d) (hT : TxM M t n) (hi : M 117 6 = i) (hj : M 117 7 = j) (hij : i ≤ j) (hjn : j ≤ n) : MS G d mi_Md_keyAt [vr 117] M (fun r M' => r = some (vi (wdM (slc t i j))) ∧ M' = M) := by
  obtain ⟨h1, h2, h3, h4⟩ := hT
  refine MS.by ck_Md_keyAt [some (vr 117), none, none, none] fun _ _ => ?_
  generalize hQ : (fun (r : Option AV) (M' : AM) => r = some (vi (wdM (slc t i j))) ∧ M' = M) = Q
  have hlen := txt2_len
  have l4 : ∀ (ws : List (List Int)) (x c : Nat) (l3 : Option AV), rtxt2.drop c = fltW ws → MW.drop x = ws → x + ws.length = 20 → c + (fltW ws).length = 107 → ¬ slc t i j ∈ MW.take x → AW G d mi_Md_keyAt Q 4 [some (vr 117), some (vi x), some (vi c), l3] [] M := by
    as_aux_lemma =>
      intro ws
      induction ws with
      | nil =>
        intro x c l3 hc hx hx2 hc2 hnot
        have e0 : slc t i j ∉ MW := by
          have : x = 20 := by simpa using hx2
          subst this
          exact hnot
        have ew : wdM (slc t i j) = 22 := by unfold wdM; rw [if_neg e0]
        have hc3 : c = 107 := by simpa [fltW] using hc2
        refine AW.run ck_Md_keyAt [15] 10 4 ?_
        simp only [wR, wB, wE0, wE1, wE2, wE3, g0, gS, s10, s11, s1S, s20, s21, s2S, kl0, kl1, kl2, kl3, sp0, sp1, sp2, sp3, cn1, cn2, cn3, cn4, cn5, cn6, jJa, lk0, lk1, jmS, jmN, s4_0, s4_1, s4_2, s4_3, s4_4, sw0, sw1, cKs, cKn, true_and, and_true, List.map_cons, List.map_nil, Nat.reduceAdd, Nat.zero_add, Int.reduceAdd, Nat.reduceEqDiff, reduceIte, Classical.not_not, b_Md_keyAt]
        (repeat' (first | omega | (with_reducible exact True.intro) | exact ⟨by omega, by omega⟩ | (with_reducible exact Or.inr trivial) | (with_reducible exact Or.inl trivial) | (with_reducible assumption) | (with_reducible exact Same.refl) | (with_reducible rfl) | (with_reducible refine And.intro ?_ ?_) | (with_reducible intro _)))
        refine MS.to (c_JS_length (by omega) (by omega)) fun _ => ?_
        rw [romN22, hlen]
        subst hQ
        rw [ew]
        simp only [wR, wB, wE0, wE1, wE2, wE3, g0, gS, s10, s11, s1S, s20, s21, s2S, kl0, kl1, kl2, kl3, sp0, sp1, sp2, sp3, cn1, cn2, cn3, cn4, cn5, cn6, jJa, lk0, lk1, jmS, jmN, s4_0, s4_1, s4_2, s4_3, s4_4, sw0, sw1, cKs, cKn, true_and, and_true, List.map_cons, List.map_nil, Nat.reduceAdd, Nat.zero_add, Int.reduceAdd, Nat.reduceEqDiff, reduceIte, Classical.not_not, b_Md_keyAt]
        (repeat' (first | omega | (with_reducible exact True.intro) | exact ⟨by omega, by omega⟩ | (with_reducible exact Or.inr trivial) | (with_reducible exact Or.inl trivial) | (with_reducible assumption) | (with_reducible exact Same.refl) | (with_reducible rfl) | (with_reducible refine And.intro ?_ ?_) | (with_reducible intro _)))
        all_goals rfl
      | cons w ws ih =>
        intro x c l3 hc hx hx2 hc2 hnot
        have hwm : w ∈ MW := by
          have : w ∈ MW.drop x := by rw [hx]; exact List.mem_cons_self
          exact List.mem_of_mem_drop this
        have hlet := MW_let w hwm
        have hdr : rtxt2.drop c = w ++ 32 :: fltW ws := hc
        obtain ⟨s1, s2, s3⟩ := drop_sp hdr
        have hgl := fun q hq => drop_lt (q := q) hdr hq
        have hx3 : x < 20 := by simp only [List.length_cons] at hx2; omega
        have hlen2 : c + w.length + 1 + (fltW ws).length = 107 := by simp only [fltW, List.length_append, List.length_cons] at hc2; omega
        have htk : MW.take (x + 1) = MW.take x ++ [w] := by
          have e : MW[x]? = some w := by
            have : (MW.drop x)[0]? = some w := by rw [hx]; rfl
            rwa [List.getElem?_drop, Nat.add_zero] at this
          rw [List.take_add_one, e]; rfl
        -- past the word
        have l97 : ¬ w = slc t i j → ∀ (r q : Nat) (l3 : Option AV), q + r = w.length → AW G d mi_Md_keyAt Q 97 [some (vr 117), some (vi x), some (vi ((c + q : Nat) : Int)), l3] [] M := by
          intro hne r
          induction r with
          | zero =>
            intro q l3 hq
            obtain rfl : q = w.length := by omega
            have := ih (x + 1) (c + w.length + 1) l3 s3 (by
              have : MW.drop (x + 1) = (MW.drop x).drop 1 := by rw [List.drop_drop]
              rw [this, hx]; rfl) (by simp only [List.length_cons] at hx2; omega) (by omega) (by
              rw [htk, List.mem_append, List.mem_singleton]
              rintro (e | e)
              · exact hnot e
              · exact hne e.symm)
            refine AW.run ck_Md_keyAt [4] 10 97 ?_
            simp only [wR, wB, wE0, wE1, wE2, wE3, g0, gS, s10, s11, s1S, s20, s21, s2S, kl0, kl1, kl2, kl3, sp0, sp1, sp2, sp3, cn1, cn2, cn3, cn4, cn5, cn6, jJa, lk0, lk1, jmS, jmN, s4_0, s4_1, s4_2, s4_3, s4_4, sw0, sw1, cKs, cKn, true_and, and_true, List.map_cons, List.map_nil, Nat.reduceAdd, Nat.zero_add, Int.reduceAdd, Nat.reduceEqDiff, reduceIte, Classical.not_not, b_Md_keyAt]
            (repeat' (first | omega | (with_reducible exact True.intro) | exact ⟨by omega, by omega⟩ | (with_reducible exact Or.inr trivial) | (with_reducible exact Or.inl trivial) | (with_reducible assumption) | (with_reducible exact Same.refl) | (with_reducible rfl) | (with_reducible refine And.intro ?_ ?_) | (with_reducible intro _)))
            refine MS.to (c_JS_charAt (by omega) (by omega) (by rw [romN22, hlen]; omega)) fun _ => ?_
            rw [romA22, s1]
            simp only [wR, wB, wE0, wE1, wE2, wE3, g0, gS, s10, s11, s1S, s20, s21, s2S, kl0, kl1, kl2, kl3, sp0, sp1, sp2, sp3, cn1, cn2, cn3, cn4, cn5, cn6, jJa, lk0, lk1, jmS, jmN, s4_0, s4_1, s4_2, s4_3, s4_4, sw0, sw1, cKs, cKn, true_and, and_true, List.map_cons, List.map_nil, Nat.reduceAdd, Nat.zero_add, Int.reduceAdd, Nat.reduceEqDiff, reduceIte, Classical.not_not, b_Md_keyAt, Int.reduceEq, not_true_eq_false, not_false_eq_true, false_imp_iff, true_imp_iff, and_self, ce]
            (repeat' (first | omega | (with_reducible exact True.intro) | exact ⟨by omega, by omega⟩ | (with_reducible exact Or.inr trivial) | (with_reducible exact Or.inl trivial) | (with_reducible assumption) | (with_reducible exact Same.refl) | (with_reducible rfl) | (with_reducible refine And.intro ?_ ?_) | (with_reducible intro _)))
          | succ r ihr =>
            intro q l3 hq
            obtain ⟨g1, g2⟩ := hgl q (by omega)
            have hne32 : rtxt2.getD (c + q) 0 ≠ 32 := by
              rw [g1]
              refine (hlet _ ?_).1
              rw [List.getD_eq_getElem?_getD, List.getElem?_eq_getElem (by omega)]
              exact List.getElem_mem _
            have := ihr (q + 1) l3 (by omega)
            refine AW.run ck_Md_keyAt [4, 97] 10 97 ?_
            simp only [wR, wB, wE0, wE1, wE2, wE3, g0, gS, s10, s11, s1S, s20, s21, s2S, kl0, kl1, kl2, kl3, sp0, sp1, sp2, sp3, cn1, cn2, cn3, cn4, cn5, cn6, jJa, lk0, lk1, jmS, jmN, s4_0, s4_1, s4_2, s4_3, s4_4, sw0, sw1, cKs, cKn, true_and, and_true, List.map_cons, List.map_nil, Nat.reduceAdd, Nat.zero_add, Int.reduceAdd, Nat.reduceEqDiff, reduceIte, Classical.not_not, b_Md_keyAt]
            (repeat' (first | omega | (with_reducible exact True.intro) | exact ⟨by omega, by omega⟩ | (with_reducible exact Or.inr trivial) | (with_reducible exact Or.inl trivial) | (with_reducible assumption) | (with_reducible exact Same.refl) | (with_reducible rfl) | (with_reducible refine And.intro ?_ ?_) | (with_reducible intro _)))
            refine MS.to (c_JS_charAt (by omega) (by omega) (by rw [romN22, hlen]; omega)) fun _ => ?_
            rw [romA22]
            generalize rtxt2.getD (c + q) 0 = g at hne32 g1
            simp only [wR, wB, wE0, wE1, wE2, wE3, g0, gS, s10, s11, s1S, s20, s21, s2S, kl0, kl1, kl2, kl3, sp0, sp1, sp2, sp3, cn1, cn2, cn3, cn4, cn5, cn6, jJa, lk0, lk1, jmS, jmN, s4_0, s4_1, s4_2, s4_3, s4_4, sw0, sw1, cKs, cKn, true_and, and_true, List.map_cons, List.map_nil, Nat.reduceAdd, Nat.zero_add, Int.reduceAdd, Nat.reduceEqDiff, reduceIte, Classical.not_not, b_Md_keyAt, ce]
            (repeat' (first | omega | (with_reducible exact True.intro) | exact ⟨by omega, by omega⟩ | (with_reducible exact Or.inr trivial) | (with_reducible exact Or.inl trivial) | (with_reducible assumption) | (with_reducible exact Same.refl) | (with_reducible rfl) | (with_reducible refine And.intro ?_ ?_) | (with_reducible intro _)))
        have a69 : ∀ (q : Nat), q ≤ w.length → q ≤ j - i → (∀ y, y < q → w.getD y 0 = (t (i + y) : Int)) → (q < w.length → q < j - i → w.getD q 0 ≠ (t (i + q) : Int)) → AW G d mi_Md_keyAt Q 69 [some (vr 117), some (vi x), some (vi c), some (vi q)] [] M := by
          intro q q1 q2 q3 q4
          refine AW.run ck_Md_keyAt [97] 10 69 ?_
          simp only [wR, wB, wE0, wE1, wE2, wE3, g0, gS, s10, s11, s1S, s20, s21, s2S, kl0, kl1, kl2, kl3, sp0, sp1, sp2, sp3, cn1, cn2, cn3, cn4, cn5, cn6, jJa, lk0, lk1, jmS, jmN, s4_0, s4_1, s4_2, s4_3, s4_4, sw0, sw1, cKs, cKn, true_and, and_true, List.map_cons, List.map_nil, Nat.reduceAdd, Nat.zero_add, Int.reduceAdd, Nat.reduceEqDiff, reduceIte, Classical.not_not, b_Md_keyAt]
          (repeat' (first | omega | (with_reducible exact True.intro) | exact ⟨by omega, by omega⟩ | (with_reducible exact Or.inr trivial) | (with_reducible exact Or.inl trivial) | (with_reducible assumption) | (with_reducible exact Same.refl) | (with_reducible rfl) | (with_reducible refine And.intro ?_ ?_) | (with_reducible intro _)))
          refine MS.to (c_JS_charAt (i := ((c + q : Nat) : Int)) (by omega) (by omega) (by rw [romN22, hlen]; omega)) fun _ => ?_
          rw [romA22]
          by_cases e : q = w.length
          · rw [e, s1]
            by_cases e2 : i + q = j
            · have hw : w = slc t i j := word_eq (by omega) (fun y hy => q3 y (by omega))
              have hin : slc t i j ∈ MW := by rw [← hw]; exact hwm
              have hix : MW.idxOf (slc t i j) = x := by
                rw [← hw] at hnot ⊢
                have e3 : MW = MW.take x ++ w :: ws := by rw [← hx, List.take_append_drop]
                rw [e3, List.idxOf_append, if_neg hnot, List.idxOf_cons_self, List.length_take]
                have : MW.length = 20 := rfl
                omega
              have ew : wdM (slc t i j) = x := by unfold wdM; rw [if_pos hin, hix]
              subst hQ
              rw [ew]
              simp only [wR, wB, wE0, wE1, wE2, wE3, g0, gS, s10, s11, s1S, s20, s21, s2S, kl0, kl1, kl2, kl3, sp0, sp1, sp2, sp3, cn1, cn2, cn3, cn4, cn5, cn6, jJa, lk0, lk1, jmS, jmN, s4_0, s4_1, s4_2, s4_3, s4_4, sw0, sw1, cKs, cKn, true_and, and_true, List.map_cons, List.map_nil, Nat.reduceAdd, Nat.zero_add, Int.reduceAdd, Nat.reduceEqDiff, reduceIte, Classical.not_not, b_Md_keyAt, shMd, hi, hj, Int.reduceEq, not_true_eq_false, not_false_eq_true, false_imp_iff, true_imp_iff, and_self]
              (repeat' (first | omega | (with_reducible exact True.intro) | exact ⟨by omega, by omega⟩ | (with_reducible exact Or.inr trivial) | (with_reducible exact Or.inl trivial) | (with_reducible assumption) | (with_reducible exact Same.refl) | (with_reducible rfl) | (with_reducible refine And.intro ?_ ?_) | (with_reducible intro _)))
            · have := l97 (fun e3 => by have := (word_ne e3).1; omega) w.length 0 (some (vi q)) (by omega)
              rw [Nat.add_zero] at this
              rw [← e]
              simp only [wR, wB, wE0, wE1, wE2, wE3, g0, gS, s10, s11, s1S, s20, s21, s2S, kl0, kl1, kl2, kl3, sp0, sp1, sp2, sp3, cn1, cn2, cn3, cn4, cn5, cn6, jJa, lk0, lk1, jmS, jmN, s4_0, s4_1, s4_2, s4_3, s4_4, sw0, sw1, cKs, cKn, true_and, and_true, List.map_cons, List.map_nil, Nat.reduceAdd, Nat.zero_add, Int.reduceAdd, Nat.reduceEqDiff, reduceIte, Classical.not_not, b_Md_keyAt, shMd, hi, hj, Int.reduceEq, not_true_eq_false, not_false_eq_true, false_imp_iff, true_imp_iff, and_self]
              (repeat' (first | omega | (with_reducible exact True.intro) | exact ⟨by omega, by omega⟩ | (with_reducible exact Or.inr trivial) | (with_reducible exact Or.inl trivial) | (with_reducible assumption) | (with_reducible exact Same.refl) | (with_reducible rfl) | (with_reducible refine And.intro ?_ ?_) | (with_reducible intro _)))
          · obtain ⟨g1, g2⟩ := hgl q (by omega)
            have hne32 : rtxt2.getD (c + q) 0 ≠ 32 := by
              rw [g1]
              refine (hlet _ ?_).1
              rw [List.getD_eq_getElem?_getD, List.getElem?_eq_getElem (by omega)]
              exact List.getElem_mem _
            have := l97 (fun e3 => by
              obtain ⟨u1, u2⟩ := word_ne e3
              exact q4 (by omega) (by omega) (u2 q (by omega))) w.length 0 (some (vi q)) (by omega)
            rw [Nat.add_zero] at this
            generalize rtxt2.getD (c + q) 0 = g at hne32 g1
            simp only [wR, wB, wE0, wE1, wE2, wE3, g0, gS, s10, s11, s1S, s20, s21, s2S, kl0, kl1, kl2, kl3, sp0, sp1, sp2, sp3, cn1, cn2, cn3, cn4, cn5, cn6, jJa, lk0, lk1, jmS, jmN, s4_0, s4_1, s4_2, s4_3, s4_4, sw0, sw1, cKs, cKn, true_and, and_true, List.map_cons, List.map_nil, Nat.reduceAdd, Nat.zero_add, Int.reduceAdd, Nat.reduceEqDiff, reduceIte, Classical.not_not, b_Md_keyAt, shMd, hi, hj]
            (repeat' (first | omega | (with_reducible exact True.intro) | exact ⟨by omega, by omega⟩ | (with_reducible exact Or.inr trivial) | (with_reducible exact Or.inl trivial) | (with_reducible assumption) | (with_reducible exact Same.refl) | (with_reducible rfl) | (with_reducible refine And.intro ?_ ?_) | (with_reducible intro _)))
        have l15 : ∀ (r q : Nat), q + r = w.length → q ≤ j - i → (∀ y, y < q → w.getD y 0 = (t (i + y) : Int)) → AW G d mi_Md_keyAt Q 15 [some (vr 117), some (vi x), some (vi c), some (vi q)] [] M := by
          intro r
          induction r with
          | zero =>
            intro q hq q2 q3
            obtain rfl : q = w.length := by omega
            have := a69 w.length (Nat.le_refl _) q2 q3 (fun e => absurd e (by omega))
            refine AW.run ck_Md_keyAt [69] 10 15 ?_
            simp only [wR, wB, wE0, wE1, wE2, wE3, g0, gS, s10, s11, s1S, s20, s21, s2S, kl0, kl1, kl2, kl3, sp0, sp1, sp2, sp3, cn1, cn2, cn3, cn4, cn5, cn6, jJa, lk0, lk1, jmS, jmN, s4_0, s4_1, s4_2, s4_3, s4_4, sw0, sw1, cKs, cKn, true_and, and_true, List.map_cons, List.map_nil, Nat.reduceAdd, Nat.zero_add, Int.reduceAdd, Nat.reduceEqDiff, reduceIte, Classical.not_not, b_Md_keyAt]
            (repeat' (first | omega | (with_reducible exact True.intro) | exact ⟨by omega, by omega⟩ | (with_reducible exact Or.inr trivial) | (with_reducible exact Or.inl trivial) | (with_reducible assumption) | (with_reducible exact Same.refl) | (with_reducible rfl) | (with_reducible refine And.intro ?_ ?_) | (with_reducible intro _)))
            refine MS.to (c_JS_charAt (i := ((c + w.length : Nat) : Int)) (by omega) (by omega) (by rw [romN22, hlen]; omega)) fun _ => ?_
            rw [romA22, s1]
            simp only [wR, wB, wE0, wE1, wE2, wE3, g0, gS, s10, s11, s1S, s20, s21, s2S, kl0, kl1, kl2, kl3, sp0, sp1, sp2, sp3, cn1, cn2, cn3, cn4, cn5, cn6, jJa, lk0, lk1, jmS, jmN, s4_0, s4_1, s4_2, s4_3, s4_4, sw0, sw1, cKs, cKn, true_and, and_true, List.map_cons, List.map_nil, Nat.reduceAdd, Nat.zero_add, Int.reduceAdd, Nat.reduceEqDiff, reduceIte, Classical.not_not, b_Md_keyAt, Int.reduceEq, not_true_eq_false, not_false_eq_true, false_imp_iff, true_imp_iff, and_self]
            (repeat' (first | omega | (with_reducible exact True.intro) | exact ⟨by omega, by omega⟩ | (with_reducible exact Or.inr trivial) | (with_reducible exact Or.inl trivial) | (with_reducible assumption) | (with_reducible exact Same.refl) | (with_reducible rfl) | (with_reducible refine And.intro ?_ ?_) | (with_reducible intro _)))
          | succ r ihr =>
            intro q hq q2 q3
            obtain ⟨g1, g2⟩ := hgl q (by omega)
            have hne32 : rtxt2.getD (c + q) 0 ≠ 32 := by
              rw [g1]
              refine (hlet _ ?_).1
              rw [List.getD_eq_getElem?_getD, List.getElem?_eq_getElem (by omega)]
              exact List.getElem_mem _
            have k69 := a69 q (by omega) q2 q3
            have kih := ihr (q + 1) (by omega)
            rw [← g1] at k69
            have g1' := g1
            have kcall := fun (K : AM) => c_JS_charAt (G := G) (M := K) (d := d - 1) (z := -12) (i := ((c + q : Nat) : Int)) (by omega) (by omega) (by rw [romN22, hlen]; omega)
            rw [romA22] at kcall
            refine AW.run ck_Md_keyAt [69, 15] 10 15 ?_
            simp only [wR, wB, wE0, wE1, wE2, wE3, g0, gS, s10, s11, s1S, s20, s21, s2S, kl0, kl1, kl2, kl3, sp0, sp1, sp2, sp3, cn1, cn2, cn3, cn4, cn5, cn6, jJa, lk0, lk1, jmS, jmN, s4_0, s4_1, s4_2, s4_3, s4_4, sw0, sw1, cKs, cKn, true_and, and_true, List.map_cons, List.map_nil, Nat.reduceAdd, Nat.zero_add, Int.reduceAdd, Nat.reduceEqDiff, reduceIte, Classical.not_not, b_Md_keyAt]
            (repeat' (first | omega | (with_reducible exact True.intro) | exact ⟨by omega, by omega⟩ | (with_reducible exact Or.inr trivial) | (with_reducible exact Or.inl trivial) | (with_reducible assumption) | (with_reducible exact Same.refl) | (with_reducible rfl) | (with_reducible refine And.intro ?_ ?_) | (with_reducible intro _)))
            refine MS.to (kcall M) fun _ => ?_
            by_cases e : i + q < j
            · have et := h3 (i + q) (by omega)
              have ht := h4 (i + q)
              have et' := et
              rw [Int.natCast_add] at et'
              generalize rtxt2.getD (c + q) 0 = g at *
              simp only [wR, wB, wE0, wE1, wE2, wE3, g0, gS, s10, s11, s1S, s20, s21, s2S, kl0, kl1, kl2, kl3, sp0, sp1, sp2, sp3, cn1, cn2, cn3, cn4, cn5, cn6, jJa, lk0, lk1, jmS, jmN, s4_0, s4_1, s4_2, s4_3, s4_4, sw0, sw1, cKs, cKn, true_and, and_true, List.map_cons, List.map_nil, Nat.reduceAdd, Nat.zero_add, Int.reduceAdd, Nat.reduceEqDiff, reduceIte, Classical.not_not, b_Md_keyAt, shMd, hi, hj, ce, et]
              (repeat' (first | omega | (with_reducible exact True.intro) | exact ⟨by omega, by omega⟩ | (with_reducible exact Or.inr trivial) | (with_reducible exact Or.inl trivial) | (with_reducible assumption) | (with_reducible exact Same.refl) | (with_reducible rfl) | (with_reducible refine And.intro ?_ ?_) | (with_reducible intro _)))
              refine MS.to (kcall M) fun _ => ?_
              by_cases e2 : (t (i + q) : Int) = g
              · have := kih (by omega) (fun y hy => by
                  by_cases e3 : y = q
                  · rw [e3, ← g1, e2]
                  · exact q3 y (by omega))
                simp only [wR, wB, wE0, wE1, wE2, wE3, g0, gS, s10, s11, s1S, s20, s21, s2S, kl0, kl1, kl2, kl3, sp0, sp1, sp2, sp3, cn1, cn2, cn3, cn4, cn5, cn6, jJa, lk0, lk1, jmS, jmN, s4_0, s4_1, s4_2, s4_3, s4_4, sw0, sw1, cKs, cKn, true_and, and_true, List.map_cons, List.map_nil, Nat.reduceAdd, Nat.zero_add, Int.reduceAdd, Nat.reduceEqDiff, reduceIte, Classical.not_not, b_Md_keyAt, ce]
                (repeat' (first | omega | (with_reducible exact True.intro) | exact ⟨by omega, by omega⟩ | (with_reducible exact Or.inr trivial) | (with_reducible exact Or.inl trivial) | (with_reducible assumption) | (with_reducible exact Same.refl) | (with_reducible rfl) | (with_reducible refine And.intro ?_ ?_) | (with_reducible intro _)))
              · have := k69 (fun _ _ e3 => e2 e3.symm)
                simp only [wR, wB, wE0, wE1, wE2, wE3, g0, gS, s10, s11, s1S, s20, s21, s2S, kl0, kl1, kl2, kl3, sp0, sp1, sp2, sp3, cn1, cn2, cn3, cn4, cn5, cn6, jJa, lk0, lk1, jmS, jmN, s4_0, s4_1, s4_2, s4_3, s4_4, sw0, sw1, cKs, cKn, true_and, and_true, List.map_cons, List.map_nil, Nat.reduceAdd, Nat.zero_add, Int.reduceAdd, Nat.reduceEqDiff, reduceIte, Classical.not_not, b_Md_keyAt, ce]
                (repeat' (first | omega | (with_reducible exact True.intro) | exact ⟨by omega, by omega⟩ | (with_reducible exact Or.inr trivial) | (with_reducible exact Or.inl trivial) | (with_reducible assumption) | (with_reducible exact Same.refl) | (with_reducible rfl) | (with_reducible refine And.intro ?_ ?_) | (with_reducible intro _)))
            · have := k69 (fun _ e3 => absurd e3 (by omega))
              generalize rtxt2.getD (c + q) 0 = g at *
              simp only [wR, wB, wE0, wE1, wE2, wE3, g0, gS, s10, s11, s1S, s20, s21, s2S, kl0, kl1, kl2, kl3, sp0, sp1, sp2, sp3, cn1, cn2, cn3, cn4, cn5, cn6, jJa, lk0, lk1, jmS, jmN, s4_0, s4_1, s4_2, s4_3, s4_4, sw0, sw1, cKs, cKn, true_and, and_true, List.map_cons, List.map_nil, Nat.reduceAdd, Nat.zero_add, Int.reduceAdd, Nat.reduceEqDiff, reduceIte, Classical.not_not, b_Md_keyAt, shMd, hi, hj]
              (repeat' (first | omega | (with_reducible exact True.intro) | exact ⟨by omega, by omega⟩ | (with_reducible exact Or.inr trivial) | (with_reducible exact Or.inl trivial) | (with_reducible assumption) | (with_reducible exact Same.refl) | (with_reducible rfl) | (with_reducible refine And.intro ?_ ?_) | (with_reducible intro _)))
        have := l15 w.length 0 (by omega) (by omega) (fun y hy => absurd hy (by omega))
        refine AW.run ck_Md_keyAt [15] 10 4 ?_
        simp only [wR, wB, wE0, wE1, wE2, wE3, g0, gS, s10, s11, s1S, s20, s21, s2S, kl0, kl1, kl2, kl3, sp0, sp1, sp2, sp3, cn1, cn2, cn3, cn4, cn5, cn6, jJa, lk0, lk1, jmS, jmN, s4_0, s4_1, s4_2, s4_3, s4_4, sw0, sw1, cKs, cKn, true_and, and_true, List.map_cons, List.map_nil, Nat.reduceAdd, Nat.zero_add, Int.reduceAdd, Nat.reduceEqDiff, reduceIte, Classical.not_not, b_Md_keyAt]
        (repeat' (first | omega | (with_reducible exact True.intro) | exact ⟨by omega, by omega⟩ | (with_reducible exact Or.inr trivial) | (with_reducible exact Or.inl trivial) | (with_reducible assumption) | (with_reducible exact Same.refl) | (with_reducible rfl) | (with_reducible refine And.intro ?_ ?_) | (with_reducible intro _)))
        refine MS.to (c_JS_length (by omega) (by omega)) fun _ => ?_
        rw [romN22, hlen]
        simp only [wR, wB, wE0, wE1, wE2, wE3, g0, gS, s10, s11, s1S, s20, s21, s2S, kl0, kl1, kl2, kl3, sp0, sp1, sp2, sp3, cn1, cn2, cn3, cn4, cn5, cn6, jJa, lk0, lk1, jmS, jmN, s4_0, s4_1, s4_2, s4_3, s4_4, sw0, sw1, cKs, cKn, true_and, and_true, List.map_cons, List.map_nil, Nat.reduceAdd, Nat.zero_add, Int.reduceAdd, Nat.reduceEqDiff, reduceIte, Classical.not_not, b_Md_keyAt]
        (repeat' (first | omega | (with_reducible exact True.intro) | exact ⟨by omega, by omega⟩ | (with_reducible exact Or.inr trivial) | (with_reducible exact Or.inl trivial) | (with_reducible assumption) | (with_reducible exact Same.refl) | (with_reducible rfl) | (with_reducible refine And.intro ?_ ?_) | (with_reducible intro _)))
  have := l4 MW 0 1 none (by rw [txt2_eq]; rfl) rfl rfl (by decide +kernel) (by simp)
  refine AW.run ck_Md_keyAt [4] 10 0 ?_
  simp only [wR, wB, wE0, wE1, wE2, wE3, g0, gS, s10, s11, s1S, s20, s21, s2S, kl0, kl1, kl2, kl3, sp0, sp1, sp2, sp3, cn1, cn2, cn3, cn4, cn5, cn6, jJa, lk0, lk1, jmS, jmN, s4_0, s4_1, s4_2, s4_3, s4_4, sw0, sw1, cKs, cKn, true_and, and_true, List.map_cons, List.map_nil, Nat.reduceAdd, Nat.zero_add, Int.reduceAdd, Nat.reduceEqDiff, reduceIte, Classical.not_not, b_Md_keyAt]
  exact this
end ML
