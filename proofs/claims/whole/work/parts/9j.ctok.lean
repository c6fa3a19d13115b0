section CT
variable {G : AG} {d : Nat} {M : AM} {t : Nat → Nat} {n : Nat}
theorem romA20 {i : Nat} : romA (-10 - 10) (i : Int) = rtxt0.getD i 0 := rfl
theorem romN20 : romN (-10 - 10) = (rtxt0.length : Int) := rfl
theorem txt0_len : rtxt0.length = 106 := by decide +kernel
theorem c_Rd_wordOf {i j : Nat} (hd : 5 ≤ d) (hT : TxC M t n) (hij : i ≤ j) (hjn : j ≤ n) : MS G d mi_Rd_wordOf [vr 2, vi i, vi j] M (fun r M' => r = some (vi (wdC (slc t i j))) ∧ M' = M) := by
  have hn := hT.2.2.1
  refine MS.by ck_Rd_wordOf [some (vr 2), some (vi i), some (vi j), none, none, none, none, none] fun _ _ => ?_
  generalize hQ : (fun (r : Option AV) (M' : AM) => r = some (vi (wdC (slc t i j))) ∧ M' = M) = Q
  have hlen := txt0_len
  have l11 : ∀ (ws : List (List Int)) (x c : Nat) (l7 : Option AV), rtxt0.drop c = fltW ws → CWd.drop x = ws → x + ws.length = 20 → c + (fltW ws).length = 106 → ¬ slc t i j ∈ CWd.take x → AW G d mi_Rd_wordOf Q 11 [some (vr 2), some (vi i), some (vi j), some (vi x), some (vi i), some (vi 1), some (vi c), l7] [] M := by
    as_aux_lemma =>
      intro ws
      induction ws with
      | nil =>
        intro x c l7 hc hx hx2 hc2 hnot
        have e0 : slc t i j ∉ CWd := by
          have : x = 20 := by simpa using hx2
          subst this
          exact hnot
        have ew : wdC (slc t i j) = 20 := by unfold wdC; rw [if_neg e0]
        have hc3 : c = 106 := by simpa [fltW] using hc2
        refine AW.run ck_Rd_wordOf [98] 10 11 ?_
        simp only [wR, wB, wE0, wE1, wE2, wE3, g0, gS, s10, s11, s1S, s20, s21, s2S, kl0, kl1, kl2, kl3, sp0, sp1, sp2, sp3, cn1, cn2, cn3, cn4, cn5, cn6, jJa, lk0, lk1, jmS, jmN, s4_0, s4_1, s4_2, s4_3, s4_4, sw0, sw1, cKs, cKn, true_and, and_true, List.map_cons, List.map_nil, Nat.reduceAdd, Nat.zero_add, Int.reduceAdd, Nat.reduceEqDiff, reduceIte, Classical.not_not, b_Rd_wordOf]
        (repeat' (first | omega | (with_reducible exact True.intro) | exact ⟨by omega, by omega⟩ | (with_reducible exact Or.inr trivial) | (with_reducible exact Or.inl trivial) | (with_reducible assumption) | (with_reducible exact Same.refl) | (with_reducible rfl) | (with_reducible refine And.intro ?_ ?_) | (with_reducible intro _)))
        refine MS.to (c_JS_length (by omega) (by omega)) fun _ => ?_
        rw [romN20, hlen]
        subst hQ
        rw [ew]
        simp only [wR, wB, wE0, wE1, wE2, wE3, g0, gS, s10, s11, s1S, s20, s21, s2S, kl0, kl1, kl2, kl3, sp0, sp1, sp2, sp3, cn1, cn2, cn3, cn4, cn5, cn6, jJa, lk0, lk1, jmS, jmN, s4_0, s4_1, s4_2, s4_3, s4_4, sw0, sw1, cKs, cKn, true_and, and_true, List.map_cons, List.map_nil, Nat.reduceAdd, Nat.zero_add, Int.reduceAdd, Nat.reduceEqDiff, reduceIte, Classical.not_not, b_Rd_wordOf]
        (repeat' (first | omega | (with_reducible exact True.intro) | exact ⟨by omega, by omega⟩ | (with_reducible exact Or.inr trivial) | (with_reducible exact Or.inl trivial) | (with_reducible assumption) | (with_reducible exact Same.refl) | (with_reducible rfl) | (with_reducible refine And.intro ?_ ?_) | (with_reducible intro _)))
        all_goals rfl
      | cons w ws ih =>
        intro x c l7 hc hx hx2 hc2 hnot
        have hwm : w ∈ CWd := by
          have : w ∈ CWd.drop x := by rw [hx]; exact List.mem_cons_self
          exact List.mem_of_mem_drop this
        have hlet := CW_let w hwm
        have hdr : rtxt0.drop c = w ++ 32 :: fltW ws := hc
        obtain ⟨s1, s2, s3⟩ := drop_sp hdr
        have hgl := fun q hq => drop_lt (q := q) hdr hq
        have hx3 : x < 20 := by simp only [List.length_cons] at hx2; omega
        have hlen2 : c + w.length + 1 + (fltW ws).length = 106 := by simp only [fltW, List.length_append, List.length_cons] at hc2; omega
        have htk : CWd.take (x + 1) = CWd.take x ++ [w] := by
          have e : CWd[x]? = some w := by
            have : (CWd.drop x)[0]? = some w := by rw [hx]; rfl
            rwa [List.getElem?_drop, Nat.add_zero] at this
          rw [List.take_add_one, e]; rfl
        have l : ∀ (r q f : Nat) (l7 : Option AV), q + r = w.length → f ≤ 1 → (f = 1 ↔ q ≤ j - i ∧ ∀ y, y < q → w.getD y 0 = (t (i + y) : Int)) → AW G d mi_Rd_wordOf Q 11 [some (vr 2), some (vi i), some (vi j), some (vi x), some (vi ((i + q : Nat) : Int)), some (vi f), some (vi ((c + q : Nat) : Int)), l7] [] M := by
          intro r
          induction r with
          | zero =>
            intro q f l7 hq hf hfi
            obtain rfl : q = w.length := by omega
            have hca := c_JS_charAt (G := G) (M := M) (d := d - 1) (z := -10) (i := ((c + w.length : Nat) : Int)) (by omega) (by omega) (by rw [romN20, hlen]; omega)
            rw [romA20, s1] at hca
            have hcl := c_JS_length (G := G) (M := M) (d := d - 1) (z := -10) (by omega) (by omega)
            rw [romN20, hlen] at hcl
            by_cases qm : f = 1 ∧ i + w.length = j
            · have hw : w = slc t i j := word_eq (by omega) (fun y hy => (hfi.mp qm.1).2 y hy)
              have hin : slc t i j ∈ CWd := by rw [← hw]; exact hwm
              have hix : CWd.idxOf (slc t i j) = x := by
                rw [← hw] at hnot ⊢
                have e3 : CWd = CWd.take x ++ w :: ws := by rw [← hx, List.take_append_drop]
                rw [e3, List.idxOf_append, if_neg hnot, List.idxOf_cons_self, List.length_take]
                have : CWd.length = 20 := rfl
                omega
              have ew : wdC (slc t i j) = x := by unfold wdC; rw [if_pos hin, hix]
              obtain ⟨rfl, qm2⟩ := qm
              subst hQ
              rw [ew]
              refine AW.run ck_Rd_wordOf [98] 10 11 ?_
              simp only [wR, wB, wE0, wE1, wE2, wE3, g0, gS, s10, s11, s1S, s20, s21, s2S, kl0, kl1, kl2, kl3, sp0, sp1, sp2, sp3, cn1, cn2, cn3, cn4, cn5, cn6, jJa, lk0, lk1, jmS, jmN, s4_0, s4_1, s4_2, s4_3, s4_4, sw0, sw1, cKs, cKn, true_and, and_true, List.map_cons, List.map_nil, Nat.reduceAdd, Nat.zero_add, Int.reduceAdd, Nat.reduceEqDiff, reduceIte, Classical.not_not, b_Rd_wordOf]
              (repeat' (first | omega | (with_reducible exact True.intro) | exact ⟨by omega, by omega⟩ | (with_reducible exact Or.inr trivial) | (with_reducible exact Or.inl trivial) | (with_reducible assumption) | (with_reducible exact Same.refl) | (with_reducible rfl) | (with_reducible refine And.intro ?_ ?_) | (with_reducible intro _)))
              refine MS.to hcl fun _ => ?_
              simp only [wR, wB, wE0, wE1, wE2, wE3, g0, gS, s10, s11, s1S, s20, s21, s2S, kl0, kl1, kl2, kl3, sp0, sp1, sp2, sp3, cn1, cn2, cn3, cn4, cn5, cn6, jJa, lk0, lk1, jmS, jmN, s4_0, s4_1, s4_2, s4_3, s4_4, sw0, sw1, cKs, cKn, true_and, and_true, List.map_cons, List.map_nil, Nat.reduceAdd, Nat.zero_add, Int.reduceAdd, Nat.reduceEqDiff, reduceIte, Classical.not_not, b_Rd_wordOf]
              (repeat' (first | omega | (with_reducible exact True.intro) | exact ⟨by omega, by omega⟩ | (with_reducible exact Or.inr trivial) | (with_reducible exact Or.inl trivial) | (with_reducible assumption) | (with_reducible exact Same.refl) | (with_reducible rfl) | (with_reducible refine And.intro ?_ ?_) | (with_reducible intro _)))
              refine MS.to hca fun _ => ?_
              simp only [wR, wB, wE0, wE1, wE2, wE3, g0, gS, s10, s11, s1S, s20, s21, s2S, kl0, kl1, kl2, kl3, sp0, sp1, sp2, sp3, cn1, cn2, cn3, cn4, cn5, cn6, jJa, lk0, lk1, jmS, jmN, s4_0, s4_1, s4_2, s4_3, s4_4, sw0, sw1, cKs, cKn, true_and, and_true, List.map_cons, List.map_nil, Nat.reduceAdd, Nat.zero_add, Int.reduceAdd, Nat.reduceEqDiff, reduceIte, Classical.not_not, b_Rd_wordOf, Int.reduceEq, not_true_eq_false, not_false_eq_true, false_imp_iff, true_imp_iff, and_self]
              (repeat' (first | omega | (with_reducible exact True.intro) | exact ⟨by omega, by omega⟩ | (with_reducible exact Or.inr trivial) | (with_reducible exact Or.inl trivial) | (with_reducible assumption) | (with_reducible exact Same.refl) | (with_reducible rfl) | (with_reducible refine And.intro ?_ ?_) | (with_reducible intro _)))
            · have a98 := ih (x + 1) (c + w.length + 1) (some (vi 32)) s3 (by
                have : CWd.drop (x + 1) = (CWd.drop x).drop 1 := by rw [List.drop_drop]
                rw [this, hx]; rfl) (by simp only [List.length_cons] at hx2; omega) (by omega) (by
                rw [htk, List.mem_append, List.mem_singleton]
                rintro (e | e)
                · exact hnot e
                · obtain ⟨u1, u2⟩ := word_ne e.symm
                  exact qm ⟨hfi.mpr ⟨by omega, u2⟩, by omega⟩)
              have b98 : AW G d mi_Rd_wordOf Q 98 [some (vr 2), some (vi i), some (vi j), some (vi ((x + 1 : Nat) : Int)), some (vi i), some (vi 1), some (vi ((c + w.length : Nat) : Int)), some (vi 32)] [] M := by
                refine AW.run ck_Rd_wordOf [11] 10 98 ?_
                simp only [wR, wB, wE0, wE1, wE2, wE3, g0, gS, s10, s11, s1S, s20, s21, s2S, kl0, kl1, kl2, kl3, sp0, sp1, sp2, sp3, cn1, cn2, cn3, cn4, cn5, cn6, jJa, lk0, lk1, jmS, jmN, s4_0, s4_1, s4_2, s4_3, s4_4, sw0, sw1, cKs, cKn, true_and, and_true, List.map_cons, List.map_nil, Nat.reduceAdd, Nat.zero_add, Int.reduceAdd, Nat.reduceEqDiff, reduceIte, Classical.not_not, b_Rd_wordOf, ce]
                (repeat' (first | omega | (with_reducible exact True.intro) | exact ⟨by omega, by omega⟩ | (with_reducible exact Or.inr trivial) | (with_reducible exact Or.inl trivial) | (with_reducible assumption) | (with_reducible exact Same.refl) | (with_reducible rfl) | (with_reducible refine And.intro ?_ ?_) | (with_reducible intro _)))
              refine AW.run ck_Rd_wordOf [98] 10 11 ?_
              simp only [wR, wB, wE0, wE1, wE2, wE3, g0, gS, s10, s11, s1S, s20, s21, s2S, kl0, kl1, kl2, kl3, sp0, sp1, sp2, sp3, cn1, cn2, cn3, cn4, cn5, cn6, jJa, lk0, lk1, jmS, jmN, s4_0, s4_1, s4_2, s4_3, s4_4, sw0, sw1, cKs, cKn, true_and, and_true, List.map_cons, List.map_nil, Nat.reduceAdd, Nat.zero_add, Int.reduceAdd, Nat.reduceEqDiff, reduceIte, Classical.not_not, b_Rd_wordOf]
              (repeat' (first | omega | (with_reducible exact True.intro) | exact ⟨by omega, by omega⟩ | (with_reducible exact Or.inr trivial) | (with_reducible exact Or.inl trivial) | (with_reducible assumption) | (with_reducible exact Same.refl) | (with_reducible rfl) | (with_reducible refine And.intro ?_ ?_) | (with_reducible intro _)))
              refine MS.to hcl fun _ => ?_
              simp only [wR, wB, wE0, wE1, wE2, wE3, g0, gS, s10, s11, s1S, s20, s21, s2S, kl0, kl1, kl2, kl3, sp0, sp1, sp2, sp3, cn1, cn2, cn3, cn4, cn5, cn6, jJa, lk0, lk1, jmS, jmN, s4_0, s4_1, s4_2, s4_3, s4_4, sw0, sw1, cKs, cKn, true_and, and_true, List.map_cons, List.map_nil, Nat.reduceAdd, Nat.zero_add, Int.reduceAdd, Nat.reduceEqDiff, reduceIte, Classical.not_not, b_Rd_wordOf]
              (repeat' (first | omega | (with_reducible exact True.intro) | exact ⟨by omega, by omega⟩ | (with_reducible exact Or.inr trivial) | (with_reducible exact Or.inl trivial) | (with_reducible assumption) | (with_reducible exact Same.refl) | (with_reducible rfl) | (with_reducible refine And.intro ?_ ?_) | (with_reducible intro _)))
              refine MS.to hca fun _ => ?_
              simp only [wR, wB, wE0, wE1, wE2, wE3, g0, gS, s10, s11, s1S, s20, s21, s2S, kl0, kl1, kl2, kl3, sp0, sp1, sp2, sp3, cn1, cn2, cn3, cn4, cn5, cn6, jJa, lk0, lk1, jmS, jmN, s4_0, s4_1, s4_2, s4_3, s4_4, sw0, sw1, cKs, cKn, true_and, and_true, List.map_cons, List.map_nil, Nat.reduceAdd, Nat.zero_add, Int.reduceAdd, Nat.reduceEqDiff, reduceIte, Classical.not_not, b_Rd_wordOf, Int.reduceEq, not_true_eq_false, not_false_eq_true, false_imp_iff, true_imp_iff, and_self, ce]
              (repeat' (first | omega | (with_reducible exact True.intro) | exact ⟨by omega, by omega⟩ | (with_reducible exact Or.inr trivial) | (with_reducible exact Or.inl trivial) | (with_reducible assumption) | (with_reducible exact Same.refl) | (with_reducible rfl) | (with_reducible refine And.intro ?_ ?_) | (with_reducible intro _)))
          | succ r ihr =>
            intro q f l7 hq hf hfi
            obtain ⟨g1, g2⟩ := hgl q (by omega)
            have hne32 : rtxt0.getD (c + q) 0 ≠ 32 := by
              rw [g1]
              refine (hlet _ ?_).1
              rw [List.getD_eq_getElem?_getD, List.getElem?_eq_getElem (by omega)]
              exact List.getElem_mem _
            have hca := c_JS_charAt (G := G) (M := M) (d := d - 1) (z := -10) (i := ((c + q : Nat) : Int)) (by omega) (by omega) (by rw [romN20, hlen]; omega)
            rw [romA20] at hca
            have hcl := c_JS_length (G := G) (M := M) (d := d - 1) (z := -10) (by omega) (by omega)
            rw [romN20, hlen] at hcl
            generalize rtxt0.getD (c + q) 0 = g at *
            have a64 : ∀ f' : Nat, f' ≤ 1 → (f' = 1 ↔ q + 1 ≤ j - i ∧ ∀ y, y < q + 1 → w.getD y 0 = (t (i + y) : Int)) → AW G d mi_Rd_wordOf Q 64 [some (vr 2), some (vi i), some (vi j), some (vi x), some (vi ((i + q : Nat) : Int)), some (vi f), some (vi ((c + q : Nat) : Int)), some (vi g)] [vi f'] M := by
              intro f' c1 c2
              have := ihr (q + 1) f' (some (vi g)) (by omega) c1 c2
              have b98 : AW G d mi_Rd_wordOf Q 98 [some (vr 2), some (vi i), some (vi j), some (vi x), some (vi ((i + q + 1 : Nat) : Int)), some (vi f'), some (vi ((c + q : Nat) : Int)), some (vi g)] [] M := by
                refine AW.run ck_Rd_wordOf [11] 10 98 ?_
                simp only [wR, wB, wE0, wE1, wE2, wE3, g0, gS, s10, s11, s1S, s20, s21, s2S, kl0, kl1, kl2, kl3, sp0, sp1, sp2, sp3, cn1, cn2, cn3, cn4, cn5, cn6, jJa, lk0, lk1, jmS, jmN, s4_0, s4_1, s4_2, s4_3, s4_4, sw0, sw1, cKs, cKn, true_and, and_true, List.map_cons, List.map_nil, Nat.reduceAdd, Nat.zero_add, Int.reduceAdd, Nat.reduceEqDiff, reduceIte, Classical.not_not, b_Rd_wordOf, ce]
                (repeat' (first | omega | (with_reducible exact True.intro) | exact ⟨by omega, by omega⟩ | (with_reducible exact Or.inr trivial) | (with_reducible exact Or.inl trivial) | (with_reducible assumption) | (with_reducible exact Same.refl) | (with_reducible rfl) | (with_reducible refine And.intro ?_ ?_) | (with_reducible intro _)))
              refine AW.run ck_Rd_wordOf [98] 10 64 ?_
              simp only [wR, wB, wE0, wE1, wE2, wE3, g0, gS, s10, s11, s1S, s20, s21, s2S, kl0, kl1, kl2, kl3, sp0, sp1, sp2, sp3, cn1, cn2, cn3, cn4, cn5, cn6, jJa, lk0, lk1, jmS, jmN, s4_0, s4_1, s4_2, s4_3, s4_4, sw0, sw1, cKs, cKn, true_and, and_true, List.map_cons, List.map_nil, Nat.reduceAdd, Nat.zero_add, Int.reduceAdd, Nat.reduceEqDiff, reduceIte, Classical.not_not, b_Rd_wordOf, ce]
              (repeat' (first | omega | (with_reducible exact True.intro) | exact ⟨by omega, by omega⟩ | (with_reducible exact Or.inr trivial) | (with_reducible exact Or.inl trivial) | (with_reducible assumption) | (with_reducible exact Same.refl) | (with_reducible rfl) | (with_reducible refine And.intro ?_ ?_) | (with_reducible intro _)))
            refine AW.run ck_Rd_wordOf [64, 98] 10 11 ?_
            simp only [wR, wB, wE0, wE1, wE2, wE3, g0, gS, s10, s11, s1S, s20, s21, s2S, kl0, kl1, kl2, kl3, sp0, sp1, sp2, sp3, cn1, cn2, cn3, cn4, cn5, cn6, jJa, lk0, lk1, jmS, jmN, s4_0, s4_1, s4_2, s4_3, s4_4, sw0, sw1, cKs, cKn, true_and, and_true, List.map_cons, List.map_nil, Nat.reduceAdd, Nat.zero_add, Int.reduceAdd, Nat.reduceEqDiff, reduceIte, Classical.not_not, b_Rd_wordOf]
            (repeat' (first | omega | (with_reducible exact True.intro) | exact ⟨by omega, by omega⟩ | (with_reducible exact Or.inr trivial) | (with_reducible exact Or.inl trivial) | (with_reducible assumption) | (with_reducible exact Same.refl) | (with_reducible rfl) | (with_reducible refine And.intro ?_ ?_) | (with_reducible intro _)))
            refine MS.to hcl fun _ => ?_
            simp only [wR, wB, wE0, wE1, wE2, wE3, g0, gS, s10, s11, s1S, s20, s21, s2S, kl0, kl1, kl2, kl3, sp0, sp1, sp2, sp3, cn1, cn2, cn3, cn4, cn5, cn6, jJa, lk0, lk1, jmS, jmN, s4_0, s4_1, s4_2, s4_3, s4_4, sw0, sw1, cKs, cKn, true_and, and_true, List.map_cons, List.map_nil, Nat.reduceAdd, Nat.zero_add, Int.reduceAdd, Nat.reduceEqDiff, reduceIte, Classical.not_not, b_Rd_wordOf]
            (repeat' (first | omega | (with_reducible exact True.intro) | exact ⟨by omega, by omega⟩ | (with_reducible exact Or.inr trivial) | (with_reducible exact Or.inl trivial) | (with_reducible assumption) | (with_reducible exact Same.refl) | (with_reducible rfl) | (with_reducible refine And.intro ?_ ?_) | (with_reducible intro _)))
            refine MS.to hca fun _ => ?_
            by_cases qf : f = 1
            · subst qf
              have hff := hfi.mp rfl
              by_cases qj : i + q < j
              · have hsee := c_Rd_letterAt (G := G) (d := d - 1) (i := i + q) hT
                rw [ltr_in (by omega)] at hsee
                simp only [wR, wB, wE0, wE1, wE2, wE3, g0, gS, s10, s11, s1S, s20, s21, s2S, kl0, kl1, kl2, kl3, sp0, sp1, sp2, sp3, cn1, cn2, cn3, cn4, cn5, cn6, jJa, lk0, lk1, jmS, jmN, s4_0, s4_1, s4_2, s4_3, s4_4, sw0, sw1, cKs, cKn, true_and, and_true, List.map_cons, List.map_nil, Nat.reduceAdd, Nat.zero_add, Int.reduceAdd, Nat.reduceEqDiff, reduceIte, Classical.not_not, b_Rd_wordOf, Int.reduceEq, not_true_eq_false, not_false_eq_true, false_imp_iff, true_imp_iff, and_self, shH]
                (repeat' (first | omega | (with_reducible exact True.intro) | exact ⟨by omega, by omega⟩ | (with_reducible exact Or.inr trivial) | (with_reducible exact Or.inl trivial) | (with_reducible assumption) | (with_reducible exact Same.refl) | (with_reducible rfl) | (with_reducible refine And.intro ?_ ?_) | (with_reducible intro _)))
                refine MS.to hsee fun _ => ?_
                by_cases qe : (t (i + q) : Int) = g
                · have := a64 1 (by omega) ⟨fun _ => ⟨by omega, fun y hy => by
                    by_cases e3 : y = q
                    · rw [e3, ← g1, qe]
                    · exact hff.2 y (by omega)⟩, fun _ => rfl⟩
                  simp only [wR, wB, wE0, wE1, wE2, wE3, g0, gS, s10, s11, s1S, s20, s21, s2S, kl0, kl1, kl2, kl3, sp0, sp1, sp2, sp3, cn1, cn2, cn3, cn4, cn5, cn6, jJa, lk0, lk1, jmS, jmN, s4_0, s4_1, s4_2, s4_3, s4_4, sw0, sw1, cKs, cKn, true_and, and_true, List.map_cons, List.map_nil, Nat.reduceAdd, Nat.zero_add, Int.reduceAdd, Nat.reduceEqDiff, reduceIte, Classical.not_not, b_Rd_wordOf, Int.reduceEq, not_true_eq_false, not_false_eq_true, false_imp_iff, true_imp_iff, and_self]
                  (repeat' (first | omega | (with_reducible exact True.intro) | exact ⟨by omega, by omega⟩ | (with_reducible exact Or.inr trivial) | (with_reducible exact Or.inl trivial) | (with_reducible assumption) | (with_reducible exact Same.refl) | (with_reducible rfl) | (with_reducible refine And.intro ?_ ?_) | (with_reducible intro _)))
                · have := a64 0 (by omega) ⟨fun e => absurd e (by omega), fun e => absurd (by rw [← e.2 q (by omega), g1]) qe⟩
                  simp only [wR, wB, wE0, wE1, wE2, wE3, g0, gS, s10, s11, s1S, s20, s21, s2S, kl0, kl1, kl2, kl3, sp0, sp1, sp2, sp3, cn1, cn2, cn3, cn4, cn5, cn6, jJa, lk0, lk1, jmS, jmN, s4_0, s4_1, s4_2, s4_3, s4_4, sw0, sw1, cKs, cKn, true_and, and_true, List.map_cons, List.map_nil, Nat.reduceAdd, Nat.zero_add, Int.reduceAdd, Nat.reduceEqDiff, reduceIte, Classical.not_not, b_Rd_wordOf, Int.reduceEq, not_true_eq_false, not_false_eq_true, false_imp_iff, true_imp_iff, and_self]
                  (repeat' (first | omega | (with_reducible exact True.intro) | exact ⟨by omega, by omega⟩ | (with_reducible exact Or.inr trivial) | (with_reducible exact Or.inl trivial) | (with_reducible assumption) | (with_reducible exact Same.refl) | (with_reducible rfl) | (with_reducible refine And.intro ?_ ?_) | (with_reducible intro _)))
              · have := a64 0 (by omega) ⟨fun e => absurd e (by omega), fun e => absurd e.1 (by omega)⟩
                simp only [wR, wB, wE0, wE1, wE2, wE3, g0, gS, s10, s11, s1S, s20, s21, s2S, kl0, kl1, kl2, kl3, sp0, sp1, sp2, sp3, cn1, cn2, cn3, cn4, cn5, cn6, jJa, lk0, lk1, jmS, jmN, s4_0, s4_1, s4_2, s4_3, s4_4, sw0, sw1, cKs, cKn, true_and, and_true, List.map_cons, List.map_nil, Nat.reduceAdd, Nat.zero_add, Int.reduceAdd, Nat.reduceEqDiff, reduceIte, Classical.not_not, b_Rd_wordOf, Int.reduceEq, not_true_eq_false, not_false_eq_true, false_imp_iff, true_imp_iff, and_self]
                (repeat' (first | omega | (with_reducible exact True.intro) | exact ⟨by omega, by omega⟩ | (with_reducible exact Or.inr trivial) | (with_reducible exact Or.inl trivial) | (with_reducible assumption) | (with_reducible exact Same.refl) | (with_reducible rfl) | (with_reducible refine And.intro ?_ ?_) | (with_reducible intro _)))
            · obtain rfl : f = 0 := by omega
              have := a64 0 (by omega) ⟨fun e => absurd e (by omega), fun e => absurd (hfi.mpr ⟨by omega, fun y hy => e.2 y (by omega)⟩) (by omega)⟩
              simp only [wR, wB, wE0, wE1, wE2, wE3, g0, gS, s10, s11, s1S, s20, s21, s2S, kl0, kl1, kl2, kl3, sp0, sp1, sp2, sp3, cn1, cn2, cn3, cn4, cn5, cn6, jJa, lk0, lk1, jmS, jmN, s4_0, s4_1, s4_2, s4_3, s4_4, sw0, sw1, cKs, cKn, true_and, and_true, List.map_cons, List.map_nil, Nat.reduceAdd, Nat.zero_add, Int.reduceAdd, Nat.reduceEqDiff, reduceIte, Classical.not_not, b_Rd_wordOf, Int.reduceEq, not_true_eq_false, not_false_eq_true, false_imp_iff, true_imp_iff, and_self, nc0]
              (repeat' (first | omega | (with_reducible exact True.intro) | exact ⟨by omega, by omega⟩ | (with_reducible exact Or.inr trivial) | (with_reducible exact Or.inl trivial) | (with_reducible assumption) | (with_reducible exact Same.refl) | (with_reducible rfl) | (with_reducible refine And.intro ?_ ?_) | (with_reducible intro _)))
        have := l w.length 0 1 l7 (by omega) (by omega) ⟨fun _ => ⟨by omega, fun y hy => absurd hy (by omega)⟩, fun _ => rfl⟩
        rw [Nat.add_zero, Nat.add_zero] at this
        exact this
  have := l11 CWd 0 0 none (by rw [txt0_eq]; rfl) rfl rfl (by decide +kernel) (by simp)
  refine AW.run ck_Rd_wordOf [11] 10 0 ?_
  simp only [wR, wB, wE0, wE1, wE2, wE3, g0, gS, s10, s11, s1S, s20, s21, s2S, kl0, kl1, kl2, kl3, sp0, sp1, sp2, sp3, cn1, cn2, cn3, cn4, cn5, cn6, jJa, lk0, lk1, jmS, jmN, s4_0, s4_1, s4_2, s4_3, s4_4, sw0, sw1, cKs, cKn, true_and, and_true, List.map_cons, List.map_nil, Nat.reduceAdd, Nat.zero_add, Int.reduceAdd, Nat.reduceEqDiff, reduceIte, Classical.not_not, b_Rd_wordOf]
  exact this
theorem c_Rd_valueOf {i j : Nat} (hd : 2 ≤ d) (hT : TxC M t n) (hij : i ≤ j) (h3 : j ≤ i + 3) (hjn : j ≤ n) (hdg : ∀ k, i ≤ k → k < j → 48 ≤ t k ∧ t k ≤ 57) : MS G d mi_Rd_valueOf [vr 2, vi i, vi j] M (fun r M' => r = some (vi (vlu t i (j - i))) ∧ M' = M) := by
  have hn := hT.2.2.1
  refine MS.by ck_Rd_valueOf [some (vr 2), some (vi i), some (vi j), none, none] fun _ _ => ?_
  generalize hQ : (fun (r : Option AV) (M' : AM) => r = some (vi (vlu t i (j - i))) ∧ M' = M) = Q
  have l5 : ∀ (r k : Nat), k + r = j → i ≤ k → AW G d mi_Rd_valueOf Q 5 [some (vr 2), some (vi i), some (vi j), some (vi (vlu t i (k - i))), some (vi k)] [] M := by
    intro r
    induction r with
    | zero =>
      intro k hk hik
      obtain rfl : k = j := by omega
      subst hQ
      refine AW.run ck_Rd_valueOf [] 10 5 ?_
      simp only [wR, wB, wE0, wE1, wE2, wE3, g0, gS, s10, s11, s1S, s20, s21, s2S, kl0, kl1, kl2, kl3, sp0, sp1, sp2, sp3, cn1, cn2, cn3, cn4, cn5, cn6, jJa, lk0, lk1, jmS, jmN, s4_0, s4_1, s4_2, s4_3, s4_4, sw0, sw1, cKs, cKn, true_and, and_true, List.map_cons, List.map_nil, Nat.reduceAdd, Nat.zero_add, Int.reduceAdd, Nat.reduceEqDiff, reduceIte, Classical.not_not, b_Rd_valueOf]
      (repeat' (first | omega | (with_reducible exact True.intro) | exact ⟨by omega, by omega⟩ | (with_reducible exact Or.inr trivial) | (with_reducible exact Or.inl trivial) | (with_reducible assumption) | (with_reducible exact Same.refl) | (with_reducible rfl) | (with_reducible refine And.intro ?_ ?_) | (with_reducible intro _)))
    | succ r ih =>
      intro k hk hik
      have := ih (k + 1) (by omega) (by omega)
      have hv := vlu_b (t := t) (i := i) (k - i) (by omega) (fun y hy => hdg (i + y) (by omega) (by omega))
      have hvs : vlu t i (k + 1 - i) = 10 * vlu t i (k - i) + (t k : Int) - 48 := by
        rw [show k + 1 - i = (k - i) + 1 by omega]
        simp only [vlu]
        rw [show i + (k - i) = k by omega]
      rw [hvs] at this
      have hd2 := hdg k hik (by omega)
      have hsee := c_Rd_letterAt (G := G) (d := d - 1) (i := k) hT
      rw [ltr_in (by omega)] at hsee
      generalize vlu t i (k - i) = v at *
      refine AW.run ck_Rd_valueOf [5] 10 5 ?_
      simp only [wR, wB, wE0, wE1, wE2, wE3, g0, gS, s10, s11, s1S, s20, s21, s2S, kl0, kl1, kl2, kl3, sp0, sp1, sp2, sp3, cn1, cn2, cn3, cn4, cn5, cn6, jJa, lk0, lk1, jmS, jmN, s4_0, s4_1, s4_2, s4_3, s4_4, sw0, sw1, cKs, cKn, true_and, and_true, List.map_cons, List.map_nil, Nat.reduceAdd, Nat.zero_add, Int.reduceAdd, Nat.reduceEqDiff, reduceIte, Classical.not_not, b_Rd_valueOf, shH]
      (repeat' (first | omega | (with_reducible exact True.intro) | exact ⟨by omega, by omega⟩ | (with_reducible exact Or.inr trivial) | (with_reducible exact Or.inl trivial) | (with_reducible assumption) | (with_reducible exact Same.refl) | (with_reducible rfl) | (with_reducible refine And.intro ?_ ?_) | (with_reducible intro _)))
      refine MS.to hsee fun _ => ?_
      simp only [wR, wB, wE0, wE1, wE2, wE3, g0, gS, s10, s11, s1S, s20, s21, s2S, kl0, kl1, kl2, kl3, sp0, sp1, sp2, sp3, cn1, cn2, cn3, cn4, cn5, cn6, jJa, lk0, lk1, jmS, jmN, s4_0, s4_1, s4_2, s4_3, s4_4, sw0, sw1, cKs, cKn, true_and, and_true, List.map_cons, List.map_nil, Nat.reduceAdd, Nat.zero_add, Int.reduceAdd, Nat.reduceEqDiff, reduceIte, Classical.not_not, b_Rd_valueOf, ce]
      (repeat' (first | omega | (with_reducible exact True.intro) | exact ⟨by omega, by omega⟩ | (with_reducible exact Or.inr trivial) | (with_reducible exact Or.inl trivial) | (with_reducible assumption) | (with_reducible exact Same.refl) | (with_reducible rfl) | (with_reducible refine And.intro ?_ ?_) | (with_reducible intro _)))
  have := l5 (j - i) i (by omega) (Nat.le_refl _)
  rw [Nat.sub_self] at this
  refine AW.run ck_Rd_valueOf [5] 10 0 ?_
  simp only [wR, wB, wE0, wE1, wE2, wE3, g0, gS, s10, s11, s1S, s20, s21, s2S, kl0, kl1, kl2, kl3, sp0, sp1, sp2, sp3, cn1, cn2, cn3, cn4, cn5, cn6, jJa, lk0, lk1, jmS, jmN, s4_0, s4_1, s4_2, s4_3, s4_4, sw0, sw1, cKs, cKn, true_and, and_true, List.map_cons, List.map_nil, Nat.reduceAdd, Nat.zero_add, Int.reduceAdd, Nat.reduceEqDiff, reduceIte, Classical.not_not, b_Rd_valueOf]
  exact this
end CT
