section MN
variable {G : AG} {d : Nat} {M : AM}
theorem codA_nxt {σ : Sg} {set c : Nat} (mok : MoOK σ.m) : nxt σ.h σ.m.sd c (cod σ.m.st σ.h.P) set = codA σ set c := by
  unfold nxt codA
  refine cod_congr (fun p hp => ?_)
  rw [dig_cod0 (fun p _ => (mok.1 p).2), if_pos hp]
theorem codA_lt {σ : Sg} {set c : Nat} (ok : HlOK σ.h) : codA σ set c < 3125 := cod_lt ok.1 (fun _ _ => tired_le _ _ _ _ _ _)
set_option maxRecDepth 20000 in
theorem c_Md_mostAlike {cand set B : Nat} {σ : Sg} (hd : 10 ≤ d) (ok : SgOK B σ) (hR : MR M σ) (hc : cand < 1024) (hset : set < 32) :
    MS G d mi_Md_mostAlike [vr 117, vi set, vi cand] M (fun r M' => r = some (vi (alkC cand (codA σ set) 10)) ∧ Same [122, 123, 134] M M') := by
  have hok := ok.2.2.1
  have hP := hok.1
  have mok := ok.2.2.2.1.1
  obtain ⟨hH, hm, -⟩ := hR.past
  have hsd := hm.sd mok
  have hst := hm.st mok
  have hlt := cod_100k hok mok
  rw [alk_eq]
  refine MS.by ck_Md_mostAlike [some (vr 117), some (vi set), some (vi cand), none, none, none, none] fun _ _ => ?_
  generalize hQ : (fun (r : Option AV) (M' : AM) => r = some (vi (alkM cand (codA σ set) 10)) ∧ Same [122, 123, 134] M M') = Q
  have hcl : ∀ c, codA σ set c < 3125 := fun c => codA_lt hok
  have hnx : ∀ c, nxt σ.h σ.m.sd c (cod σ.m.st σ.h.P) set = codA σ set c := fun c => codA_nxt mok
  generalize codA σ set = code at hQ hcl hnx ⊢
  have a53 : ∀ (N : AM) (l5 l6 : Option AV), Same [122, 123, 134] M N → (∀ c : Nat, c < 10 → N 134 c = if wb cand c = true then (code c : Int) else -1) → ∀ (r i : Nat) (l5 l6 : Option AV), i + r = 10 → AW G d mi_Md_mostAlike Q 53 [some (vr 117), some (vi set), some (vi cand), some (vi (alkM cand code i)), some (vi i), l5, l6] [] N := by
    as_aux_lemma =>
      intro N _ _ hN hby r
      induction r with
      | zero =>
        intro i l5 l6 hi
        obtain rfl : i = 10 := by omega
        refine AW.run ck_Md_mostAlike [66] 10 53 ?_
        simp only [wR, wB, wE0, wE1, wE2, wE3, g0, gS, s10, s11, s1S, s20, s21, s2S, kl0, kl1, kl2, kl3, sp0, sp1, sp2, sp3, cn1, cn2, cn3, cn4, cn5, cn6, jJa, lk0, lk1, jmS, jmN, s4_0, s4_1, s4_2, s4_3, s4_4, sw0, sw1, cKs, cKn, true_and, and_true, List.map_cons, List.map_nil, Nat.reduceAdd, Nat.zero_add, Int.reduceAdd, Nat.reduceEqDiff, reduceIte, Classical.not_not, b_Md_mostAlike]
        subst hQ
        (repeat' (first | omega | exact ⟨by omega, by omega⟩ | (with_reducible exact Or.inr trivial) | (with_reducible exact Or.inl trivial) | (with_reducible assumption) | (with_reducible exact Same.refl) | (with_reducible rfl) | (with_reducible refine And.intro ?_ ?_) | (with_reducible intro _)))
      | succ r ih =>
        intro i l5 l6 hi
        have hbi := hby i (by omega)
        have a117 : AW G d mi_Md_mostAlike Q 117 [some (vr 117), some (vi set), some (vi cand), some (vi (alkM cand code i)), some (vi i), some (vi (if wb cand i = true then cntP (fun j => wb cand j && decide (code j = code i)) 10 else 0 : Nat)), some (vi ((10 : Nat) : Int))] [] N := by
          have h1 := alkM_le (cand := cand) (code := code) i
          have e : max (alkM cand code i) (if wb cand i = true then cntP (fun j => wb cand j && decide (code j = code i)) 10 else 0) = alkM cand code (i + 1) := rfl
          have h2 : (if wb cand i = true then cntP (fun j => wb cand j && decide (code j = code i)) 10 else 0) ≤ 10 := by
            have := cntP_le (fun j => wb cand j && decide (code j = code i)) 10
            split <;> omega
          generalize (if wb cand i = true then cntP (fun j => wb cand j && decide (code j = code i)) 10 else 0) = y at e h2 ⊢
          have key := ih (i + 1) (some (vi y)) (some (vi ((10 : Nat) : Int))) (by omega)
          rw [← e] at key
          refine AW.run ck_Md_mostAlike [53] 10 117 ?_
          simp only [wR, wB, wE0, wE1, wE2, wE3, g0, gS, s10, s11, s1S, s20, s21, s2S, kl0, kl1, kl2, kl3, sp0, sp1, sp2, sp3, cn1, cn2, cn3, cn4, cn5, cn6, jJa, lk0, lk1, jmS, jmN, s4_0, s4_1, s4_2, s4_3, s4_4, sw0, sw1, cKs, cKn, true_and, and_true, List.map_cons, List.map_nil, Nat.reduceAdd, Nat.zero_add, Int.reduceAdd, Nat.reduceEqDiff, reduceIte, Classical.not_not, b_Md_mostAlike, ce]
          by_cases q : alkM cand code i < y
          · rw [Nat.max_eq_right (by omega)] at key
            (repeat' (first | omega | exact ⟨by omega, by omega⟩ | (with_reducible exact Or.inr trivial) | (with_reducible exact Or.inl trivial) | (with_reducible assumption) | (with_reducible exact Same.refl) | (with_reducible rfl) | (with_reducible refine And.intro ?_ ?_) | (with_reducible intro _)))
          · rw [Nat.max_eq_left (by omega)] at key
            (repeat' (first | omega | exact ⟨by omega, by omega⟩ | (with_reducible exact Or.inr trivial) | (with_reducible exact Or.inl trivial) | (with_reducible assumption) | (with_reducible exact Same.refl) | (with_reducible rfl) | (with_reducible refine And.intro ?_ ?_) | (with_reducible intro _)))
        have inner : ∀ (r j : Nat), j + r = 10 → AW G d mi_Md_mostAlike Q 66 [some (vr 117), some (vi set), some (vi cand), some (vi (alkM cand code i)), some (vi i), some (vi (if wb cand i = true then cntP (fun j => wb cand j && decide (code j = code i)) j else 0 : Nat)), some (vi j)] [] N := by
          intro r
          induction r with
          | zero =>
            intro j hj
            obtain rfl : j = 10 := by omega
            refine AW.run ck_Md_mostAlike [107, 108, 117] 10 66 ?_
            simp only [wR, wB, wE0, wE1, wE2, wE3, g0, gS, s10, s11, s1S, s20, s21, s2S, kl0, kl1, kl2, kl3, sp0, sp1, sp2, sp3, cn1, cn2, cn3, cn4, cn5, cn6, jJa, lk0, lk1, jmS, jmN, s4_0, s4_1, s4_2, s4_3, s4_4, sw0, sw1, cKs, cKn, true_and, and_true, List.map_cons, List.map_nil, Nat.reduceAdd, Nat.zero_add, Int.reduceAdd, Nat.reduceEqDiff, reduceIte, Classical.not_not, b_Md_mostAlike, shMd]
            (repeat' (first | omega | exact ⟨by omega, by omega⟩ | (with_reducible exact Or.inr trivial) | (with_reducible exact Or.inl trivial) | (with_reducible assumption) | (with_reducible exact Same.refl) | (with_reducible rfl) | (with_reducible refine And.intro ?_ ?_) | (with_reducible intro _)))
          | succ r ih2 =>
            intro j hj
            have hbj := hby j (by omega)
            have hle : (if wb cand i = true then cntP (fun j => wb cand j && decide (code j = code i)) j else 0) ≤ 10 := by
              have := cntP_le (fun j => wb cand j && decide (code j = code i)) j
              split <;> omega
            have a108 : ∀ x : Nat, (if wb cand i = true then cntP (fun j => wb cand j && decide (code j = code i)) j else 0) + x = (if wb cand i = true then cntP (fun j => wb cand j && decide (code j = code i)) (j + 1) else 0) → x ≤ 1 → AW G d mi_Md_mostAlike Q 108 [some (vr 117), some (vi set), some (vi cand), some (vi (alkM cand code i)), some (vi i), some (vi (if wb cand i = true then cntP (fun j => wb cand j && decide (code j = code i)) j else 0 : Nat)), some (vi j)] [vi x, vi (if wb cand i = true then cntP (fun j => wb cand j && decide (code j = code i)) j else 0 : Nat)] N := by
              intro x hx hx1
              have key := ih2 (j + 1) (by omega)
              rw [← hx] at key
              rw [show (((if wb cand i = true then cntP (fun j => wb cand j && decide (code j = code i)) j else 0) + x : Nat) : Int) = ((if wb cand i = true then cntP (fun j => wb cand j && decide (code j = code i)) j else 0 : Nat) : Int) + (x : Int) by omega] at key
              refine AW.run ck_Md_mostAlike [66] 10 108 ?_
              simp only [wR, wB, wE0, wE1, wE2, wE3, g0, gS, s10, s11, s1S, s20, s21, s2S, kl0, kl1, kl2, kl3, sp0, sp1, sp2, sp3, cn1, cn2, cn3, cn4, cn5, cn6, jJa, lk0, lk1, jmS, jmN, s4_0, s4_1, s4_2, s4_3, s4_4, sw0, sw1, cKs, cKn, true_and, and_true, List.map_cons, List.map_nil, Nat.reduceAdd, Nat.zero_add, Int.reduceAdd, Nat.reduceEqDiff, reduceIte, Classical.not_not, b_Md_mostAlike, ce]
              (repeat' (first | omega | exact ⟨by omega, by omega⟩ | (with_reducible exact Or.inr trivial) | (with_reducible exact Or.inl trivial) | (with_reducible assumption) | (with_reducible exact Same.refl) | (with_reducible rfl) | (with_reducible refine And.intro ?_ ?_) | (with_reducible intro _)))
            have a107 : (if wb cand i = true then cntP (fun j => wb cand j && decide (code j = code i)) j else 0) = (if wb cand i = true then cntP (fun j => wb cand j && decide (code j = code i)) (j + 1) else 0) → AW G d mi_Md_mostAlike Q 107 [some (vr 117), some (vi set), some (vi cand), some (vi (alkM cand code i)), some (vi i), some (vi (if wb cand i = true then cntP (fun j => wb cand j && decide (code j = code i)) j else 0 : Nat)), some (vi j)] [vi (if wb cand i = true then cntP (fun j => wb cand j && decide (code j = code i)) j else 0 : Nat)] N := by
              intro hx
              refine AW.run ck_Md_mostAlike [108] 10 107 ?_
              simp only [wR, wB, wE0, wE1, wE2, wE3, g0, gS, s10, s11, s1S, s20, s21, s2S, kl0, kl1, kl2, kl3, sp0, sp1, sp2, sp3, cn1, cn2, cn3, cn4, cn5, cn6, jJa, lk0, lk1, jmS, jmN, s4_0, s4_1, s4_2, s4_3, s4_4, sw0, sw1, cKs, cKn, true_and, and_true, List.map_cons, List.map_nil, Nat.reduceAdd, Nat.zero_add, Int.reduceAdd, Nat.reduceEqDiff, reduceIte, Classical.not_not, b_Md_mostAlike]
              exact a108 0 (by omega) (by omega)
            refine AW.run ck_Md_mostAlike [107, 108, 117] 10 66 ?_
            simp only [wR, wB, wE0, wE1, wE2, wE3, g0, gS, s10, s11, s1S, s20, s21, s2S, kl0, kl1, kl2, kl3, sp0, sp1, sp2, sp3, cn1, cn2, cn3, cn4, cn5, cn6, jJa, lk0, lk1, jmS, jmN, s4_0, s4_1, s4_2, s4_3, s4_4, sw0, sw1, cKs, cKn, true_and, and_true, List.map_cons, List.map_nil, Nat.reduceAdd, Nat.zero_add, Int.reduceAdd, Nat.reduceEqDiff, reduceIte, Classical.not_not, b_Md_mostAlike, shMd, hbi, hbj]
            simp only [cntP] at a108 a107
            by_cases qi : wb cand i = true
            · rw [if_pos qi] at a108 a107 ⊢
              by_cases qj : wb cand j = true ∧ code j = code i
              · have e1 : (wb cand j && decide (code j = code i)) = true := by simp [qj]
                rw [if_pos qi, if_pos e1] at a108
                have := a108 1 rfl (by omega)
                rw [if_pos qj.1, qj.2]
                rw [if_pos qi]
                (repeat' (first | omega | exact ⟨by omega, by omega⟩ | (with_reducible exact Or.inr trivial) | (with_reducible exact Or.inl trivial) | (with_reducible assumption) | (with_reducible exact Same.refl) | (with_reducible rfl) | (with_reducible refine And.intro ?_ ?_) | (with_reducible intro _)))
              · have e1 : ¬ (wb cand j && decide (code j = code i)) = true := by
                  simp only [Bool.and_eq_true, decide_eq_true_eq]; exact qj
                rw [if_pos qi, if_neg e1] at a107
                have := a107 rfl
                rw [if_pos qi]
                by_cases qj' : wb cand j = true
                · rw [if_pos qj']
                  have : code j ≠ code i := fun e => qj ⟨qj', e⟩
                  (repeat' (first | omega | exact ⟨by omega, by omega⟩ | (with_reducible exact Or.inr trivial) | (with_reducible exact Or.inl trivial) | (with_reducible assumption) | (with_reducible exact Same.refl) | (with_reducible rfl) | (with_reducible refine And.intro ?_ ?_) | (with_reducible intro _)))
                · rw [if_neg qj']
                  (repeat' (first | omega | exact ⟨by omega, by omega⟩ | (with_reducible exact Or.inr trivial) | (with_reducible exact Or.inl trivial) | (with_reducible assumption) | (with_reducible exact Same.refl) | (with_reducible rfl) | (with_reducible refine And.intro ?_ ?_) | (with_reducible intro _)))
            · rw [if_neg qi] at a108 a107 ⊢
              rw [if_neg qi] at a107
              have := a107 rfl
              rw [if_neg qi]
              (repeat' (first | omega | exact ⟨by omega, by omega⟩ | (with_reducible exact Or.inr trivial) | (with_reducible exact Or.inl trivial) | (with_reducible assumption) | (with_reducible exact Same.refl) | (with_reducible rfl) | (with_reducible refine And.intro ?_ ?_) | (with_reducible intro _)))
        refine AW.run ck_Md_mostAlike [66] 10 53 ?_
        simp only [wR, wB, wE0, wE1, wE2, wE3, g0, gS, s10, s11, s1S, s20, s21, s2S, kl0, kl1, kl2, kl3, sp0, sp1, sp2, sp3, cn1, cn2, cn3, cn4, cn5, cn6, jJa, lk0, lk1, jmS, jmN, s4_0, s4_1, s4_2, s4_3, s4_4, sw0, sw1, cKs, cKn, true_and, and_true, List.map_cons, List.map_nil, Nat.reduceAdd, Nat.zero_add, Int.reduceAdd, Nat.reduceEqDiff, reduceIte, Classical.not_not, b_Md_mostAlike]
        have := inner 10 0 (by omega)
        simp only [cntP] at this
        rw [show (if wb cand i = true then 0 else 0) = 0 by split <;> rfl] at this
        (repeat' (first | omega | exact ⟨by omega, by omega⟩ | (with_reducible exact Or.inr trivial) | (with_reducible exact Or.inl trivial) | (with_reducible assumption) | (with_reducible exact Same.refl) | (with_reducible rfl) | (with_reducible refine And.intro ?_ ?_) | (with_reducible intro _)))
  have l5 : ∀ (r c : Nat) (N : AM), c + r = 10 → Same [122, 123, 134] M N → (∀ j : Nat, j < c → N 134 j = if wb cand j = true then (code j : Int) else -1) → AW G d mi_Md_mostAlike Q 5 [some (vr 117), some (vi set), some (vi cand), some (vi 0), some (vi c), none, none] [] N := by
    as_aux_lemma =>
      intro r
      induction r with
      | zero =>
        intro c N hc' hN hby
        refine AW.run ck_Md_mostAlike [43, 53] 10 5 ?_
        simp only [wR, wB, wE0, wE1, wE2, wE3, g0, gS, s10, s11, s1S, s20, s21, s2S, kl0, kl1, kl2, kl3, sp0, sp1, sp2, sp3, cn1, cn2, cn3, cn4, cn5, cn6, jJa, lk0, lk1, jmS, jmN, s4_0, s4_1, s4_2, s4_3, s4_4, sw0, sw1, cKs, cKn, true_and, and_true, List.map_cons, List.map_nil, Nat.reduceAdd, Nat.zero_add, Int.reduceAdd, Nat.reduceEqDiff, reduceIte, Classical.not_not, b_Md_mostAlike]
        (repeat' (first | omega | exact ⟨by omega, by omega⟩ | (with_reducible exact Or.inr trivial) | (with_reducible exact Or.inl trivial) | (with_reducible assumption) | (with_reducible exact Same.refl) | (with_reducible rfl) | (with_reducible refine And.intro ?_ ?_) | (with_reducible intro _)))
        exact a53 N none none hN (fun j hj => hby j (by omega)) 10 0 _ _ (by omega)
      | succ r ih =>
        intro c N hc' hN hby
        have n118 : N 118 = M 118 := hN 118 (by (first | decide | (simp only [List.mem_cons, List.not_mem_nil, or_false, not_or, not_false_eq_true, and_true]; omega) | (simp [List.mem_cons]; done)))
        have hb2 : cand / 2 ^ c % 2 < 2 := Nat.mod_lt _ (by omega)
        have hw : wb cand c = true ↔ cand / 2 ^ c % 2 = 1 := wb_iff
        have a43 : ∀ (K : AM) (x : Int), x = (if wb cand c = true then (code c : Int) else -1) → inI x → Same [122, 123, 134] M K → (∀ j : Nat, j < c → K 134 j = if wb cand j = true then (code j : Int) else -1) → AW G d mi_Md_mostAlike Q 43 [some (vr 117), some (vi set), some (vi cand), some (vi 0), some (vi c), none, none] [vi x, vi c, vr 134] K := by
          intro K x hx hxi hK hby'
          refine AW.run ck_Md_mostAlike [5] 10 43 ?_
          simp only [wR, wB, wE0, wE1, wE2, wE3, g0, gS, s10, s11, s1S, s20, s21, s2S, kl0, kl1, kl2, kl3, sp0, sp1, sp2, sp3, cn1, cn2, cn3, cn4, cn5, cn6, jJa, lk0, lk1, jmS, jmN, s4_0, s4_1, s4_2, s4_3, s4_4, sw0, sw1, cKs, cKn, true_and, and_true, List.map_cons, List.map_nil, Nat.reduceAdd, Nat.zero_add, Int.reduceAdd, Nat.reduceEqDiff, reduceIte, Classical.not_not, b_Md_mostAlike, shMd, ce]
          (repeat' (first | omega | exact ⟨by omega, by omega⟩ | (with_reducible exact Or.inr trivial) | (with_reducible exact Or.inl trivial) | (with_reducible assumption) | (with_reducible exact Same.refl) | (with_reducible rfl) | (with_reducible refine And.intro ?_ ?_) | (with_reducible intro _)))
          refine ih (c + 1) _ (by omega) (hK.up (by simp)) (fun j hj => ?_)
          by_cases e : j = c
          · subst e; rw [up_eq]; exact hx
          · rw [up_ne2 (by omega)]; exact hby' j (by omega)
        refine AW.run ck_Md_mostAlike [43, 50] 10 5 ?_
        simp only [wR, wB, wE0, wE1, wE2, wE3, g0, gS, s10, s11, s1S, s20, s21, s2S, kl0, kl1, kl2, kl3, sp0, sp1, sp2, sp3, cn1, cn2, cn3, cn4, cn5, cn6, jJa, lk0, lk1, jmS, jmN, s4_0, s4_1, s4_2, s4_3, s4_4, sw0, sw1, cKs, cKn, true_and, and_true, List.map_cons, List.map_nil, Nat.reduceAdd, Nat.zero_add, Int.reduceAdd, Nat.reduceEqDiff, reduceIte, Classical.not_not, b_Md_mostAlike, shMd]
        (repeat' (first | omega | exact ⟨by omega, by omega⟩ | (with_reducible exact Or.inr trivial) | (with_reducible exact Or.inl trivial) | (with_reducible assumption) | (with_reducible exact Same.refl) | (with_reducible rfl) | (with_reducible refine And.intro ?_ ?_) | (with_reducible intro _)))
        refine MS.to (c_Md_isIn (by omega) (by omega)) fun _ => ?_
        simp only [wR, wB, wE0, wE1, wE2, wE3, g0, gS, s10, s11, s1S, s20, s21, s2S, kl0, kl1, kl2, kl3, sp0, sp1, sp2, sp3, cn1, cn2, cn3, cn4, cn5, cn6, jJa, lk0, lk1, jmS, jmN, s4_0, s4_1, s4_2, s4_3, s4_4, sw0, sw1, cKs, cKn, true_and, and_true, List.map_cons, List.map_nil, Nat.reduceAdd, Nat.zero_add, Int.reduceAdd, Nat.reduceEqDiff, reduceIte, Classical.not_not, b_Md_mostAlike, shMd]
        by_cases q : wb cand c = true
        · have q1 := hw.mp q
          (repeat' (first | omega | exact ⟨by omega, by omega⟩ | (with_reducible exact Or.inr trivial) | (with_reducible exact Or.inl trivial) | (with_reducible assumption) | (with_reducible exact Same.refl) | (with_reducible rfl) | (with_reducible refine And.intro ?_ ?_) | (with_reducible intro _)))
          refine MS.to (c_Md_standNow (by rw [n118]; exact hH.2.1) hP (by rw [n118]; exact hst)) fun _ => ?_
          simp only [wR, wB, wE0, wE1, wE2, wE3, g0, gS, s10, s11, s1S, s20, s21, s2S, kl0, kl1, kl2, kl3, sp0, sp1, sp2, sp3, cn1, cn2, cn3, cn4, cn5, cn6, jJa, lk0, lk1, jmS, jmN, s4_0, s4_1, s4_2, s4_3, s4_4, sw0, sw1, cKs, cKn, true_and, and_true, List.map_cons, List.map_nil, Nat.reduceAdd, Nat.zero_add, Int.reduceAdd, Nat.reduceEqDiff, reduceIte, Classical.not_not, b_Md_mostAlike, shMd]
          (repeat' (first | omega | exact ⟨by omega, by omega⟩ | (with_reducible exact Or.inr trivial) | (with_reducible exact Or.inl trivial) | (with_reducible assumption) | (with_reducible exact Same.refl) | (with_reducible rfl) | (with_reducible refine And.intro ?_ ?_) | (with_reducible intro _)))
          refine (c_Md_hourTo (d := d - 1) (sd := σ.m.sd) (by omega) hok (by rw [n118]; exact hH) (by rw [n118]; exact hsd) (by omega) hset (by omega)).mono ?_
          rintro r' M1 okM1 ⟨rfl, u1⟩
          rw [hnx]
          have := hcl c
          simp only [wR, wB, wE0, wE1, wE2, wE3, g0, gS, s10, s11, s1S, s20, s21, s2S, kl0, kl1, kl2, kl3, sp0, sp1, sp2, sp3, cn1, cn2, cn3, cn4, cn5, cn6, jJa, lk0, lk1, jmS, jmN, s4_0, s4_1, s4_2, s4_3, s4_4, sw0, sw1, cKs, cKn, true_and, and_true, List.map_cons, List.map_nil, Nat.reduceAdd, Nat.zero_add, Int.reduceAdd, Nat.reduceEqDiff, reduceIte, Classical.not_not, b_Md_mostAlike]
          exact a43 M1 _ (by rw [if_pos q]) ⟨by omega, by omega⟩ (hN.trans (u1.mono (by simp))) (fun j hj => by rw [u1.at 134 _ (by (first | decide | (simp only [List.mem_cons, List.not_mem_nil, or_false, not_or, not_false_eq_true, and_true]; omega) | (simp [List.mem_cons]; done)))]; exact hby j hj)
        · have q1 : ¬ cand / 2 ^ c % 2 = 1 := fun e => q (hw.mpr e)
          (repeat' (first | omega | exact ⟨by omega, by omega⟩ | (with_reducible exact Or.inr trivial) | (with_reducible exact Or.inl trivial) | (with_reducible assumption) | (with_reducible exact Same.refl) | (with_reducible rfl) | (with_reducible refine And.intro ?_ ?_) | (with_reducible intro _)))
          exact a43 N (-1) (by rw [if_neg q]) ⟨by omega, by omega⟩ hN hby
  refine AW.run ck_Md_mostAlike [5] 10 0 ?_
  simp only [wR, wB, wE0, wE1, wE2, wE3, g0, gS, s10, s11, s1S, s20, s21, s2S, kl0, kl1, kl2, kl3, sp0, sp1, sp2, sp3, cn1, cn2, cn3, cn4, cn5, cn6, jJa, lk0, lk1, jmS, jmN, s4_0, s4_1, s4_2, s4_3, s4_4, sw0, sw1, cKs, cKn, true_and, and_true, List.map_cons, List.map_nil, Nat.reduceAdd, Nat.zero_add, Int.reduceAdd, Nat.reduceEqDiff, reduceIte, Classical.not_not, b_Md_mostAlike]
  exact l5 10 0 M (by omega) Same.refl (fun j hj => absurd hj (by omega))
end MN
