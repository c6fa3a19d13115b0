/-! frames: what a call leaves as it was; obligations -/
def Same (ps : List Int) (M N : AM) : Prop := ∀ x, x ∉ ps → N x = M x
theorem Same.refl {ps : List Int} {M : AM} : Same ps M M := fun _ _ => rfl
theorem Same.trans {ps : List Int} {M N K : AM} (h : Same ps M N) (h2 : Same ps N K) : Same ps M K := fun x hx => (h2 x hx).trans (h x hx)
theorem Same.mono {ps qs : List Int} {M N : AM} (h : Same ps M N) (hs : ∀ x, x ∈ ps → x ∈ qs) : Same qs M N := fun x hx => h x (fun hp => hx (hs x hp))
theorem Same.up {ps : List Int} {M N : AM} {z i v : Int} (h : Same ps M N) (hz : z ∈ ps) : Same ps M (up N z i v) := fun x hx => by
  funext y
  rw [up_ne1 (by rintro rfl; exact hx hz), h x hx]
theorem Same.at {ps : List Int} {M N : AM} (h : Same ps M N) (x y : Int) (hx : x ∉ ps) : N x y = M x y := by rw [h x hx]
theorem stp_cases {c : Int} {w : Int → Int} {t t' : List Bool} {s : List Int} (hk : kd t s) (ht : tst c t = some t') :
    (0 ≤ c ∧ c < 1009 ∧ stp c w s = (if c < 1000 then c else w (c - 1000)) :: s) ∨
    (c = 3006 ∧ ∃ x s', s = x :: s' ∧ (x = 0 ∨ x = 1) ∧ stp c w s = (1 - x) :: s') ∨
    (c = 3009 ∧ ∃ e t b s', s = e :: t :: b :: s' ∧ (b = 0 ∨ b = 1) ∧ numV t ∧ numV e ∧ stp c w s = (if b = 1 then t else e) :: s') ∨
    (3000 ≤ c ∧ c ≤ 3008 ∧ c ≠ 3006 ∧ ∃ a b s', s = b :: a :: s' ∧ numV a ∧ numV b ∧ (c = 3007 ∨ c = 3008 → (a = 0 ∨ a = 1) ∧ (b = 0 ∨ b = 1)) ∧ stp c w s = bin c a b :: s') := by
  have nb : ∀ x : Int, (x = 0 ∨ x = 1) → numV x := fun x h => ⟨by omega, by omega⟩
  unfold tst at ht
  split at ht
  · next h => left; refine ⟨h.1, h.2, ?_⟩; unfold stp; rw [if_pos (by omega)]
  · split at ht
    · next h =>
      match t, s, hk, ht with
      | true :: true :: t, b :: a :: s, hk, ht =>
        right; right; right
        refine ⟨by omega, by omega, by omega, a, b, s, rfl, hk.2.1, hk.1, fun h => by omega, ?_⟩
        unfold stp; rw [if_neg (by omega), if_neg (by omega), if_neg (by omega)]
    · split at ht
      · next h =>
        match t, s, hk, ht with
        | true :: true :: t, b :: a :: s, hk, ht =>
          right; right; right
          refine ⟨by omega, by omega, by omega, a, b, s, rfl, hk.2.1, hk.1, fun h => by omega, ?_⟩
          unfold stp; rw [if_neg (by omega), if_neg (by omega), if_neg (by omega)]
      · split at ht
        · next h =>
          match t, s, hk, ht with
          | false :: t, x :: s, hk, ht =>
            right; left
            refine ⟨h, x, s, rfl, hk.1, ?_⟩
            unfold stp; rw [if_neg (by omega), if_pos (by omega)]
        · split at ht
          · next h =>
            match t, s, hk, ht with
            | false :: false :: t, b :: a :: s, hk, ht =>
              right; right; right
              refine ⟨by omega, by omega, by omega, a, b, s, rfl, nb _ hk.2.1, nb _ hk.1, fun _ => ⟨hk.2.1, hk.1⟩, ?_⟩
              unfold stp; rw [if_neg (by omega), if_neg (by omega), if_neg (by omega)]
          · split at ht
            · next h =>
              match t, s, hk, ht with
              | true :: true :: false :: t, e :: th :: b :: s, hk, ht =>
                right; right; left
                refine ⟨h, e, th, b, s, rfl, hk.2.2.1, hk.2.1, hk.1, ?_⟩
                unfold stp; rw [if_neg (by omega), if_neg (by omega), if_pos (by omega)]
            · cases ht
theorem vals_s {code : Nat → Int} {w : Int → Int} (k : Nat) : vals code w (k + 1) = stp (code k) w (vals code w k) := rfl
/-- what the words of a law stand for -/
def wv (p sd str wt rd cold hl mt ot : Int) (j : Int) : Int := if j = 0 then p else if j = 1 then sd else if j = 2 then str else if j = 3 then wt else if j = 4 then rd else if j = 5 then cold else if j = 6 then hl else if j = 7 then mt else ot
section RK
variable {G : AG} {d : Nat} {M : AM}
set_option maxRecDepth 4000 in
theorem c_Md_reckons {law p n f : Nat} {str cold hl mt ot : Int} {code : Nat → Int} {b : Bool} (hd : 1 ≤ d) (hlaw : law ≤ 1) (hp : p < 5) (h1 : M 118 (5 + (law : Int)) = f) (h2 : M 118 (7 + (law : Int)) = n) (hfn : f + n ≤ 900)
    (hcode : ∀ k : Nat, k < n → M 118 (153 + (f : Int) + k) = code k) (hwf : WfL code n b)
    (hw6 : ∀ k : Nat, k < n → 1006 ≤ code k → code k < 1009 → M 123 (code k - 1000) = wv p (M 118 (19 + (p : Int))) str (M 118 (9 + (p : Int))) (M 118 (14 + (p : Int))) cold hl mt ot (code k - 1000))
    (hnum : ∀ j : Int, 0 ≤ j → j < 9 → numV (wv p (M 118 (19 + (p : Int))) str (M 118 (9 + (p : Int))) (M 118 (14 + (p : Int))) cold hl mt ot j)) :
    MS G d mi_Md_reckons [vr 117, vi law, vi p, vi str, vi cold] M (fun r M' => (∃ x, r = some (vi x) ∧ vals code (wv p (M 118 (19 + (p : Int))) str (M 118 (9 + (p : Int))) (M 118 (14 + (p : Int))) cold hl mt ot) n = [x]) ∧ Same [122, 123] M M') := by
  generalize hw : wv p (M 118 (19 + (p : Int))) str (M 118 (9 + (p : Int))) (M 118 (14 + (p : Int))) cold hl mt ot = w at *
  refine MS.by ck_Md_reckons [some (vr 117), some (vi law), some (vi p), some (vi str), some (vi cold), none, none, none] fun _ _ => ?_
  have loop : ∀ (m k : Nat) (N : AM) (l : Option AV), k + m = n → Same [122, 123] M N → (∀ j : Int, 0 ≤ j → j < 6 → N 123 j = w j) → (∀ k : Nat, k < n → 1006 ≤ code k → code k < 1009 → N 123 (code k - 1000) = w (code k - 1000)) → stkAt N 122 (vals code w k) → AW G d mi_Md_reckons (fun r M' => (∃ x, r = some (vi x) ∧ vals code w n = [x]) ∧ Same [122, 123] M M') 73 [some (vr 117), some (vi law), some (vi p), some (vi str), some (vi cold), some (vi ((vals code w k).length : Nat)), some (vi k), l] [] N := by
    intro m
    induction m with
    | zero =>
      intro k N l hk hs hj h6 hst
      obtain rfl : k = n := by omega
      have hv := vals_kd hnum k _ hwf.2
      obtain ⟨x, hx⟩ : ∃ x, vals code w k = [x] := by
        have := kd_len _ _ hv
        match hh : vals code w k, this with
        | [x], _ => exact ⟨x, rfl⟩
      rw [hx] at hst
      refine AW.run ck_Md_reckons [73] 8 73 ?_
      simp only [wR, wB, wE0, wE1, wE2, wE3, g0, gS, s10, s11, s1S, s20, s21, s2S, kl0, kl1, kl2, kl3, sp0, sp1, sp2, sp3, cn1, cn2, cn3, cn4, cn5, cn6, jJa, lk0, lk1, jmS, jmN, s4_0, s4_1, s4_2, s4_3, s4_4, sw0, sw1, cKs, cKn, true_and, and_true, List.map_cons, List.map_nil, Nat.reduceAdd, Nat.zero_add, Int.reduceAdd, Nat.reduceEqDiff, reduceIte, Classical.not_not, b_Md_reckons, shMd, hs.at 118 _ (by (first | decide | (simp only [List.mem_cons, List.not_mem_nil, or_false, not_or, not_false_eq_true, and_true]; omega) | (simp [List.mem_cons]; done))), h1, h2]
      (repeat' (first | omega | exact ⟨by omega, by omega⟩ | (with_reducible exact Or.inr trivial) | (with_reducible exact Or.inl trivial) | (with_reducible assumption) | (with_reducible exact Same.refl) | (with_reducible rfl) | (with_reducible refine And.intro ?_ ?_) | (with_reducible intro _)))
      exact ⟨x, by rw [show (0 : Int) = (([] : List Int).length : Int) from rfl, hst.1], hx⟩
    | succ m ih =>
      intro k N l hk hs hj h6 hst
      have hkn : k < n := by omega
      obtain ⟨t, ht, htl⟩ := hwf.1 k (by omega)
      obtain ⟨t', ht', htl'⟩ := hwf.1 (k + 1) (by omega)
      have hv := vals_kd hnum k _ ht
      have hv' := vals_kd hnum (k + 1) _ ht'
      have hl := kd_len _ _ hv
      have hl' := kd_len _ _ hv'
      have hts : tst (code k) t = some t' := by simp only [tys, ht, Option.bind_some] at ht'; exact ht'
      have hc := hcode k hkn
      -- the end of a turn
      have fin : ∀ (N' : AM) (q : Nat), Same [122] N N' → stkAt N' 122 (vals code w (k + 1)) → q = (vals code w (k + 1)).length → AW G d mi_Md_reckons (fun r M' => (∃ x, r = some (vi x) ∧ vals code w n = [x]) ∧ Same [122, 123] M M') 273 [some (vr 117), some (vi law), some (vi p), some (vi str), some (vi cold), some (vi (q : Nat)), some (vi k), some (vi (code k))] [] N' := by
        intro N' q hs' hst' hq
        subst hq
        refine AW.run ck_Md_reckons [73] 8 273 ?_
        simp only [wR, wB, wE0, wE1, wE2, wE3, g0, gS, s10, s11, s1S, s20, s21, s2S, kl0, kl1, kl2, kl3, sp0, sp1, sp2, sp3, cn1, cn2, cn3, cn4, cn5, cn6, jJa, lk0, lk1, jmS, jmN, s4_0, s4_1, s4_2, s4_3, s4_4, sw0, sw1, cKs, cKn, true_and, and_true, List.map_cons, List.map_nil, Nat.reduceAdd, Nat.zero_add, Int.reduceAdd, Nat.reduceEqDiff, reduceIte, Classical.not_not, b_Md_reckons, ce]
        (repeat' (first | omega | exact ⟨by omega, by omega⟩ | (with_reducible exact Or.inr trivial) | (with_reducible exact Or.inl trivial) | (with_reducible assumption) | (with_reducible exact Same.refl) | (with_reducible rfl) | (with_reducible refine And.intro ?_ ?_) | (with_reducible intro _)))
        refine ih (k + 1) N' _ (by omega) (hs.trans (hs'.mono (by simp))) (fun j a b => by rw [hs'.at 123 _ (by (first | decide | (simp only [List.mem_cons, List.not_mem_nil, or_false, not_or, not_false_eq_true, and_true]; omega) | (simp [List.mem_cons]; done)))]; exact hj j a b) (fun k a b c => by rw [hs'.at 123 _ (by (first | decide | (simp only [List.mem_cons, List.not_mem_nil, or_false, not_or, not_false_eq_true, and_true]; omega) | (simp [List.mem_cons]; done)))]; exact h6 k a b c) hst'
      refine AW.run ck_Md_reckons [136, 147, 154, 185, 240, 273] 8 73 ?_
      simp only [wR, wB, wE0, wE1, wE2, wE3, g0, gS, s10, s11, s1S, s20, s21, s2S, kl0, kl1, kl2, kl3, sp0, sp1, sp2, sp3, cn1, cn2, cn3, cn4, cn5, cn6, jJa, lk0, lk1, jmS, jmN, s4_0, s4_1, s4_2, s4_3, s4_4, sw0, sw1, cKs, cKn, true_and, and_true, List.map_cons, List.map_nil, Nat.reduceAdd, Nat.zero_add, Int.reduceAdd, Nat.reduceEqDiff, reduceIte, Classical.not_not, b_Md_reckons, shMd, hs.at 118 _ (by (first | decide | (simp only [List.mem_cons, List.not_mem_nil, or_false, not_or, not_false_eq_true, and_true]; omega) | (simp [List.mem_cons]; done))), h1, h2, hc]
      rcases stp_cases (w := w) hv hts with ⟨c0, c1, e⟩ | ⟨c0, x, s', es, hx, e⟩ | ⟨c0, ee, th, bb, s', es, hb, hnt, hne, e⟩ | ⟨c0, c1, c2, a, bb, s', es, hna, hnb, hbb, e⟩
      · have put : ∀ v : Int, v = (if code k < 1000 then code k else w (code k - 1000)) → AW G d mi_Md_reckons (fun r M' => (∃ x, r = some (vi x) ∧ vals code w n = [x]) ∧ Same [122, 123] M M') 147 [some (vr 117), some (vi law), some (vi p), some (vi str), some (vi cold), some (vi ((vals code w k).length : Nat)), some (vi k), some (vi (code k))] [vi v, vi ((vals code w k).length : Nat), vr 122] N := by
          intro v hv
          refine AW.run ck_Md_reckons [273] 8 147 ?_
          simp only [wR, wB, wE0, wE1, wE2, wE3, g0, gS, s10, s11, s1S, s20, s21, s2S, kl0, kl1, kl2, kl3, sp0, sp1, sp2, sp3, cn1, cn2, cn3, cn4, cn5, cn6, jJa, lk0, lk1, jmS, jmN, s4_0, s4_1, s4_2, s4_3, s4_4, sw0, sw1, cKs, cKn, true_and, and_true, List.map_cons, List.map_nil, Nat.reduceAdd, Nat.zero_add, Int.reduceAdd, Nat.reduceEqDiff, reduceIte, Classical.not_not, b_Md_reckons, shMd, ce]
          (repeat' (first | omega | exact ⟨by omega, by omega⟩ | (with_reducible exact Or.inr trivial) | (with_reducible exact Or.inl trivial) | (with_reducible assumption) | (with_reducible exact Same.refl) | (with_reducible rfl) | (with_reducible refine And.intro ?_ ?_) | (with_reducible intro _)))
          refine fin _ _ (Same.refl.up (by (first | decide | (simp only [List.mem_cons, List.not_mem_nil, or_false, not_or, not_false_eq_true, and_true]; omega) | (simp [List.mem_cons]; done)))) ?_ ?_
          · rw [vals_s, e]
            exact ⟨by rw [up_eq, hv], stk_up _ (Int.le_refl _) hst⟩
          · rw [vals_s, e]; rfl
        (repeat' (first | omega | exact ⟨by omega, by omega⟩ | (with_reducible exact Or.inr trivial) | (with_reducible exact Or.inl trivial) | (with_reducible assumption) | (with_reducible exact Same.refl) | (with_reducible rfl) | (with_reducible refine And.intro ?_ ?_) | (with_reducible intro _)))
        · refine AW.run ck_Md_reckons [147] 8 136 ?_
          simp only [wR, wB, wE0, wE1, wE2, wE3, g0, gS, s10, s11, s1S, s20, s21, s2S, kl0, kl1, kl2, kl3, sp0, sp1, sp2, sp3, cn1, cn2, cn3, cn4, cn5, cn6, jJa, lk0, lk1, jmS, jmN, s4_0, s4_1, s4_2, s4_3, s4_4, sw0, sw1, cKs, cKn, true_and, and_true, List.map_cons, List.map_nil, Nat.reduceAdd, Nat.zero_add, Int.reduceAdd, Nat.reduceEqDiff, reduceIte, Classical.not_not, b_Md_reckons, shMd]
          (repeat' (first | omega | exact ⟨by omega, by omega⟩ | (with_reducible exact Or.inr trivial) | (with_reducible exact Or.inl trivial) | (with_reducible assumption) | (with_reducible exact Same.refl) | (with_reducible rfl) | (with_reducible refine And.intro ?_ ?_) | (with_reducible intro _)))
          refine put _ ?_
          rw [if_neg (by omega)]
          rcases Int.lt_or_le (code k) 1006 with q | q
          · exact hj _ (by omega) (by omega)
          · exact h6 k hkn q c1
        · exact put _ (by rw [if_pos (by omega)])
      · rw [es] at hst
        have es' : (vals code w k).length = s'.length + 1 := by rw [es]; rfl
        (repeat' (first | omega | exact ⟨by omega, by omega⟩ | (with_reducible exact Or.inr trivial) | (with_reducible exact Or.inl trivial) | (with_reducible assumption) | (with_reducible exact Same.refl) | (with_reducible rfl) | (with_reducible refine And.intro ?_ ?_) | (with_reducible intro _)))
        refine AW.run ck_Md_reckons [273] 8 154 ?_
        simp only [wR, wB, wE0, wE1, wE2, wE3, g0, gS, s10, s11, s1S, s20, s21, s2S, kl0, kl1, kl2, kl3, sp0, sp1, sp2, sp3, cn1, cn2, cn3, cn4, cn5, cn6, jJa, lk0, lk1, jmS, jmN, s4_0, s4_1, s4_2, s4_3, s4_4, sw0, sw1, cKs, cKn, true_and, and_true, List.map_cons, List.map_nil, Nat.reduceAdd, Nat.zero_add, Int.reduceAdd, Nat.reduceEqDiff, reduceIte, Classical.not_not, b_Md_reckons, shMd]
        rw [es', show (((s'.length + 1 : Nat) : Int) - 1) = (s'.length : Int) by omega, hst.1]
        (repeat' (first | omega | exact ⟨by omega, by omega⟩ | (with_reducible exact Or.inr trivial) | (with_reducible exact Or.inl trivial) | (with_reducible assumption) | (with_reducible exact Same.refl) | (with_reducible rfl) | (with_reducible refine And.intro ?_ ?_) | (with_reducible intro _)))
        rw [← es']
        refine fin _ _ (Same.refl.up (by (first | decide | (simp only [List.mem_cons, List.not_mem_nil, or_false, not_or, not_false_eq_true, and_true]; omega) | (simp [List.mem_cons]; done)))) ?_ ?_
        · rw [vals_s, e]
          exact ⟨by rw [up_eq], stk_up _ (Int.le_refl _) hst.2⟩
        · rw [vals_s, e, es']; rfl
      · rw [es] at hst
        have es' : (vals code w k).length = s'.length + 3 := by rw [es]; rfl
        obtain ⟨q1, q2, q3, q4⟩ := hst
        simp only [List.length_cons] at q1 q2 q3
        obtain ⟨n1, n2⟩ := hnt
        obtain ⟨n3, n4⟩ := hne
        (repeat' (first | omega | exact ⟨by omega, by omega⟩ | (with_reducible exact Or.inr trivial) | (with_reducible exact Or.inl trivial) | (with_reducible assumption) | (with_reducible exact Same.refl) | (with_reducible rfl) | (with_reducible refine And.intro ?_ ?_) | (with_reducible intro _)))
        refine AW.run ck_Md_reckons [185] 8 154 ?_
        simp only [wR, wB, wE0, wE1, wE2, wE3, g0, gS, s10, s11, s1S, s20, s21, s2S, kl0, kl1, kl2, kl3, sp0, sp1, sp2, sp3, cn1, cn2, cn3, cn4, cn5, cn6, jJa, lk0, lk1, jmS, jmN, s4_0, s4_1, s4_2, s4_3, s4_4, sw0, sw1, cKs, cKn, true_and, and_true, List.map_cons, List.map_nil, Nat.reduceAdd, Nat.zero_add, Int.reduceAdd, Nat.reduceEqDiff, reduceIte, Classical.not_not, b_Md_reckons, shMd]
        (repeat' (first | omega | exact ⟨by omega, by omega⟩ | (with_reducible exact Or.inr trivial) | (with_reducible exact Or.inl trivial) | (with_reducible assumption) | (with_reducible exact Same.refl) | (with_reducible rfl) | (with_reducible refine And.intro ?_ ?_) | (with_reducible intro _)))
        refine AW.run ck_Md_reckons [273] 8 185 ?_
        simp only [wR, wB, wE0, wE1, wE2, wE3, g0, gS, s10, s11, s1S, s20, s21, s2S, kl0, kl1, kl2, kl3, sp0, sp1, sp2, sp3, cn1, cn2, cn3, cn4, cn5, cn6, jJa, lk0, lk1, jmS, jmN, s4_0, s4_1, s4_2, s4_3, s4_4, sw0, sw1, cKs, cKn, true_and, and_true, List.map_cons, List.map_nil, Nat.reduceAdd, Nat.zero_add, Int.reduceAdd, Nat.reduceEqDiff, reduceIte, Classical.not_not, b_Md_reckons, shMd]
        rw [es', show (((s'.length + 3 : Nat) : Int) + -2) = ((s'.length + 1 : Nat) : Int) by omega, show (((s'.length + 1 : Nat) : Int) - 1) = (s'.length : Int) by omega, q3, q2, show (((s'.length + 1 : Nat) : Int) + 1) = ((s'.length + 1 + 1 : Nat) : Int) by omega, q1]
        (repeat' (first | omega | exact ⟨by omega, by omega⟩ | (with_reducible exact Or.inr trivial) | (with_reducible exact Or.inl trivial) | (with_reducible assumption) | (with_reducible exact Same.refl) | (with_reducible rfl) | (with_reducible refine And.intro ?_ ?_) | (with_reducible intro _)))
        · refine fin _ _ (Same.refl.up (by (first | decide | (simp only [List.mem_cons, List.not_mem_nil, or_false, not_or, not_false_eq_true, and_true]; omega) | (simp [List.mem_cons]; done)))) ?_ ?_
          · rw [vals_s, e]
            exact ⟨by rw [up_eq, if_neg (by omega)], stk_up _ (Int.le_refl _) q4⟩
          · rw [vals_s, e]; rfl
        · refine fin _ _ (Same.refl.up (by (first | decide | (simp only [List.mem_cons, List.not_mem_nil, or_false, not_or, not_false_eq_true, and_true]; omega) | (simp [List.mem_cons]; done)))) ?_ ?_
          · rw [vals_s, e]
            exact ⟨by rw [up_eq, if_pos (by omega)], stk_up _ (Int.le_refl _) q4⟩
          · rw [vals_s, e]; rfl
      · rw [es] at hst
        have es' : (vals code w k).length = s'.length + 2 := by rw [es]; rfl
        obtain ⟨q1, q2, q3⟩ := hst
        simp only [List.length_cons] at q1 q2
        (repeat' (first | omega | exact ⟨by omega, by omega⟩ | (with_reducible exact Or.inr trivial) | (with_reducible exact Or.inl trivial) | (with_reducible assumption) | (with_reducible exact Same.refl) | (with_reducible rfl) | (with_reducible refine And.intro ?_ ?_) | (with_reducible intro _)))
        refine AW.run ck_Md_reckons [185] 8 154 ?_
        simp only [wR, wB, wE0, wE1, wE2, wE3, g0, gS, s10, s11, s1S, s20, s21, s2S, kl0, kl1, kl2, kl3, sp0, sp1, sp2, sp3, cn1, cn2, cn3, cn4, cn5, cn6, jJa, lk0, lk1, jmS, jmN, s4_0, s4_1, s4_2, s4_3, s4_4, sw0, sw1, cKs, cKn, true_and, and_true, List.map_cons, List.map_nil, Nat.reduceAdd, Nat.zero_add, Int.reduceAdd, Nat.reduceEqDiff, reduceIte, Classical.not_not, b_Md_reckons, shMd]
        (repeat' (first | omega | exact ⟨by omega, by omega⟩ | (with_reducible exact Or.inr trivial) | (with_reducible exact Or.inl trivial) | (with_reducible assumption) | (with_reducible exact Same.refl) | (with_reducible rfl) | (with_reducible refine And.intro ?_ ?_) | (with_reducible intro _)))
        refine AW.run ck_Md_reckons [240] 8 185 ?_
        simp only [wR, wB, wE0, wE1, wE2, wE3, g0, gS, s10, s11, s1S, s20, s21, s2S, kl0, kl1, kl2, kl3, sp0, sp1, sp2, sp3, cn1, cn2, cn3, cn4, cn5, cn6, jJa, lk0, lk1, jmS, jmN, s4_0, s4_1, s4_2, s4_3, s4_4, sw0, sw1, cKs, cKn, true_and, and_true, List.map_cons, List.map_nil, Nat.reduceAdd, Nat.zero_add, Int.reduceAdd, Nat.reduceEqDiff, reduceIte, Classical.not_not, b_Md_reckons, shMd]
        (repeat' (first | omega | exact ⟨by omega, by omega⟩ | (with_reducible exact Or.inr trivial) | (with_reducible exact Or.inl trivial) | (with_reducible assumption) | (with_reducible exact Same.refl) | (with_reducible rfl) | (with_reducible refine And.intro ?_ ?_) | (with_reducible intro _)))
        refine AW.run ck_Md_reckons [273] 8 240 ?_
        simp only [wR, wB, wE0, wE1, wE2, wE3, g0, gS, s10, s11, s1S, s20, s21, s2S, kl0, kl1, kl2, kl3, sp0, sp1, sp2, sp3, cn1, cn2, cn3, cn4, cn5, cn6, jJa, lk0, lk1, jmS, jmN, s4_0, s4_1, s4_2, s4_3, s4_4, sw0, sw1, cKs, cKn, true_and, and_true, List.map_cons, List.map_nil, Nat.reduceAdd, Nat.zero_add, Int.reduceAdd, Nat.reduceEqDiff, reduceIte, Classical.not_not, b_Md_reckons, shMd]
        rw [es', show (((s'.length + 2 : Nat) : Int) + -1) = ((s'.length + 1 : Nat) : Int) by omega, show (((s'.length + 1 : Nat) : Int) - 1) = (s'.length : Int) by omega, q2, q1]
        (repeat' (first | omega | exact ⟨by omega, by omega⟩ | (with_reducible exact Or.inr trivial) | (with_reducible exact Or.inl trivial) | (with_reducible assumption) | (with_reducible exact Same.refl) | (with_reducible rfl) | (with_reducible refine And.intro ?_ ?_) | (with_reducible intro _)))
        refine MS.to (c_Md_between hna hnb ⟨c0, c1, c2⟩ hbb) fun _ => ?_
        simp only [wR, wB, wE0, wE1, wE2, wE3, g0, gS, s10, s11, s1S, s20, s21, s2S, kl0, kl1, kl2, kl3, sp0, sp1, sp2, sp3, cn1, cn2, cn3, cn4, cn5, cn6, jJa, lk0, lk1, jmS, jmN, s4_0, s4_1, s4_2, s4_3, s4_4, sw0, sw1, cKs, cKn, true_and, and_true, List.map_cons, List.map_nil, Nat.reduceAdd, Nat.zero_add, Int.reduceAdd, Nat.reduceEqDiff, reduceIte, Classical.not_not, b_Md_reckons, shMd]
        (repeat' (first | omega | exact ⟨by omega, by omega⟩ | (with_reducible exact Or.inr trivial) | (with_reducible exact Or.inl trivial) | (with_reducible assumption) | (with_reducible exact Same.refl) | (with_reducible rfl) | (with_reducible refine And.intro ?_ ?_) | (with_reducible intro _)))
        refine fin _ _ (Same.refl.up (by (first | decide | (simp only [List.mem_cons, List.not_mem_nil, or_false, not_or, not_false_eq_true, and_true]; omega) | (simp [List.mem_cons]; done)))) ?_ ?_
        · rw [vals_s, e]
          exact ⟨by rw [up_eq], stk_up _ (Int.le_refl _) q3⟩
        · rw [vals_s, e]; rfl
  refine AW.run ck_Md_reckons [73] 8 0 ?_
  simp only [wR, wB, wE0, wE1, wE2, wE3, g0, gS, s10, s11, s1S, s20, s21, s2S, kl0, kl1, kl2, kl3, sp0, sp1, sp2, sp3, cn1, cn2, cn3, cn4, cn5, cn6, jJa, lk0, lk1, jmS, jmN, s4_0, s4_1, s4_2, s4_3, s4_4, sw0, sw1, cKs, cKn, true_and, and_true, List.map_cons, List.map_nil, Nat.reduceAdd, Nat.zero_add, Int.reduceAdd, Nat.reduceEqDiff, reduceIte, Classical.not_not, b_Md_reckons, shMd]
  (repeat' (first | omega | exact ⟨by omega, by omega⟩ | (with_reducible exact Or.inr trivial) | (with_reducible exact Or.inl trivial) | (with_reducible assumption) | (with_reducible exact Same.refl) | (with_reducible rfl) | (with_reducible refine And.intro ?_ ?_) | (with_reducible intro _)))
  refine loop n 0 _ none (by omega) (((((((Same.refl.up ?_).up ?_).up ?_).up ?_).up ?_).up ?_)) ?_ ?_ trivial
  all_goals first | (first | decide | (simp only [List.mem_cons, List.not_mem_nil, or_false, not_or, not_false_eq_true, and_true]; omega) | (simp [List.mem_cons]; done)) | skip
  · intro j a b
    subst hw
    unfold wv up
    rcases (show j = 0 ∨ j = 1 ∨ j = 2 ∨ j = 3 ∨ j = 4 ∨ j = 5 by omega) with rfl | rfl | rfl | rfl | rfl | rfl <;> simp
  · intro k a b c
    rw [← hw6 k a b c]
    unfold up
    repeat rw [if_neg (by omega)]
end RK
