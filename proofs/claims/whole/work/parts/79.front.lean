section FR
variable {G : AG} {d : Nat} {M : AM}
set_option maxRecDepth 20000 in
theorem c_Fr_clear {z : Int} (hz : isO z 10) (hI : FrI M z) : MS G d mi_Fr_clear [vr z] M (fun r M' => r = none ∧ FrT M' z FS.nil ∧ Same [z, z + 2] M M') := by
  have hzz := isO_Fr hz
  obtain ⟨s1, s2, s3⟩ := sh_Fr hz
  obtain ⟨L, h1, h2, h3, h4, h5⟩ := hI
  have hlen := len_lt h3 h4
  refine MS.by ck_Fr_clear [some (vr z), none] fun _ _ => ?_
  generalize hQ : (fun (r : Option AV) (M' : AM) => r = none ∧ FrT M' z FS.nil ∧ Same [z, z + 2] M M') = Q
  have loop : ∀ (r k : Nat) (N : AM), k + r = L.length → Same [z + 2] M N → (∀ s : Nat, s < 3125 → (∀ j, j < L.length → k ≤ j → L.getD j 0 ≠ s) → N (z + 2) s = 0) → AW G d mi_Fr_clear Q 2 [some (vr z), some (vi k)] [] N := by
    intro r
    induction r with
    | zero =>
      intro k N hk hN hz0
      have e1 : N z 1 = L.length := by rw [hN.at z _ (by simp <;> omega)]; exact h1
      refine AW.run ck_Fr_clear [2] 10 2 ?_
      simp only [wR, wB, wE0, wE1, wE2, wE3, g0, gS, s10, s11, s1S, s20, s21, s2S, kl0, kl1, kl2, kl3, sp0, sp1, sp2, sp3, cn1, cn2, cn3, cn4, cn5, cn6, jJa, lk0, lk1, jmS, jmN, s4_0, s4_1, s4_2, s4_3, s4_4, sw0, sw1, cKs, cKn, true_and, and_true, List.map_cons, List.map_nil, Nat.reduceAdd, Nat.zero_add, Int.reduceAdd, Nat.reduceEqDiff, reduceIte, Classical.not_not, b_Fr_clear, hz, s1, s2, e1]
      subst hQ
      (repeat' (first | omega | (with_reducible exact True.intro) | exact ⟨by omega, by omega⟩ | (with_reducible exact Or.inr trivial) | (with_reducible exact Or.inl trivial) | (with_reducible assumption) | (with_reducible exact Same.refl) | (with_reducible rfl) | (with_reducible refine And.intro ?_ ?_) | (with_reducible intro _)))
      · exact ⟨by rw [up_eq]; rfl, fun j hj => absurd hj (Nat.not_lt_zero _), fun s hs => by
          rw [up_ne1 (by omega), if_neg (show ¬ s ∈ FS.nil.l from List.not_mem_nil)]
          exact hz0 s hs (fun j hj hk' => by omega), fun s hs => absurd hs (List.not_mem_nil), List.nodup_nil, fun s hs => absurd hs (List.not_mem_nil), fun s hs => absurd hs (List.not_mem_nil)⟩
      · exact (hN.mono (by simp)).up (by simp)
    | succ r ih =>
      intro k N hk hN hz0
      have hkl : k < L.length := by omega
      have e1 : N z 1 = L.length := by rw [hN.at z _ (by simp <;> omega)]; exact h1
      have e2 : N (z + 1) (k : Int) = ((L.getD k 0 : Nat) : Int) := by rw [hN.at (z + 1) _ (by simp <;> omega)]; exact h2 k hkl
      have hs3 := h4 _ (getD_mem hkl)
      have := ih (k + 1) (up N (z + 2) (L.getD k 0 : Nat) 0) (by omega) (hN.up (by simp)) (fun s hs hne => by
        by_cases e : s = L.getD k 0
        · subst e; rw [up_eq]
        · rw [up_ne2 (by omega)]
          refine hz0 s hs (fun j hj hkj => ?_)
          by_cases ej : j = k
          · subst ej; exact fun h => e h.symm
          · exact hne j hj (by omega))
      refine AW.run ck_Fr_clear [2, 29] 10 2 ?_
      simp only [wR, wB, wE0, wE1, wE2, wE3, g0, gS, s10, s11, s1S, s20, s21, s2S, kl0, kl1, kl2, kl3, sp0, sp1, sp2, sp3, cn1, cn2, cn3, cn4, cn5, cn6, jJa, lk0, lk1, jmS, jmN, s4_0, s4_1, s4_2, s4_3, s4_4, sw0, sw1, cKs, cKn, true_and, and_true, List.map_cons, List.map_nil, Nat.reduceAdd, Nat.zero_add, Int.reduceAdd, Nat.reduceEqDiff, reduceIte, Classical.not_not, b_Fr_clear, hz, s1, s2, e1, e2, ce]
      (repeat' (first | omega | (with_reducible exact True.intro) | exact ⟨by omega, by omega⟩ | (with_reducible exact Or.inr trivial) | (with_reducible exact Or.inl trivial) | (with_reducible assumption) | (with_reducible exact Same.refl) | (with_reducible rfl) | (with_reducible refine And.intro ?_ ?_) | (with_reducible intro _)))
  have := loop L.length 0 M (by omega) Same.refl (fun s hs hne => h5 s hs (fun hm => by
    obtain ⟨j, hj, e⟩ := mem_getD hm
    exact hne j hj (by omega) e))
  refine AW.run ck_Fr_clear [2] 10 0 ?_
  simp only [wR, wB, wE0, wE1, wE2, wE3, g0, gS, s10, s11, s1S, s20, s21, s2S, kl0, kl1, kl2, kl3, sp0, sp1, sp2, sp3, cn1, cn2, cn3, cn4, cn5, cn6, jJa, lk0, lk1, jmS, jmN, s4_0, s4_1, s4_2, s4_3, s4_4, sw0, sw1, cKs, cKn, true_and, and_true, List.map_cons, List.map_nil, Nat.reduceAdd, Nat.zero_add, Int.reduceAdd, Nat.reduceEqDiff, reduceIte, Classical.not_not, b_Fr_clear]
  exact this
theorem addF_pos {F : FS} {s w mask : Nat} (hw : 0 < w) (h : ∀ x, x ∈ F.l → 0 < F.wy x) : ∀ x, x ∈ (addF F s w mask).l → 0 < (addF F s w mask).wy x := by
  intro x hx
  unfold addF at hx ⊢
  by_cases q : s ∈ F.l
  · rw [if_pos q] at hx ⊢
    show 0 < ud F.wy s (F.wy s + w) x
    by_cases e : x = s
    · subst e; rw [ud_eq]; omega
    · rw [ud_ne e]; exact h x hx
  · rw [if_neg q] at hx ⊢
    show 0 < ud F.wy s w x
    by_cases e : x = s
    · subst e; rw [ud_eq]; omega
    · rw [ud_ne e]
      have hx' : x ∈ F.l ++ [s] := hx
      rcases List.mem_append.mp hx' with a | a
      · exact h x a
      · exact absurd (List.mem_singleton.mp a) e
set_option maxRecDepth 20000 in
theorem c_Fr_add {z : Int} {F : FS} {s w mask : Nat} (hz : isO z 10) (hF : FrT M z F) (hs : s < 3125) (hw : 0 < w) (hb : F.val (fun _ => 1) + w < 2 ^ 62) (hm : mask < 32) (hh : ∀ x, x ∈ F.l → F.hd x < 32) :
    MS G d mi_Fr_add [vr z, vi s, vl w, vi mask] M (fun r M' => r = some (vi (if s ∈ F.l then 0 else 1)) ∧ FrT M' z (addF F s w mask) ∧ Same [z, z + 1, z + 2, z + 3] M M') := by
  have hzz := isO_Fr hz
  obtain ⟨s1, s2, s3⟩ := sh_Fr hz
  obtain ⟨f1, f2, f3, f4, f5, f6, f7⟩ := hF
  have hlen := len_lt f5 f6
  have e3 := f3 s hs
  have hpos := addF_pos (F := F) (s := s) (mask := mask) hw f7
  refine MS.by ck_Fr_add [some (vr z), some (vi s), some (vl w), none, some (vi mask), none] fun _ _ => ?_
  generalize hQ : (fun (r : Option AV) (M' : AM) => r = some (vi (if s ∈ F.l then 0 else 1)) ∧ FrT M' z (addF F s w mask) ∧ Same [z, z + 1, z + 2, z + 3] M M') = Q
  by_cases q : s ∈ F.l
  · have ea : addF F s w mask = mkF F.l (ud F.wy s (F.wy s + w)) (ud F.hd s (F.hd s &&& mask)) := by unfold addF; rw [if_pos q]
    rw [ea] at hQ hpos
    rw [if_pos q] at hQ e3
    have hv := val_one q
    have hp := f7 s q
    have e4 := f4 s q
    have hh32 := hh s q
    have hand : F.hd s &&& mask < 32 := Nat.lt_of_le_of_lt Nat.and_le_right hm
    refine AW.run ck_Fr_add [74] 10 0 ?_
    simp only [wR, wB, wE0, wE1, wE2, wE3, g0, gS, s10, s11, s1S, s20, s21, s2S, kl0, kl1, kl2, kl3, sp0, sp1, sp2, sp3, cn1, cn2, cn3, cn4, cn5, cn6, jJa, lk0, lk1, jmS, jmN, s4_0, s4_1, s4_2, s4_3, s4_4, sw0, sw1, cKs, cKn, true_and, and_true, List.map_cons, List.map_nil, Nat.reduceAdd, Nat.zero_add, Int.reduceAdd, Nat.reduceEqDiff, reduceIte, Classical.not_not, b_Fr_add, hz, s1, s2, s3, e3, cmp3_eq, Int.reduceEq, not_true_eq_false, not_false_eq_true, false_imp_iff, true_imp_iff, and_self]
    have key : Q (some (vi 0)) (up (up M (z + 2) s ((F.wy s : Int) + (w : Int))) (z + 3) s ((F.hd s &&& mask : Nat) : Int)) := by
      subst hQ
      refine ⟨rfl, ⟨?_, fun j hj => ?_, fun x hx => ?_, fun x hx => ?_, f5, f6, hpos⟩, (Same.refl.up (by simp)).up (by simp)⟩
      · rw [up_ne1 (by omega), up_ne1 (by omega)]; exact f1
      · rw [up_ne1 (by omega), up_ne1 (by omega)]; exact f2 j hj
      · rw [up_ne1 (by omega)]
        show _ = if x ∈ F.l then ((ud F.wy s (F.wy s + w) x : Nat) : Int) else 0
        by_cases e : x = s
        · subst e; rw [up_eq, if_pos q, ud_eq]; rfl
        · rw [up_ne2 (by omega), ud_ne e]; exact f3 x hx
      · show _ = ((ud F.hd s (F.hd s &&& mask) x : Nat) : Int)
        by_cases e : x = s
        · subst e; rw [up_eq, ud_eq]
        · rw [up_ne2 (by omega), up_ne1 (by omega), ud_ne e]; exact f4 x hx
    have a74 : AW G d mi_Fr_add Q 74 [some (vr z), some (vi s), some (vl w), none, some (vi mask), some (vi 0)] [] M := by
      refine AW.run ck_Fr_add [] 10 74 ?_
      have e4' : up M (z + 2) s ((F.wy s : Int) + (w : Int)) (z + 3) s = F.hd s := by rw [up_ne1 (by omega)]; exact e4
      simp only [wR, wB, wE0, wE1, wE2, wE3, g0, gS, s10, s11, s1S, s20, s21, s2S, kl0, kl1, kl2, kl3, sp0, sp1, sp2, sp3, cn1, cn2, cn3, cn4, cn5, cn6, jJa, lk0, lk1, jmS, jmN, s4_0, s4_1, s4_2, s4_3, s4_4, sw0, sw1, cKs, cKn, true_and, and_true, List.map_cons, List.map_nil, Nat.reduceAdd, Nat.zero_add, Int.reduceAdd, Nat.reduceEqDiff, reduceIte, Classical.not_not, b_Fr_add, hz, s1, s2, s3, e3, e4', bAnd_n (show F.hd s < 2 ^ 31 by omega)]
      (repeat' (first | omega | (with_reducible exact True.intro) | exact ⟨by omega, by omega⟩ | (with_reducible exact Or.inr trivial) | (with_reducible exact Or.inl trivial) | (with_reducible assumption) | (with_reducible exact Same.refl) | (with_reducible rfl) | (with_reducible refine And.intro ?_ ?_) | (with_reducible intro _)))
    (repeat' (first | omega | (with_reducible exact True.intro) | exact ⟨by omega, by omega⟩ | (with_reducible exact Or.inr trivial) | (with_reducible exact Or.inl trivial) | (with_reducible assumption) | (with_reducible exact Same.refl) | (with_reducible rfl) | (with_reducible refine And.intro ?_ ?_) | (with_reducible intro _)))
  · have ea : addF F s w mask = mkF (F.l ++ [s]) (ud F.wy s w) (ud F.hd s mask) := by unfold addF; rw [if_neg q]
    have hnd : (addF F s w mask).l.Nodup := by rw [addF_l]; exact addL_nodup f5
    have hlt : ∀ x, x ∈ (addF F s w mask).l → x < 3125 := fun x hx => by
      rcases addF_mem.mp hx with a | a
      · exact f6 x a
      · omega
    have hlen2 : F.l.length < 3125 := by
      have h2 := len_lt hnd hlt
      rw [ea] at h2
      have h3 : (F.l ++ [s]).length ≤ 3125 := h2
      rw [List.length_append, List.length_singleton] at h3
      omega
    rw [ea] at hQ hpos hnd hlt
    rw [if_neg q] at hQ e3
    generalize hK : up (up (up M (z + 1) F.l.length s) z 1 ((F.l.length : Int) + 1)) (z + 3) s mask = K
    have key : Q (some (vi 1)) (up (up K (z + 2) s ((0 : Int) + (w : Int))) (z + 3) s ((mask : Nat) : Int)) := by
      subst hQ
      subst hK
      refine ⟨rfl, ⟨?_, fun j hj => ?_, fun x hx => ?_, fun x hx => ?_, hnd, hlt, hpos⟩, ((((Same.refl.up (by simp)).up (by simp)).up (by simp)).up (by simp)).up (by simp)⟩
      · rw [up_ne1 (by omega), up_ne1 (by omega), up_ne1 (by omega), up_eq]
        show _ = (((F.l ++ [s]).length : Nat) : Int)
        rw [List.length_append, List.length_singleton]; rfl
      · rw [up_ne1 (by omega), up_ne1 (by omega), up_ne1 (by omega), up_ne1 (by omega)]
        have hj' : j < (F.l ++ [s]).length := hj
        show _ = (((F.l ++ [s]).getD j 0 : Nat) : Int)
        rw [List.length_append, List.length_singleton] at hj'
        by_cases qj : j = F.l.length
        · subst qj
          rw [up_eq, List.getD_eq_getElem?_getD, List.getElem?_append_right (Nat.le_refl _)]; simp
        · rw [up_ne2 (by omega), f2 j (by omega), List.getD_eq_getElem?_getD, List.getD_eq_getElem?_getD, List.getElem?_append_left (by omega)]
      · rw [up_ne1 (by omega)]
        show _ = if x ∈ F.l ++ [s] then ((ud F.wy s w x : Nat) : Int) else 0
        by_cases e : x = s
        · subst e; rw [up_eq, if_pos (by simp), ud_eq]; omega
        · rw [up_ne2 (by omega), up_ne1 (by omega), up_ne1 (by omega), up_ne1 (by omega), f3 x hx, ud_ne e]
          by_cases qm : x ∈ F.l
          · rw [if_pos qm, if_pos (List.mem_append.mpr (Or.inl qm))]
          · rw [if_neg qm, if_neg (fun h => (List.mem_append.mp h).elim qm (fun h => e (List.mem_singleton.mp h)))]
      · show _ = ((ud F.hd s mask x : Nat) : Int)
        by_cases e : x = s
        · subst e; rw [up_eq, ud_eq]
        · have hx' : x ∈ F.l := (List.mem_append.mp (show x ∈ F.l ++ [s] from hx)).elim id (fun h => absurd (List.mem_singleton.mp h) e)
          rw [up_ne2 (by omega), up_ne1 (by omega), up_ne2 (by omega), up_ne1 (by omega), up_ne1 (by omega), ud_ne e]; exact f4 x hx'
    have a74 : AW G d mi_Fr_add Q 74 [some (vr z), some (vi s), some (vl w), none, some (vi mask), some (vi 1)] [] K := by
      refine AW.run ck_Fr_add [] 10 74 ?_
      have k3 : K (z + 2) s = 0 := by rw [← hK, up_ne1 (by omega), up_ne1 (by omega), up_ne1 (by omega)]; exact e3
      have e4' : up K (z + 2) s ((0 : Int) + (w : Int)) (z + 3) s = mask := by rw [up_ne1 (by omega), ← hK, up_eq]
      simp only [wR, wB, wE0, wE1, wE2, wE3, g0, gS, s10, s11, s1S, s20, s21, s2S, kl0, kl1, kl2, kl3, sp0, sp1, sp2, sp3, cn1, cn2, cn3, cn4, cn5, cn6, jJa, lk0, lk1, jmS, jmN, s4_0, s4_1, s4_2, s4_3, s4_4, sw0, sw1, cKs, cKn, true_and, and_true, List.map_cons, List.map_nil, Nat.reduceAdd, Nat.zero_add, Int.reduceAdd, Nat.reduceEqDiff, reduceIte, Classical.not_not, b_Fr_add, hz, s1, s2, s3, k3, e4', bAnd_n (show mask < 2 ^ 31 by omega), Nat.and_self]
      (repeat' (first | omega | (with_reducible exact True.intro) | exact ⟨by omega, by omega⟩ | (with_reducible exact Or.inr trivial) | (with_reducible exact Or.inl trivial) | (with_reducible assumption) | (with_reducible exact Same.refl) | (with_reducible rfl) | (with_reducible refine And.intro ?_ ?_) | (with_reducible intro _)))
    refine AW.run ck_Fr_add [74] 10 0 ?_
    have u1 : up M (z + 1) (F.l.length : Int) (s : Int) z 1 = F.l.length := by rw [up_ne1 (by omega)]; exact f1
    simp only [wR, wB, wE0, wE1, wE2, wE3, g0, gS, s10, s11, s1S, s20, s21, s2S, kl0, kl1, kl2, kl3, sp0, sp1, sp2, sp3, cn1, cn2, cn3, cn4, cn5, cn6, jJa, lk0, lk1, jmS, jmN, s4_0, s4_1, s4_2, s4_3, s4_4, sw0, sw1, cKs, cKn, true_and, and_true, List.map_cons, List.map_nil, Nat.reduceAdd, Nat.zero_add, Int.reduceAdd, Nat.reduceEqDiff, reduceIte, Classical.not_not, b_Fr_add, hz, s1, s2, s3, e3, f1, u1, cmp3_eq, hK, Int.reduceEq, not_true_eq_false, not_false_eq_true, false_imp_iff, true_imp_iff, and_self]
    (repeat' (first | omega | (with_reducible exact True.intro) | exact ⟨by omega, by omega⟩ | (with_reducible exact Or.inr trivial) | (with_reducible exact Or.inl trivial) | (with_reducible assumption) | (with_reducible exact Same.refl) | (with_reducible rfl) | (with_reducible refine And.intro ?_ ?_) | (with_reducible intro _)))
end FR
