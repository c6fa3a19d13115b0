section CV
variable {G : AG} {d : Nat} {M : AM} {t : Nat → Nat} {n : Nat}
/-- the kinds that there are -/
def vK (k : Nat) : Prop := k ≤ 19 ∨ (22 ≤ k ∧ k ≤ 25) ∨ (30 ≤ k ∧ k ≤ 41)
theorem kin_v {i : Nat} : vK (kin t n i) := by
  unfold kin vK
  split
  · omega
  · split
    · unfold wdM
      split
      · next h =>
        have := List.idxOf_lt_length_of_mem h
        have e : MW.length = 20 := rfl
        omega
      · omega
    · split
      · split <;> omega
      · split
        · next h =>
          have := List.idxOf_lt_length_of_mem h
          have e : sgL.length = 12 := rfl
          omega
        · omega
/-- a class's token tells the kind -/
theorem ck_inj {k k' : Nat} (h : vK k) (h' : vK k') : (ck k : Int) = ck k' ↔ k = k' := by
  have key : ∀ a b : Fin 42, (a.val ≤ 19 ∨ (22 ≤ a.val ∧ a.val ≤ 25) ∨ (30 ≤ a.val ∧ a.val ≤ 41)) → (b.val ≤ 19 ∨ (22 ≤ b.val ∧ b.val ≤ 25) ∨ (30 ≤ b.val ∧ b.val ≤ 41)) → ck a.val = ck b.val → a.val = b.val := by decide +kernel
  refine ⟨fun e => key ⟨k, by unfold vK at h; omega⟩ ⟨k', by unfold vK at h'; omega⟩ h h' (Int.ofNat_inj.mp e), fun e => by rw [e]⟩
def TkC (M : AM) (t : Nat → Nat) (n m : Nat) : Prop := m ≤ 900 ∧ (∀ j : Nat, j ≤ m → M 4 j = ck (kin t n (pls t n j)) ∧ M 5 j = pls t n j ∧ (kin t n (pls t n j) = 23 → M 6 j = vlu t (pls t n j) (tEnd t n (pls t n j) - pls t n j))) ∧ (kin t n (pls t n m) = 24 ∨ kin t n (pls t n m) = 25) ∧ ∀ j, j < m → kin t n (pls t n j) ≠ 24 ∧ kin t n (pls t n j) ≠ 25
theorem kin_lt {i : Nat} (h : kin t n i ≠ 24) : i < n := by
  apply Classical.byContradiction
  intro q
  apply h
  unfold kin
  rw [if_pos (by omega)]
theorem kin_23 {i : Nat} (h : kin t n i = 23) : i < n ∧ tEnd t n i ≤ i + 3 ∧ (∀ k, i ≤ k → k < tEnd t n i → 48 ≤ t k ∧ t k ≤ 57) := by
  have hi : i < n := kin_lt (t := t) (i := i) (by omega)
  have hE := tEnd_le (t := t) hi
  unfold kin at h
  rw [if_neg (by omega)] at h
  cases hs : sml (ltr t n i) with
  | true =>
    rw [if_pos hs] at h
    unfold wdM at h
    split at h
    · next h2 =>
      have := List.idxOf_lt_length_of_mem h2
      have e : MW.length = 20 := rfl
      omega
    · omega
  | false =>
    rw [if_neg (by rw [hs]; decide)] at h
    cases hg : dgt (ltr t n i) with
    | true =>
      rw [if_pos hg] at h
      have h3 : tEnd t n i - i ≤ 3 := by
        apply Classical.byContradiction
        intro q
        rw [if_neg q] at h
        omega
      refine ⟨hi, by omega, fun k k1 k2 => ?_⟩
      have htE : tEnd t n i = rn dgt t n i := by
        unfold tEnd
        rw [if_neg (by rw [hs]; decide), if_pos hg]
      have := rn_mid (p := dgt) (t := t) (n := n) (by decide) _ i k rfl k1 (by rw [← htE]; exact k2)
      rw [ltr_in (by omega)] at this
      unfold dgt at this
      have := decide_eq_true_iff.mp this
      omega
    | false =>
      rw [if_neg (by rw [hg]; decide)] at h
      split at h <;> omega
theorem c_Rd_cut (hd : 10 ≤ d) (hn : n ≤ 900) (hM : ∀ k : Nat, k < n → M 1 k = sgn (t k)) (h255 : ∀ k, t k ≤ 255) : MS G d mi_Rd_cut [vr 2, vr 1, vi n] M (fun r M' => r = none ∧ (∃ m, TkC M' t n m) ∧ TxC M' t n ∧ Same [2, 4, 5, 6] M M' ∧ ∀ y : Int, y ≠ 2 → y ≠ 3 → M' 2 y = M 2 y) := by
  refine MS.by ck_Rd_cut [some (vr 2), some (vr 1), some (vi n), none, none, none, none] fun _ _ => ?_
  generalize hQ : (fun (r : Option AV) (M' : AM) => r = none ∧ (∃ m, TkC M' t n m) ∧ TxC M' t n ∧ Same [2, 4, 5, 6] M M' ∧ ∀ y : Int, y ≠ 2 → y ≠ 3 → M' 2 y = M 2 y) = Q
  have i1 : isArr 1 := ⟨_, (arT_of (k := 1) rfl rfl).1⟩
  have i4 : isArr 4 := ⟨_, (arT_of (k := 4) rfl rfl).1⟩
  have hmn : (if (900 : Int) < (n : Int) then 900 else (n : Int)) = n := if_neg (by omega)
  generalize hM1 : up (up M 2 2 1) 2 3 n = M1
  have hS1 : Same [2, 4, 5, 6] M M1 := by rw [← hM1]; exact (Same.refl.up (by simp)).up (by simp)
  have hf1 : ∀ y : Int, y ≠ 2 → y ≠ 3 → M1 2 y = M 2 y := fun y h2 h3 => by rw [← hM1, up_ne2 h3, up_ne2 h2]
  have hT1 : TxC M1 t n := ⟨by rw [← hM1, up_ne2 (by omega), up_eq], by rw [← hM1, up_eq], hn, fun k hk => by rw [hS1 1 (by (first | decide | (simp only [List.mem_cons, List.not_mem_nil, or_false, not_or, not_false_eq_true, and_true]; omega) | (simp [List.mem_cons]; done)))]; exact hM k hk, h255⟩
  have keep : ∀ K : AM, Same [4, 5, 6] M1 K → TxC K t n ∧ Same [2, 4, 5, 6] M K ∧ ∀ y : Int, y ≠ 2 → y ≠ 3 → K 2 y = M 2 y := by
    intro K hK
    have e1 := hK 1 (by (first | decide | (simp only [List.mem_cons, List.not_mem_nil, or_false, not_or, not_false_eq_true, and_true]; omega) | (simp [List.mem_cons]; done)))
    have e2 := hK 2 (by (first | decide | (simp only [List.mem_cons, List.not_mem_nil, or_false, not_or, not_false_eq_true, and_true]; omega) | (simp [List.mem_cons]; done)))
    refine ⟨⟨by rw [e2]; exact hT1.1, by rw [e2]; exact hT1.2.1, hn, fun k hk => by rw [e1]; exact hT1.2.2.2.1 k hk, h255⟩, hS1.trans (hK.mono (by simp)), fun y a b => by rw [e2]; exact hf1 y a b⟩
  have ck22 : ∀ k, vK k → ((ck k : Int) = 22 ↔ k = 24) := fun k hk => ck_inj (k' := 24) hk (by unfold vK; omega)
  have ck23 : ∀ k, vK k → ((ck k : Int) = 23 ↔ k = 25) := fun k hk => ck_inj (k' := 25) hk (by unfold vK; omega)
  have ck21 : ∀ k, vK k → ((ck k : Int) = 21 ↔ k = 23) := fun k hk => ck_inj (k' := 23) hk (by unfold vK; omega)
  have l27 : ∀ (r k : Nat) (K : AM) (tok : Nat) (l6 : Option AV), k + r = 901 → Same [4, 5, 6] M1 K → (∀ j : Nat, j < k → K 4 j = ck (kin t n (pls t n j)) ∧ K 5 j = pls t n j ∧ (kin t n (pls t n j) = 23 → K 6 j = vlu t (pls t n j) (tEnd t n (pls t n j) - pls t n j))) → (∀ j, j + 1 < k → kin t n (pls t n j) ≠ 24 ∧ kin t n (pls t n j) ≠ 25) → ((k = 0 ∧ tok = 0) ∨ ∃ j, k = j + 1 ∧ tok = ck (kin t n (pls t n j))) → (∀ j, k = j + 1 → kin t n (pls t n j) ≠ 24 → kin t n (pls t n j) ≠ 25 → pls t n k ≤ n) → (k = 0 → pls t n 0 ≤ n) → AW G d mi_Rd_cut Q 27 [some (vr 2), some (vr 1), some (vi n), some (vi (pls t n k)), some (vi tok), some (vi k), l6] [] K := by
    as_aux_lemma =>
      have fin : ∀ (j k : Nat) (K : AM) (l3 l6 : Option AV), k = j + 1 → k ≤ 901 → Same [4, 5, 6] M1 K → (∀ j : Nat, j < k → K 4 j = ck (kin t n (pls t n j)) ∧ K 5 j = pls t n j ∧ (kin t n (pls t n j) = 23 → K 6 j = vlu t (pls t n j) (tEnd t n (pls t n j) - pls t n j))) → (∀ j, j + 1 < k → kin t n (pls t n j) ≠ 24 ∧ kin t n (pls t n j) ≠ 25) → (kin t n (pls t n j) = 24 ∨ kin t n (pls t n j) = 25) → AW G d mi_Rd_cut Q 27 [some (vr 2), some (vr 1), some (vi n), l3, some (vi (ck (kin t n (pls t n j)))), some (vi k), l6] [] K := by
        intro j k K l3 l6 hk hk9 hK hj hnot hend
        obtain ⟨k1, k2, k3⟩ := keep K hK
        have a125 : ∀ l : AL, AW G d mi_Rd_cut Q 125 l [] K := by
          intro l
          refine AW.run ck_Rd_cut [] 10 125 ?_
          simp only [wR, wB, wE0, wE1, wE2, wE3, g0, gS, s10, s11, s1S, s20, s21, s2S, kl0, kl1, kl2, kl3, sp0, sp1, sp2, sp3, cn1, cn2, cn3, cn4, cn5, cn6, jJa, lk0, lk1, jmS, jmN, s4_0, s4_1, s4_2, s4_3, s4_4, sw0, sw1, cKs, cKn, true_and, and_true, List.map_cons, List.map_nil, Nat.reduceAdd, Nat.zero_add, Int.reduceAdd, Nat.reduceEqDiff, reduceIte, Classical.not_not, b_Rd_cut]
          subst hQ
          exact ⟨rfl, ⟨j, by omega, fun x hx => hj x (by omega), hend, fun x hx => hnot x (by omega)⟩, k1, k2, k3⟩
        have e22 := ck22 _ (kin_v (t := t) (n := n) (i := pls t n j))
        have e23 := ck23 _ (kin_v (t := t) (n := n) (i := pls t n j))
        have hor : (ck (kin t n (pls t n j)) : Int) = 22 ∨ (ck (kin t n (pls t n j)) : Int) = 23 := by
          rcases hend with e | e
          · exact Or.inl (e22.mpr e)
          · exact Or.inr (e23.mpr e)
        generalize ck (kin t n (pls t n j)) = c at *
        have := a125 [some (vr 2), some (vr 1), some (vi n), l3, some (vi c), some (vi k), l6]
        refine AW.run ck_Rd_cut [108, 125] 10 27 ?_
        simp only [wR, wB, wE0, wE1, wE2, wE3, g0, gS, s10, s11, s1S, s20, s21, s2S, kl0, kl1, kl2, kl3, sp0, sp1, sp2, sp3, cn1, cn2, cn3, cn4, cn5, cn6, jJa, lk0, lk1, jmS, jmN, s4_0, s4_1, s4_2, s4_3, s4_4, sw0, sw1, cKs, cKn, true_and, and_true, List.map_cons, List.map_nil, Nat.reduceAdd, Nat.zero_add, Int.reduceAdd, Nat.reduceEqDiff, reduceIte, Classical.not_not, b_Rd_cut, shH, i4]
        (repeat' (first | omega | (with_reducible exact True.intro) | exact ⟨by omega, by omega⟩ | (with_reducible exact Or.inr trivial) | (with_reducible exact Or.inl trivial) | (with_reducible assumption) | (with_reducible exact Same.refl) | (with_reducible rfl) | (with_reducible refine And.intro ?_ ?_) | (with_reducible intro _)))
      intro r
      induction r with
      | zero =>
        intro k K tok l6 hk hK hj hnot htok hp1 hp0
        rcases htok with ⟨h, -⟩ | ⟨j, hkj, rfl⟩
        · omega
        · refine fin j k K _ l6 hkj (by omega) hK hj hnot ?_
          left
          apply Classical.byContradiction
          intro q
          have := kin_lt q
          have := pls_ge (t := t) (n := n) j
          omega
      | succ r ih =>
        intro k K tok l6 hk hK hj hnot htok hp1 hp0
        by_cases qe : ∃ j, k = j + 1 ∧ (kin t n (pls t n j) = 24 ∨ kin t n (pls t n j) = 25)
        · obtain ⟨j, hkj, hend⟩ := qe
          rcases htok with ⟨h, -⟩ | ⟨j', hkj', rfl⟩
          · omega
          · obtain rfl : j = j' := by omega
            exact fin j k K _ l6 hkj (by omega) hK hj hnot hend
        · have hpn : pls t n k ≤ n := by
            rcases htok with ⟨h, -⟩ | ⟨j, hkj, -⟩
            · subst h; exact hp0 rfl
            · exact hp1 j hkj (fun e => qe ⟨j, hkj, Or.inl e⟩) (fun e => qe ⟨j, hkj, Or.inr e⟩)
          have htn : (tok : Int) ≠ 22 ∧ (tok : Int) ≠ 23 := by
            rcases htok with ⟨-, h⟩ | ⟨j, hkj, rfl⟩
            · subst h; decide
            · exact ⟨fun e => qe ⟨j, hkj, Or.inl ((ck22 _ kin_v).mp e)⟩, fun e => qe ⟨j, hkj, Or.inr ((ck23 _ kin_v).mp e)⟩⟩
          have hnot' : ∀ j, j + 1 < k + 1 → kin t n (pls t n j) ≠ 24 ∧ kin t n (pls t n j) ≠ 25 := by
            intro j hj1
            by_cases e : j + 1 < k
            · exact hnot j e
            · exact ⟨fun e2 => qe ⟨j, by omega, Or.inl e2⟩, fun e2 => qe ⟨j, by omega, Or.inr e2⟩⟩
          obtain ⟨k1, k2, k3⟩ := keep K hK
          have hE1 : tEnd t n (pls t n k) ≤ n + 1 := by
            by_cases q : pls t n k < n
            · have := tEnd_le (t := t) q; omega
            · unfold tEnd
              rw [ltr_out (by omega), if_neg (by decide), if_neg (by decide)]
              omega
          have hgt := tEnd_gt (t := t) (n := n) (i := pls t n k)
          have hpl : rn bnk t n (tEnd t n (pls t n k)) = pls t n (k + 1) := rfl
          have hpn2 : ∀ j, k + 1 = j + 1 → kin t n (pls t n j) ≠ 24 → kin t n (pls t n j) ≠ 25 → pls t n (k + 1) ≤ n := by
            intro j hkj h1 _
            obtain rfl : j = k := by omega
            rw [← hpl]
            exact rn_le (tEnd_le (kin_lt h1))
          have e21 := ck21 _ (kin_v (t := t) (n := n) (i := pls t n k))
          have hca : ∀ N : AM, TxC N t n → MS G (d - 1) mi_Rd_endFrom [vr 2, vi (pls t n k)] N (fun r M' => r = some (vi (tEnd t n (pls t n k))) ∧ M' = N) := fun N hN => c_Rd_endFrom (by omega) hN hpn
          have hcb : ∀ N : AM, TxC N t n → MS G (d - 1) mi_Rd_tokenOf [vr 2, vi (pls t n k), vi (tEnd t n (pls t n k))] N (fun r M' => r = some (vi (ck (kin t n (pls t n k)))) ∧ M' = N) := fun N hN => c_Rd_tokenOf (by omega) hN hpn
          have hcc : ∀ N : AM, TxC N t n → MS G (d - 1) mi_Rd_pastBlanks [vr 2, vi (tEnd t n (pls t n k))] N (fun r M' => r = some (vi (pls t n (k + 1))) ∧ M' = N) := fun N hN => c_Rd_pastBlanks (by omega) hN hE1
          have hcd : ∀ N : AM, TxC N t n → kin t n (pls t n k) = 23 → MS G (d - 1) mi_Rd_valueOf [vr 2, vi (pls t n k), vi (tEnd t n (pls t n k))] N (fun r M' => r = some (vi (vlu t (pls t n k) (tEnd t n (pls t n k) - pls t n k))) ∧ M' = N) := fun N hN h => by
            obtain ⟨u1, u2, u3⟩ := kin_23 h
            exact c_Rd_valueOf (by omega) hN (by omega) u2 (tEnd_le u1) u3
          have hvb : kin t n (pls t n k) = 23 → 0 ≤ vlu t (pls t n k) (tEnd t n (pls t n k) - pls t n k) ∧ vlu t (pls t n k) (tEnd t n (pls t n k) - pls t n k) ≤ 999 := fun h => by
            obtain ⟨u1, u2, u3⟩ := kin_23 h
            exact vlu_b _ (by omega) (fun y hy => u3 _ (by omega) (by omega))
          have hih := fun N l6 h1 h2 => ih (k + 1) N (ck (kin t n (pls t n k))) l6 (by omega) h1 h2 hnot' (Or.inr ⟨k, rfl, rfl⟩) hpn2 (fun e => absurd e (by omega))
          generalize hE : tEnd t n (pls t n k) = E at *
          generalize hp : pls t n k = p at *
          generalize hp' : pls t n (k + 1) = p' at *
          generalize hkk : kin t n p = kk at *
          have hck : (ck kk : Int) ≤ 255 := by
            have key : ∀ k : Fin 42, ck k.val ≤ 255 := by decide +kernel
            have hv := kin_v (t := t) (n := n) (i := p)
            rw [hkk] at hv
            have := key ⟨kk, by unfold vK at hv; omega⟩
            have : ck kk ≤ 255 := this
            omega
          generalize hcc' : ck kk = cc' at *
          have a108 : ∀ v : Int, (kk = 23 → v = vlu t p (E - p)) → inI v → AW G d mi_Rd_cut Q 108 [some (vr 2), some (vr 1), some (vi n), some (vi p), some (vi cc'), some (vi k), some (vi E)] [vi v, vi k, vr 6] (up (up K 4 k cc') 5 k p) := by
            intro v hv hin
            have hK3 : Same [4, 5, 6] M1 (up (up (up K 4 k cc') 5 k p) 6 k v) := ((hK.up (by simp)).up (by simp)).up (by simp)
            have := hih (up (up (up K 4 k cc') 5 k p) 6 k v) (some (vi E)) hK3 (by
              intro j hjk
              by_cases e : j = k
              · subst e
                rw [hp, hkk, hcc', hE]
                refine ⟨?_, ?_, ?_⟩
                · rw [up_ne1 (by omega), up_ne1 (by omega), up_eq]
                · rw [up_ne1 (by omega), up_eq]
                · intro h; rw [up_eq]; exact hv h
              · obtain ⟨u1, u2, u3⟩ := hj j (by omega)
                refine ⟨?_, ?_, ?_⟩
                · rw [up_ne1 (by omega), up_ne1 (by omega), up_ne2 (by omega)]; exact u1
                · rw [up_ne1 (by omega), up_ne2 (by omega)]; exact u2
                · intro h; rw [up_ne2 (by omega)]; exact u3 h)
            have hTK := (keep _ hK3).1
            have hcc2 := hcc _ hTK
            refine AW.run ck_Rd_cut [27] 10 108 ?_
            simp only [wR, wB, wE0, wE1, wE2, wE3, g0, gS, s10, s11, s1S, s20, s21, s2S, kl0, kl1, kl2, kl3, sp0, sp1, sp2, sp3, cn1, cn2, cn3, cn4, cn5, cn6, jJa, lk0, lk1, jmS, jmN, s4_0, s4_1, s4_2, s4_3, s4_4, sw0, sw1, cKs, cKn, true_and, and_true, List.map_cons, List.map_nil, Nat.reduceAdd, Nat.zero_add, Int.reduceAdd, Nat.reduceEqDiff, reduceIte, Classical.not_not, b_Rd_cut, shH]
            (repeat' (first | omega | (with_reducible exact True.intro) | exact ⟨by omega, by omega⟩ | (with_reducible exact Or.inr trivial) | (with_reducible exact Or.inl trivial) | (with_reducible assumption) | (with_reducible exact Same.refl) | (with_reducible rfl) | (with_reducible refine And.intro ?_ ?_) | (with_reducible intro _)))
            refine MS.to hcc2 fun _ => ?_
            simp only [wR, wB, wE0, wE1, wE2, wE3, g0, gS, s10, s11, s1S, s20, s21, s2S, kl0, kl1, kl2, kl3, sp0, sp1, sp2, sp3, cn1, cn2, cn3, cn4, cn5, cn6, jJa, lk0, lk1, jmS, jmN, s4_0, s4_1, s4_2, s4_3, s4_4, sw0, sw1, cKs, cKn, true_and, and_true, List.map_cons, List.map_nil, Nat.reduceAdd, Nat.zero_add, Int.reduceAdd, Nat.reduceEqDiff, reduceIte, Classical.not_not, b_Rd_cut, ce]
            (repeat' (first | omega | (with_reducible exact True.intro) | exact ⟨by omega, by omega⟩ | (with_reducible exact Or.inr trivial) | (with_reducible exact Or.inl trivial) | (with_reducible assumption) | (with_reducible exact Same.refl) | (with_reducible rfl) | (with_reducible refine And.intro ?_ ?_) | (with_reducible intro _)))
          refine AW.run ck_Rd_cut [108, 125] 10 27 ?_
          simp only [wR, wB, wE0, wE1, wE2, wE3, g0, gS, s10, s11, s1S, s20, s21, s2S, kl0, kl1, kl2, kl3, sp0, sp1, sp2, sp3, cn1, cn2, cn3, cn4, cn5, cn6, jJa, lk0, lk1, jmS, jmN, s4_0, s4_1, s4_2, s4_3, s4_4, sw0, sw1, cKs, cKn, true_and, and_true, List.map_cons, List.map_nil, Nat.reduceAdd, Nat.zero_add, Int.reduceAdd, Nat.reduceEqDiff, reduceIte, Classical.not_not, b_Rd_cut, shH, i4]
          (repeat' (first | omega | (with_reducible exact True.intro) | exact ⟨by omega, by omega⟩ | (with_reducible exact Or.inr trivial) | (with_reducible exact Or.inl trivial) | (with_reducible assumption) | (with_reducible exact Same.refl) | (with_reducible rfl) | (with_reducible refine And.intro ?_ ?_) | (with_reducible intro _)))
          refine MS.to (hca K k1) fun _ => ?_
          simp only [wR, wB, wE0, wE1, wE2, wE3, g0, gS, s10, s11, s1S, s20, s21, s2S, kl0, kl1, kl2, kl3, sp0, sp1, sp2, sp3, cn1, cn2, cn3, cn4, cn5, cn6, jJa, lk0, lk1, jmS, jmN, s4_0, s4_1, s4_2, s4_3, s4_4, sw0, sw1, cKs, cKn, true_and, and_true, List.map_cons, List.map_nil, Nat.reduceAdd, Nat.zero_add, Int.reduceAdd, Nat.reduceEqDiff, reduceIte, Classical.not_not, b_Rd_cut, shH]
          (repeat' (first | omega | (with_reducible exact True.intro) | exact ⟨by omega, by omega⟩ | (with_reducible exact Or.inr trivial) | (with_reducible exact Or.inl trivial) | (with_reducible assumption) | (with_reducible exact Same.refl) | (with_reducible rfl) | (with_reducible refine And.intro ?_ ?_) | (with_reducible intro _)))
          refine MS.to (hcb K k1) fun _ => ?_
          simp only [wR, wB, wE0, wE1, wE2, wE3, g0, gS, s10, s11, s1S, s20, s21, s2S, kl0, kl1, kl2, kl3, sp0, sp1, sp2, sp3, cn1, cn2, cn3, cn4, cn5, cn6, jJa, lk0, lk1, jmS, jmN, s4_0, s4_1, s4_2, s4_3, s4_4, sw0, sw1, cKs, cKn, true_and, and_true, List.map_cons, List.map_nil, Nat.reduceAdd, Nat.zero_add, Int.reduceAdd, Nat.reduceEqDiff, reduceIte, Classical.not_not, b_Rd_cut, shH]
          have hK2 : Same [4, 5, 6] M1 (up (up K 4 k cc') 5 k p) := (hK.up (by simp)).up (by simp)
          have hTK2 := (keep _ hK2).1
          by_cases q : kk = 23
          · have := a108 _ (fun _ => rfl) (by have := hvb q; unfold inI; omega)
            have hcd2 := hcd _ hTK2 q
            have := e21.mpr q
            (repeat' (first | omega | (with_reducible exact True.intro) | exact ⟨by omega, by omega⟩ | (with_reducible exact Or.inr trivial) | (with_reducible exact Or.inl trivial) | (with_reducible assumption) | (with_reducible exact Same.refl) | (with_reducible rfl) | (with_reducible refine And.intro ?_ ?_) | (with_reducible intro _)))
            refine MS.to hcd2 fun _ => ?_
            simp only [wR, wB, wE0, wE1, wE2, wE3, g0, gS, s10, s11, s1S, s20, s21, s2S, kl0, kl1, kl2, kl3, sp0, sp1, sp2, sp3, cn1, cn2, cn3, cn4, cn5, cn6, jJa, lk0, lk1, jmS, jmN, s4_0, s4_1, s4_2, s4_3, s4_4, sw0, sw1, cKs, cKn, true_and, and_true, List.map_cons, List.map_nil, Nat.reduceAdd, Nat.zero_add, Int.reduceAdd, Nat.reduceEqDiff, reduceIte, Classical.not_not, b_Rd_cut, shH]
            (repeat' (first | omega | (with_reducible exact True.intro) | exact ⟨by omega, by omega⟩ | (with_reducible exact Or.inr trivial) | (with_reducible exact Or.inl trivial) | (with_reducible assumption) | (with_reducible exact Same.refl) | (with_reducible rfl) | (with_reducible refine And.intro ?_ ?_) | (with_reducible intro _)))
          · have := a108 0 (fun e => absurd e q) (by unfold inI; omega)
            have : ¬ (cc' : Int) = 21 := fun e => q (e21.mp e)
            (repeat' (first | omega | (with_reducible exact True.intro) | exact ⟨by omega, by omega⟩ | (with_reducible exact Or.inr trivial) | (with_reducible exact Or.inl trivial) | (with_reducible assumption) | (with_reducible exact Same.refl) | (with_reducible rfl) | (with_reducible refine And.intro ?_ ?_) | (with_reducible intro _)))
  have hp0 : pls t n 0 ≤ n := rn_le (by omega)
  have := l27 901 0 M1 0 none (by omega) Same.refl (fun j h => absurd h (by omega)) (fun j h => absurd h (by omega)) (Or.inl ⟨rfl, rfl⟩) (fun j h => absurd h (by omega)) (fun _ => hp0)
  have hpb : MS G (d - 1) mi_Rd_pastBlanks [vr 2, vi 0] M1 (fun r M' => r = some (vi (pls t n 0)) ∧ M' = M1) := c_Rd_pastBlanks (i := 0) (by omega) hT1 (by omega)
  rw [nc0] at this
  refine AW.run ck_Rd_cut [27] 10 0 ?_
  simp only [wR, wB, wE0, wE1, wE2, wE3, g0, gS, s10, s11, s1S, s20, s21, s2S, kl0, kl1, kl2, kl3, sp0, sp1, sp2, sp3, cn1, cn2, cn3, cn4, cn5, cn6, jJa, lk0, lk1, jmS, jmN, s4_0, s4_1, s4_2, s4_3, s4_4, sw0, sw1, cKs, cKn, true_and, and_true, List.map_cons, List.map_nil, Nat.reduceAdd, Nat.zero_add, Int.reduceAdd, Nat.reduceEqDiff, reduceIte, Classical.not_not, b_Rd_cut, shH, i1]
  rw [hmn, hM1]
  (repeat' (first | omega | (with_reducible exact True.intro) | exact ⟨by omega, by omega⟩ | (with_reducible exact Or.inr trivial) | (with_reducible exact Or.inl trivial) | (with_reducible assumption) | (with_reducible exact Same.refl) | (with_reducible rfl) | (with_reducible refine And.intro ?_ ?_) | (with_reducible intro _)))
  refine MS.to hpb fun _ => ?_
  simp only [wR, wB, wE0, wE1, wE2, wE3, g0, gS, s10, s11, s1S, s20, s21, s2S, kl0, kl1, kl2, kl3, sp0, sp1, sp2, sp3, cn1, cn2, cn3, cn4, cn5, cn6, jJa, lk0, lk1, jmS, jmN, s4_0, s4_1, s4_2, s4_3, s4_4, sw0, sw1, cKs, cKn, true_and, and_true, List.map_cons, List.map_nil, Nat.reduceAdd, Nat.zero_add, Int.reduceAdd, Nat.reduceEqDiff, reduceIte, Classical.not_not, b_Rd_cut, shH]
  (repeat' (first | omega | (with_reducible exact True.intro) | exact ⟨by omega, by omega⟩ | (with_reducible exact Or.inr trivial) | (with_reducible exact Or.inl trivial) | (with_reducible assumption) | (with_reducible exact Same.refl) | (with_reducible rfl) | (with_reducible refine And.intro ?_ ?_) | (with_reducible intro _)))
end CV
