def bI (N : AM) (z : Int) (Pr : Nat → Prop) : Prop := ∀ x : Nat, x < 3125 → (N z x = 1 ∧ Pr x) ∨ (N z x = 0 ∧ ¬ Pr x)
theorem bI.iff {N : AM} {z : Int} {P Q : Nat → Prop} (h : bI N z P) (e : ∀ x, P x ↔ Q x) : bI N z Q := fun x hx => by rw [← e x]; exact h x hx
theorem bI.eq {N K : AM} {z : Int} {P : Nat → Prop} (h : bI N z P) (e : ∀ x : Nat, x < 3125 → K z x = N z x) : bI K z P := fun x hx => by rw [e x hx]; exact h x hx
section CH2
variable {G : AG} {d : Nat} {M : AM}
set_option maxRecDepth 20000 in
theorem c_Md_canHold {h : Hl} {m : Mo} {side pe must n : Nat} (hd : 20 ≤ d) (hok : HlOK h) (mok : MoOK m) (hH : MH (M 118) h) (hm : MRow (fun y => M 118 (19 + y)) h.P m) (hpe : pe < 32) (hn : n ≤ 1000) :
    MS G d mi_Md_canHold [vr 117, vi side, vi pe, vi must, vi n] M (fun r M' => r = some (vi (if cb (cnH (okH h m.sd m.cold side pe must) (nxt h m.sd m.cold) n (cod m.st h.P)) = true then 1 else 0)) ∧ Same [117, 122, 123, 125, 126, 129, 130, 131, 132] M M' ∧ ∀ y : Int, y ≠ 27 → M' 117 y = M 117 y) := by
  have hP := hok.1
  have hs0 := cod_100k hok mok
  refine MS.by ck_Md_canHold [some (vr 117), some (vi side), some (vi pe), some (vi must), some (vi n), none, none, none, none] fun _ _ => ?_
  generalize hQ : (fun (r : Option AV) (M' : AM) => r = some (vi (if cb (cnH (okH h m.sd m.cold side pe must) (nxt h m.sd m.cold) n (cod m.st h.P)) = true then 1 else 0)) ∧ Same [117, 122, 123, 125, 126, 129, 130, 131, 132] M M' ∧ ∀ y : Int, y ≠ 27 → M' 117 y = M 117 y) = Q
  refine AW.run ck_Md_canHold [12] 10 0 ?_
  simp only [wR, wB, wE0, wE1, wE2, wE3, g0, gS, s10, s11, s1S, s20, s21, s2S, kl0, kl1, kl2, kl3, sp0, sp1, sp2, sp3, cn1, cn2, cn3, cn4, cn5, cn6, jJa, lk0, lk1, jmS, jmN, s4_0, s4_1, s4_2, s4_3, s4_4, sw0, sw1, cKs, cKn, true_and, and_true, List.map_cons, List.map_nil, Nat.reduceAdd, Nat.zero_add, Int.reduceAdd, Nat.reduceEqDiff, reduceIte, Classical.not_not, b_Md_canHold, shMd]
  refine ⟨by omega, (c_Md_laysStands (d := d - 1) (by omega) hok mok hH hm hpe).mono ?_⟩
  rintro r0 M1 okM1 ⟨rfl, ⟨l, L0⟩, u1, u2⟩
  simp only [wR, wB, wE0, wE1, wE2, wE3, g0, gS, s10, s11, s1S, s20, s21, s2S, kl0, kl1, kl2, kl3, sp0, sp1, sp2, sp3, cn1, cn2, cn3, cn4, cn5, cn6, jJa, lk0, lk1, jmS, jmN, s4_0, s4_1, s4_2, s4_3, s4_4, sw0, sw1, cKs, cKn, true_and, and_true, List.map_cons, List.map_nil, Nat.reduceAdd, Nat.zero_add, Int.reduceAdd, Nat.reduceEqDiff, reduceIte, Classical.not_not, b_Md_canHold, shMd]
  have e118 : M1 118 = M 118 := u1 118 (by (first | decide | (simp only [List.mem_cons, List.not_mem_nil, or_false, not_or, not_false_eq_true, and_true]; omega) | (simp [List.mem_cons]; done)))
  refine ⟨by omega, (c_Md_beginsMany (d := d - 1) (P := h.P) (st := m.st) (by rw [e118]; exact hH.2.1) hP (by rw [e118]; exact hm.st mok) (by omega)).mono ?_⟩
  rintro r1 M2 okM2 ⟨rfl, b1, b2⟩
  simp only [wR, wB, wE0, wE1, wE2, wE3, g0, gS, s10, s11, s1S, s20, s21, s2S, kl0, kl1, kl2, kl3, sp0, sp1, sp2, sp3, cn1, cn2, cn3, cn4, cn5, cn6, jJa, lk0, lk1, jmS, jmN, s4_0, s4_1, s4_2, s4_3, s4_4, sw0, sw1, cKs, cKn, true_and, and_true, List.map_cons, List.map_nil, Nat.reduceAdd, Nat.zero_add, Int.reduceAdd, Nat.reduceEqDiff, reduceIte, Classical.not_not, b_Md_canHold, shMd]
  have hnd := L0.1.2.2.2.1
  have hl3 := L0.1.2.2.2.2
  have hlen := len_lt hnd hl3
  have hsin : cod m.st h.P ∈ l := (L0.2.1.2 _).mpr Rc.refl
  have keep : ∀ K : AM, Same [122, 123, 131, 132] M1 K → LSt K h m.sd m.cold pe (cod m.st h.P) l ∧ Same [117, 122, 123, 125, 126, 129, 130, 131, 132] M K ∧ (∀ y : Int, y ≠ 27 → K 117 y = M 117 y) ∧ K 118 = M 118 := by
    intro K hK
    refine ⟨L0.far (hK.at 117 _ (by (first | decide | (simp only [List.mem_cons, List.not_mem_nil, or_false, not_or, not_false_eq_true, and_true]; omega) | (simp [List.mem_cons]; done)))) (fun x hx => hK x (by (first | decide | (simp only [List.mem_cons, List.not_mem_nil, or_false, not_or, not_false_eq_true, and_true]; omega) | (simp [List.mem_cons]; done)))), (u1.mono (by simp)).trans (hK.mono (by simp)), fun y hy => by rw [hK.at 117 _ (by (first | decide | (simp only [List.mem_cons, List.not_mem_nil, or_false, not_or, not_false_eq_true, and_true]; omega) | (simp [List.mem_cons]; done)))]; exact u2 y hy, ?_⟩
    rw [hK 118 (by (first | decide | (simp only [List.mem_cons, List.not_mem_nil, or_false, not_or, not_false_eq_true, and_true]; omega) | (simp [List.mem_cons]; done))), e118]
  have hcl : ∀ t set, t ∈ l → set < 32 → okH h m.sd m.cold side pe must t set = true → nxt h m.sd m.cold t set ∈ l := fun t set a b c => L0.cl t set a b (okH_P c).1
  have hrow : ∀ K : AM, Same [122, 123, 131, 132] M1 K → ∀ s, s ∈ l → ∀ set : Nat, set < 32 → K 126 (32 * (s : Int) + set) = if okP h.P pe s set = true then (nxt h m.sd m.cold s set : Int) else -1 := fun K hK s hs set hset => ((keep K hK).1.2.2.2 s hs set hset).1
  have hoP : ∀ s set, okH h m.sd m.cold side pe must s set = true → okP h.P pe s set = true := fun s set e => (okH_P e).1
  have hoI : ∀ s set, okP h.P pe s set = true → (must ≤ hands h m.sd m.cold s set side ↔ okH h m.sd m.cold side pe must s set = true) := fun s set e => ⟨fun e2 => okH_of e e2, fun e2 => (okH_P e2).2⟩
  have hmem : ∀ k t, rcK (okH h m.sd m.cold side pe must) (nxt h m.sd m.cold) (cod m.st h.P) k t → t ∈ l := by
    intro k
    induction k with
    | zero => intro t ht; rw [show t = cod m.st h.P from ht]; exact hsin
    | succ k ih =>
      rintro t ⟨t', set, a, b, c, e⟩
      rw [← e]; exact hcl _ _ (ih _ a) b c
  have hcn := rcK_cn (ok := okH h m.sd m.cold side pe must) (nx := nxt h m.sd m.cold) (s0 := cod m.st h.P)
  generalize hR : rcK (okH h m.sd m.cold side pe must) (nxt h m.sd m.cold) (cod m.st h.P) = Rk at hmem hcn
  have hRs : ∀ k x, Rk (k + 1) x ↔ ∃ t set, Rk k t ∧ set < 32 ∧ okH h m.sd m.cold side pe must t set = true ∧ nxt h m.sd m.cold t set = x := by
    intro k x; rw [← hR]; exact Iff.rfl
  have hR0 : ∀ x, Rk 0 x ↔ x = cod m.st h.P := by intro x; rw [← hR]; exact Iff.rfl
  generalize hokf : okH h m.sd m.cold side pe must = okf at hQ hcl hoP hoI hcn hRs
  generalize hnxf : nxt h m.sd m.cold = nxf at hQ hcl hrow hcn hRs
  have l12 : ∀ (r k : Nat) (K : AM) (l6 l7 l8 : Option AV), k + r = n → Same [122, 123, 131, 132] M1 K → bI K 131 (Rk k) → (∀ x : Nat, x < 3125 → K 132 x = 0) → AW G d mi_Md_canHold Q 12 [some (vr 117), some (vi side), some (vi pe), some (vi must), some (vi n), some (vi k), l6, l7, l8] [] K := by
    as_aux_lemma =>
      intro r
      induction r with
      | zero =>
        intro k K l6 l7 l8 hk hK hb hz
        obtain ⟨k1, k2, k3, k4⟩ := keep K hK
        have ha : ∀ s : Nat, s < 3125 → K 131 s = (((K 131 s).toNat : Nat) : Int) := fun s hs => by
          rcases hb s hs with ⟨a, _⟩ | ⟨a, _⟩ <;> rw [a] <;> rfl
        have hle : sumN (fun s => (K 131 (s : Int)).toNat) 3125 ≤ 1 * 3125 := sumN_le 1 3125 (fun s hs => by
          rcases hb s hs with ⟨a, _⟩ | ⟨a, _⟩ <;> rw [a] <;> decide)
        have hpos : 0 < sumN (fun s => (K 131 (s : Int)).toNat) 3125 ↔ cnH okf nxf n (cod m.st h.P) := by
          have h0 := hcn k 0
          rw [show 0 + k = n by omega] at h0
          rw [sumN_pos, ← h0]
          constructor
          · rintro ⟨s, a, b⟩
            rcases hb s a with ⟨_, c⟩ | ⟨c, _⟩
            · exact ⟨s, c, True.intro⟩
            · rw [c] at b; exact absurd b (by decide)
          · rintro ⟨s, a, _⟩
            have h3 := hl3 s (hmem k s a)
            refine ⟨s, h3, ?_⟩
            rcases hb s h3 with ⟨c, _⟩ | ⟨_, c⟩
            · rw [c]; decide
            · exact absurd a c
        refine AW.run ck_Md_canHold [22] 10 12 ?_
        simp only [wR, wB, wE0, wE1, wE2, wE3, g0, gS, s10, s11, s1S, s20, s21, s2S, kl0, kl1, kl2, kl3, sp0, sp1, sp2, sp3, cn1, cn2, cn3, cn4, cn5, cn6, jJa, lk0, lk1, jmS, jmN, s4_0, s4_1, s4_2, s4_3, s4_4, sw0, sw1, cKs, cKn, true_and, and_true, List.map_cons, List.map_nil, Nat.reduceAdd, Nat.zero_add, Int.reduceAdd, Nat.reduceEqDiff, reduceIte, Classical.not_not, b_Md_canHold, shMd]
        (repeat' (first | omega | (with_reducible exact True.intro) | exact ⟨by omega, by omega⟩ | (with_reducible exact Or.inr trivial) | (with_reducible exact Or.inl trivial) | (with_reducible assumption) | (with_reducible exact Same.refl) | (with_reducible rfl) | (with_reducible refine And.intro ?_ ?_) | (with_reducible intro _)))
        refine MS.to (c_Md_manySum ha (by omega)) fun _ => ?_
        simp only [wR, wB, wE0, wE1, wE2, wE3, g0, gS, s10, s11, s1S, s20, s21, s2S, kl0, kl1, kl2, kl3, sp0, sp1, sp2, sp3, cn1, cn2, cn3, cn4, cn5, cn6, jJa, lk0, lk1, jmS, jmN, s4_0, s4_1, s4_2, s4_3, s4_4, sw0, sw1, cKs, cKn, true_and, and_true, List.map_cons, List.map_nil, Nat.reduceAdd, Nat.zero_add, Int.reduceAdd, Nat.reduceEqDiff, reduceIte, Classical.not_not, b_Md_canHold, cmp3_le, cmp3_gt]
        subst hQ
        by_cases q : cnH okf nxf n (cod m.st h.P)
        · rw [if_pos (cb_iff.mpr q)]
          have := hpos.mpr q
          (repeat' (first | omega | (with_reducible exact True.intro) | exact ⟨by omega, by omega⟩ | (with_reducible exact Or.inr trivial) | (with_reducible exact Or.inl trivial) | (with_reducible assumption) | (with_reducible exact Same.refl) | (with_reducible rfl) | (with_reducible refine And.intro ?_ ?_) | (with_reducible intro _)))
        · rw [if_neg (fun e => q (cb_iff.mp e))]
          have : ¬ 0 < sumN (fun s => (K 131 (s : Int)).toNat) 3125 := fun e => q (hpos.mp e)
          (repeat' (first | omega | (with_reducible exact True.intro) | exact ⟨by omega, by omega⟩ | (with_reducible exact Or.inr trivial) | (with_reducible exact Or.inl trivial) | (with_reducible assumption) | (with_reducible exact Same.refl) | (with_reducible rfl) | (with_reducible refine And.intro ?_ ?_) | (with_reducible intro _)))
      | succ r ihh =>
        intro hr K l6 l7 l8 hk hK0 hb0 hz0
        have l22 : ∀ (r k : Nat) (K : AM) (l7 l8 : Option AV), k + r = l.length → Same [122, 123, 131, 132] M1 K → bI K 131 (Rk hr) → bI K 132 (fun x => ∃ j, j < k ∧ ∃ set, set < 32 ∧ Rk hr (l.getD j 0) ∧ okf (l.getD j 0) set = true ∧ nxf (l.getD j 0) set = x) → AW G d mi_Md_canHold Q 22 [some (vr 117), some (vi side), some (vi pe), some (vi must), some (vi n), some (vi hr), some (vi k), l7, l8] [] K := by
          intro r
          induction r with
          | zero =>
            intro k K l7 l8 hkl hK hb hb2
            obtain ⟨k1, k2, k3, k4⟩ := keep K hK
            have e27 := k1.1.1
            refine AW.run ck_Md_canHold [12, 43] 10 22 ?_
            simp only [wR, wB, wE0, wE1, wE2, wE3, g0, gS, s10, s11, s1S, s20, s21, s2S, kl0, kl1, kl2, kl3, sp0, sp1, sp2, sp3, cn1, cn2, cn3, cn4, cn5, cn6, jJa, lk0, lk1, jmS, jmN, s4_0, s4_1, s4_2, s4_3, s4_4, sw0, sw1, cKs, cKn, true_and, and_true, List.map_cons, List.map_nil, Nat.reduceAdd, Nat.zero_add, Int.reduceAdd, Nat.reduceEqDiff, reduceIte, Classical.not_not, b_Md_canHold, shMd, e27]
            (repeat' (first | omega | (with_reducible exact True.intro) | exact ⟨by omega, by omega⟩ | (with_reducible exact Or.inr trivial) | (with_reducible exact Or.inl trivial) | (with_reducible assumption) | (with_reducible exact Same.refl) | (with_reducible rfl) | (with_reducible refine And.intro ?_ ?_) | (with_reducible intro _)))
            refine c_Md_isThen.mono ?_
            rintro r' K2 okK2 ⟨rfl, i1, i2⟩
            have := ihh (hr + 1) K2 (some (vi k)) l7 l8 (by omega) (hK.trans (i2.mono (by simp))) (fun x hx => by
              rw [(i1 x hx).1, hRs]
              have e : (∃ t set, Rk hr t ∧ set < 32 ∧ okf t set = true ∧ nxf t set = x) ↔ ∃ j, j < k ∧ ∃ set, set < 32 ∧ Rk hr (l.getD j 0) ∧ okf (l.getD j 0) set = true ∧ nxf (l.getD j 0) set = x := by
                constructor
                · rintro ⟨t, set, a, b, c, e⟩
                  obtain ⟨j, hj, ej⟩ := mem_getD (hmem hr t a)
                  exact ⟨j, by omega, set, b, by rw [ej]; exact ⟨a, c, e⟩⟩
                · rintro ⟨j, _, set, b, a, c, e⟩
                  exact ⟨_, set, a, b, c, e⟩
              rw [e]
              exact hb2 x hx) (fun x hx => (i1 x hx).2)
            simp only [wR, wB, wE0, wE1, wE2, wE3, g0, gS, s10, s11, s1S, s20, s21, s2S, kl0, kl1, kl2, kl3, sp0, sp1, sp2, sp3, cn1, cn2, cn3, cn4, cn5, cn6, jJa, lk0, lk1, jmS, jmN, s4_0, s4_1, s4_2, s4_3, s4_4, sw0, sw1, cKs, cKn, true_and, and_true, List.map_cons, List.map_nil, Nat.reduceAdd, Nat.zero_add, Int.reduceAdd, Nat.reduceEqDiff, reduceIte, Classical.not_not, b_Md_canHold, ce]
            (repeat' (first | omega | (with_reducible exact True.intro) | exact ⟨by omega, by omega⟩ | (with_reducible exact Or.inr trivial) | (with_reducible exact Or.inl trivial) | (with_reducible assumption) | (with_reducible exact Same.refl) | (with_reducible rfl) | (with_reducible refine And.intro ?_ ?_) | (with_reducible intro _)))
          | succ r ihk =>
            intro k K l7 l8 hkl hK hb hb2
            obtain ⟨k1, k2, k3, k4⟩ := keep K hK
            have e27 := k1.1.1
            have hkl' : k < l.length := by omega
            have hsk := getD_mem hkl'
            have eK : K 125 (k : Int) = ((l.getD k 0 : Nat) : Int) := k1.1.2.1 k hkl'
            generalize hsk' : l.getD k 0 = sk at hsk eK
            have hsk3 := hl3 sk hsk
            have a117 : ∀ (K : AM) (l8 : Option AV), Same [122, 123, 131, 132] M1 K → bI K 131 (Rk hr) → bI K 132 (fun x => (∃ j, j < k ∧ ∃ set, set < 32 ∧ Rk hr (l.getD j 0) ∧ okf (l.getD j 0) set = true ∧ nxf (l.getD j 0) set = x) ∨ ∃ set, set < 32 ∧ Rk hr sk ∧ okf sk set = true ∧ nxf sk set = x) → AW G d mi_Md_canHold Q 117 [some (vr 117), some (vi side), some (vi pe), some (vi must), some (vi n), some (vi hr), some (vi k), some (vi sk), l8] [] K := by
              intro K l8 h1 h2 h3
              have := ihk (k + 1) K (some (vi sk)) l8 (by omega) h1 h2 (h3.iff (fun x => by
                constructor
                · rintro (⟨j, hj, rest⟩ | rest)
                  · exact ⟨j, by omega, rest⟩
                  · exact ⟨k, by omega, by rw [hsk']; exact rest⟩
                · rintro ⟨j, hj, rest⟩
                  by_cases e : j = k
                  · subst e; rw [hsk'] at rest; exact Or.inr rest
                  · exact Or.inl ⟨j, by omega, rest⟩))
              refine AW.run ck_Md_canHold [22] 10 117 ?_
              simp only [wR, wB, wE0, wE1, wE2, wE3, g0, gS, s10, s11, s1S, s20, s21, s2S, kl0, kl1, kl2, kl3, sp0, sp1, sp2, sp3, cn1, cn2, cn3, cn4, cn5, cn6, jJa, lk0, lk1, jmS, jmN, s4_0, s4_1, s4_2, s4_3, s4_4, sw0, sw1, cKs, cKn, true_and, and_true, List.map_cons, List.map_nil, Nat.reduceAdd, Nat.zero_add, Int.reduceAdd, Nat.reduceEqDiff, reduceIte, Classical.not_not, b_Md_canHold, ce]
              (repeat' (first | omega | (with_reducible exact True.intro) | exact ⟨by omega, by omega⟩ | (with_reducible exact Or.inr trivial) | (with_reducible exact Or.inl trivial) | (with_reducible assumption) | (with_reducible exact Same.refl) | (with_reducible rfl) | (with_reducible refine And.intro ?_ ?_) | (with_reducible intro _)))
            have l43 : ∀ (r set : Nat) (K : AM), set + r = 32 → Same [122, 123, 131, 132] M1 K → bI K 131 (Rk hr) → bI K 132 (fun x => (∃ j, j < k ∧ ∃ set, set < 32 ∧ Rk hr (l.getD j 0) ∧ okf (l.getD j 0) set = true ∧ nxf (l.getD j 0) set = x) ∨ ∃ y, y < set ∧ Rk hr sk ∧ okf sk y = true ∧ nxf sk y = x) → AW G d mi_Md_canHold Q 43 [some (vr 117), some (vi side), some (vi pe), some (vi must), some (vi n), some (vi hr), some (vi k), some (vi sk), some (vi set)] [] K := by
              intro r
              induction r with
              | zero =>
                intro set K hset h1 h2 h3
                have := a117 K (some (vi set)) h1 h2 (by rw [show set = 32 by omega] at h3; exact h3)
                refine AW.run ck_Md_canHold [117, 111] 10 43 ?_
                simp only [wR, wB, wE0, wE1, wE2, wE3, g0, gS, s10, s11, s1S, s20, s21, s2S, kl0, kl1, kl2, kl3, sp0, sp1, sp2, sp3, cn1, cn2, cn3, cn4, cn5, cn6, jJa, lk0, lk1, jmS, jmN, s4_0, s4_1, s4_2, s4_3, s4_4, sw0, sw1, cKs, cKn, true_and, and_true, List.map_cons, List.map_nil, Nat.reduceAdd, Nat.zero_add, Int.reduceAdd, Nat.reduceEqDiff, reduceIte, Classical.not_not, b_Md_canHold, shMd]
                (repeat' (first | omega | (with_reducible exact True.intro) | exact ⟨by omega, by omega⟩ | (with_reducible exact Or.inr trivial) | (with_reducible exact Or.inl trivial) | (with_reducible assumption) | (with_reducible exact Same.refl) | (with_reducible rfl) | (with_reducible refine And.intro ?_ ?_) | (with_reducible intro _)))
              | succ r ihr =>
                intro set K hset h1 h2 h3
                obtain ⟨k1, k2, k3, k4⟩ := keep K h1
                have hb := h2 sk hsk3
                have e126 := hrow K h1 sk hsk set (by omega)
                have n29 : K 118 29 = m.cold := by rw [k4]; exact hm.2.1
                by_cases qr : Rk hr sk
                · have e131 : K 131 sk = 1 := by
                    rcases hb with ⟨a, _⟩ | ⟨_, a⟩
                    · exact a
                    · exact absurd qr a
                  have a111 : ∀ K : AM, Same [122, 123, 131, 132] M1 K → bI K 131 (Rk hr) → bI K 132 (fun x => (∃ j, j < k ∧ ∃ set, set < 32 ∧ Rk hr (l.getD j 0) ∧ okf (l.getD j 0) set = true ∧ nxf (l.getD j 0) set = x) ∨ ∃ y, y < set + 1 ∧ Rk hr sk ∧ okf sk y = true ∧ nxf sk y = x) → AW G d mi_Md_canHold Q 111 [some (vr 117), some (vi side), some (vi pe), some (vi must), some (vi n), some (vi hr), some (vi k), some (vi sk), some (vi set)] [] K := by
                    intro K g1 g2 g3
                    have := ihr (set + 1) K (by omega) g1 g2 g3
                    refine AW.run ck_Md_canHold [43] 10 111 ?_
                    simp only [wR, wB, wE0, wE1, wE2, wE3, g0, gS, s10, s11, s1S, s20, s21, s2S, kl0, kl1, kl2, kl3, sp0, sp1, sp2, sp3, cn1, cn2, cn3, cn4, cn5, cn6, jJa, lk0, lk1, jmS, jmN, s4_0, s4_1, s4_2, s4_3, s4_4, sw0, sw1, cKs, cKn, true_and, and_true, List.map_cons, List.map_nil, Nat.reduceAdd, Nat.zero_add, Int.reduceAdd, Nat.reduceEqDiff, reduceIte, Classical.not_not, b_Md_canHold, ce]
                    (repeat' (first | omega | (with_reducible exact True.intro) | exact ⟨by omega, by omega⟩ | (with_reducible exact Or.inr trivial) | (with_reducible exact Or.inl trivial) | (with_reducible assumption) | (with_reducible exact Same.refl) | (with_reducible rfl) | (with_reducible refine And.intro ?_ ?_) | (with_reducible intro _)))
                  have no : okf sk set = false → ∀ K2 : AM, Same [122, 123] K K2 → AW G d mi_Md_canHold Q 111 [some (vr 117), some (vi side), some (vi pe), some (vi must), some (vi n), some (vi hr), some (vi k), some (vi sk), some (vi set)] [] K2 := by
                    intro e K2 hK2
                    refine a111 K2 (h1.trans (hK2.mono (by simp))) (h2.eq (fun x _ => hK2.at 131 _ (by (first | decide | (simp only [List.mem_cons, List.not_mem_nil, or_false, not_or, not_false_eq_true, and_true]; omega) | (simp [List.mem_cons]; done))))) ((h3.eq (fun x _ => hK2.at 132 _ (by (first | decide | (simp only [List.mem_cons, List.not_mem_nil, or_false, not_or, not_false_eq_true, and_true]; omega) | (simp [List.mem_cons]; done))))).iff (fun x => ?_))
                    constructor
                    · rintro (a | ⟨y, hy, rest⟩)
                      · exact Or.inl a
                      · exact Or.inr ⟨y, by omega, rest⟩
                    · rintro (a | ⟨y, hy, rest⟩)
                      · exact Or.inl a
                      · by_cases ey : y = set
                        · subst ey; rw [e] at rest; exact absurd rest.2.1 (by decide)
                        · exact Or.inr ⟨y, by omega, rest⟩
                  refine AW.run ck_Md_canHold [117, 111] 10 43 ?_
                  simp only [wR, wB, wE0, wE1, wE2, wE3, g0, gS, s10, s11, s1S, s20, s21, s2S, kl0, kl1, kl2, kl3, sp0, sp1, sp2, sp3, cn1, cn2, cn3, cn4, cn5, cn6, jJa, lk0, lk1, jmS, jmN, s4_0, s4_1, s4_2, s4_3, s4_4, sw0, sw1, cKs, cKn, true_and, and_true, List.map_cons, List.map_nil, Nat.reduceAdd, Nat.zero_add, Int.reduceAdd, Nat.reduceEqDiff, reduceIte, Classical.not_not, b_Md_canHold, shMd, e131, e126, cmp3_le]
                  by_cases q : okP h.P pe sk set = true
                  · rw [if_pos q]
                    have hnl : nxf sk set < 3125 := by rw [← hnxf]; exact nxt_lt hok
                    (repeat' (first | omega | (with_reducible exact True.intro) | exact ⟨by omega, by omega⟩ | (with_reducible exact Or.inr trivial) | (with_reducible exact Or.inl trivial) | (with_reducible assumption) | (with_reducible exact Same.refl) | (with_reducible rfl) | (with_reducible refine And.intro ?_ ?_) | (with_reducible intro _)))
                    refine (c_Md_countIn (d := d - 1) (cold := m.cold) (sd := m.sd) (by omega) hok (by rw [k4]; exact hH) (by rw [k4]; exact hm.sd mok) (by omega) n29 mok.2).mono ?_
                    rintro r' K2 okK2 ⟨rfl, w2⟩
                    simp only [wR, wB, wE0, wE1, wE2, wE3, g0, gS, s10, s11, s1S, s20, s21, s2S, kl0, kl1, kl2, kl3, sp0, sp1, sp2, sp3, cn1, cn2, cn3, cn4, cn5, cn6, jJa, lk0, lk1, jmS, jmN, s4_0, s4_1, s4_2, s4_3, s4_4, sw0, sw1, cKs, cKn, true_and, and_true, List.map_cons, List.map_nil, Nat.reduceAdd, Nat.zero_add, Int.reduceAdd, Nat.reduceEqDiff, reduceIte, Classical.not_not, b_Md_canHold, shMd]
                    by_cases q2 : must ≤ hands h m.sd m.cold sk set side
                    · have eo := (hoI sk set q).mp q2
                      have e126' : K2 126 (32 * (sk : Int) + set) = (nxf sk set : Int) := by rw [w2.at 126 _ (by (first | decide | (simp only [List.mem_cons, List.not_mem_nil, or_false, not_or, not_false_eq_true, and_true]; omega) | (simp [List.mem_cons]; done))), e126, if_pos q]
                      simp only [wR, wB, wE0, wE1, wE2, wE3, g0, gS, s10, s11, s1S, s20, s21, s2S, kl0, kl1, kl2, kl3, sp0, sp1, sp2, sp3, cn1, cn2, cn3, cn4, cn5, cn6, jJa, lk0, lk1, jmS, jmN, s4_0, s4_1, s4_2, s4_3, s4_4, sw0, sw1, cKs, cKn, true_and, and_true, List.map_cons, List.map_nil, Nat.reduceAdd, Nat.zero_add, Int.reduceAdd, Nat.reduceEqDiff, reduceIte, Classical.not_not, e126']
                      have := a111 (up K2 132 (nxf sk set) 1) ((h1.trans (w2.mono (by simp))).up (by simp)) (h2.eq (fun x _ => by rw [up_ne1 (by omega), w2.at 131 _ (by (first | decide | (simp only [List.mem_cons, List.not_mem_nil, or_false, not_or, not_false_eq_true, and_true]; omega) | (simp [List.mem_cons]; done)))])) (fun x hx => by
                        by_cases ex : x = nxf sk set
                        · subst ex
                          exact Or.inl ⟨by rw [up_eq], Or.inr ⟨set, by omega, qr, eo, rfl⟩⟩
                        · rw [up_ne2 (by omega), w2.at 132 _ (by (first | decide | (simp only [List.mem_cons, List.not_mem_nil, or_false, not_or, not_false_eq_true, and_true]; omega) | (simp [List.mem_cons]; done)))]
                          rcases h3 x hx with ⟨a, b⟩ | ⟨a, b⟩
                          · refine Or.inl ⟨a, ?_⟩
                            rcases b with b | ⟨y, hy, rest⟩
                            · exact Or.inl b
                            · exact Or.inr ⟨y, by omega, rest⟩
                          · refine Or.inr ⟨a, fun c => b ?_⟩
                            rcases c with c | ⟨y, hy, rest⟩
                            · exact Or.inl c
                            · by_cases ey : y = set
                              · subst ey; exact absurd rest.2.2.symm ex
                              · exact Or.inr ⟨y, by omega, rest⟩)
                      (repeat' (first | omega | (with_reducible exact True.intro) | exact ⟨by omega, by omega⟩ | (with_reducible exact Or.inr trivial) | (with_reducible exact Or.inl trivial) | (with_reducible assumption) | (with_reducible exact Same.refl) | (with_reducible rfl) | (with_reducible refine And.intro ?_ ?_) | (with_reducible intro _)))
                    · have := no (by
                        cases e : okf sk set with
                        | false => rfl
                        | true => exact absurd ((hoI sk set q).mpr e) q2) K2 w2
                      (repeat' (first | omega | (with_reducible exact True.intro) | exact ⟨by omega, by omega⟩ | (with_reducible exact Or.inr trivial) | (with_reducible exact Or.inl trivial) | (with_reducible assumption) | (with_reducible exact Same.refl) | (with_reducible rfl) | (with_reducible refine And.intro ?_ ?_) | (with_reducible intro _)))
                  · rw [if_neg q]
                    have := no (by
                      cases e : okf sk set with
                      | false => rfl
                      | true => exact absurd (hoP _ _ e) q) K Same.refl
                    (repeat' (first | omega | (with_reducible exact True.intro) | exact ⟨by omega, by omega⟩ | (with_reducible exact Or.inr trivial) | (with_reducible exact Or.inl trivial) | (with_reducible assumption) | (with_reducible exact Same.refl) | (with_reducible rfl) | (with_reducible refine And.intro ?_ ?_) | (with_reducible intro _)))
                · have e131 : K 131 sk = 0 := by
                    rcases hb with ⟨_, a⟩ | ⟨a, _⟩
                    · exact absurd a qr
                    · exact a
                  have := a117 K (some (vi set)) h1 h2 (h3.iff (fun x => by
                    constructor
                    · rintro (a | ⟨y, hy, b, rest⟩)
                      · exact Or.inl a
                      · exact absurd b qr
                    · rintro (a | ⟨y, hy, b, rest⟩)
                      · exact Or.inl a
                      · exact absurd b qr))
                  refine AW.run ck_Md_canHold [117, 111] 10 43 ?_
                  simp only [wR, wB, wE0, wE1, wE2, wE3, g0, gS, s10, s11, s1S, s20, s21, s2S, kl0, kl1, kl2, kl3, sp0, sp1, sp2, sp3, cn1, cn2, cn3, cn4, cn5, cn6, jJa, lk0, lk1, jmS, jmN, s4_0, s4_1, s4_2, s4_3, s4_4, sw0, sw1, cKs, cKn, true_and, and_true, List.map_cons, List.map_nil, Nat.reduceAdd, Nat.zero_add, Int.reduceAdd, Nat.reduceEqDiff, reduceIte, Classical.not_not, b_Md_canHold, shMd, e131, cmp3_le]
                  (repeat' (first | omega | (with_reducible exact True.intro) | exact ⟨by omega, by omega⟩ | (with_reducible exact Or.inr trivial) | (with_reducible exact Or.inl trivial) | (with_reducible assumption) | (with_reducible exact Same.refl) | (with_reducible rfl) | (with_reducible refine And.intro ?_ ?_) | (with_reducible intro _)))
            have := l43 32 0 K (by omega) hK hb (hb2.iff (fun x => ⟨Or.inl, fun e => e.elim id (fun ⟨y, hy, _⟩ => absurd hy (by omega))⟩))
            refine AW.run ck_Md_canHold [43, 123] 10 22 ?_
            simp only [wR, wB, wE0, wE1, wE2, wE3, g0, gS, s10, s11, s1S, s20, s21, s2S, kl0, kl1, kl2, kl3, sp0, sp1, sp2, sp3, cn1, cn2, cn3, cn4, cn5, cn6, jJa, lk0, lk1, jmS, jmN, s4_0, s4_1, s4_2, s4_3, s4_4, sw0, sw1, cKs, cKn, true_and, and_true, List.map_cons, List.map_nil, Nat.reduceAdd, Nat.zero_add, Int.reduceAdd, Nat.reduceEqDiff, reduceIte, Classical.not_not, b_Md_canHold, shMd, e27, eK]
            (repeat' (first | omega | (with_reducible exact True.intro) | exact ⟨by omega, by omega⟩ | (with_reducible exact Or.inr trivial) | (with_reducible exact Or.inl trivial) | (with_reducible assumption) | (with_reducible exact Same.refl) | (with_reducible rfl) | (with_reducible refine And.intro ?_ ?_) | (with_reducible intro _)))
        have := l22 l.length 0 K l7 l8 (by omega) hK0 hb0 (fun x hx => Or.inr ⟨hz0 x hx, fun ⟨j, hj, _⟩ => absurd hj (by omega)⟩)
        refine AW.run ck_Md_canHold [22, 133] 10 12 ?_
        simp only [wR, wB, wE0, wE1, wE2, wE3, g0, gS, s10, s11, s1S, s20, s21, s2S, kl0, kl1, kl2, kl3, sp0, sp1, sp2, sp3, cn1, cn2, cn3, cn4, cn5, cn6, jJa, lk0, lk1, jmS, jmN, s4_0, s4_1, s4_2, s4_3, s4_4, sw0, sw1, cKs, cKn, true_and, and_true, List.map_cons, List.map_nil, Nat.reduceAdd, Nat.zero_add, Int.reduceAdd, Nat.reduceEqDiff, reduceIte, Classical.not_not, b_Md_canHold, shMd]
        (repeat' (first | omega | (with_reducible exact True.intro) | exact ⟨by omega, by omega⟩ | (with_reducible exact Or.inr trivial) | (with_reducible exact Or.inl trivial) | (with_reducible assumption) | (with_reducible exact Same.refl) | (with_reducible rfl) | (with_reducible refine And.intro ?_ ?_) | (with_reducible intro _)))
  refine l12 n 0 M2 _ _ _ (by omega) (b2.mono (by simp)) (fun x hx => ?_) (fun x hx => (b1 x hx).2)
  rw [hR0, (b1 x hx).1]
  by_cases q : x = cod m.st h.P
  · exact Or.inl ⟨if_pos q, q⟩
  · exact Or.inr ⟨if_neg q, q⟩
end CH2
