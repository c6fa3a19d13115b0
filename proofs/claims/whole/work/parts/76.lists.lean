/-! lists: both -/
def lsN (R : Nat → Int) : Nat → Nat
  | 0 => 0
  | n + 1 => if lsN R n = n ∧ R n ≠ -1 then n + 1 else lsN R n
theorem lsN_eq {R : Nat → Int} : ∀ {n L : Nat}, L ≤ n → (∀ k, k < L → R k ≠ -1) → (L < n → R L = -1) → lsN R n = L
  | 0, L, h, _, _ => by simp only [lsN]; omega
  | n + 1, L, h1, h2, h3 => by
    simp only [lsN]
    by_cases q : L = n + 1
    · have := lsN_eq (R := R) (n := n) (L := n) (Nat.le_refl _) (fun k hk => h2 k (by omega)) (fun h => absurd h (by omega))
      rw [if_pos ⟨this, h2 n (by omega)⟩, q]
    · have := lsN_eq (R := R) (n := n) (L := L) (by omega) h2 (fun h => h3 (by omega))
      rw [this]
      by_cases q2 : L = n
      · rw [if_neg (fun h => h.2 (by rw [← q2]; exact h3 (by omega)))]
      · rw [if_neg (fun h => q2 h.1)]
noncomputable def lstR (σ : Sg) (side : Nat) (k : Nat) : Int := rosI (okH σ.h σ.m.sd σ.m.cold side (sideS σ.m.sd σ.h.P side) σ.h.must) (nxt σ.h σ.m.sd σ.m.cold) k (cod σ.m.st σ.h.P)
noncomputable def aLists (σ : Sg) (t side : Int) : Int := if side = 0 ∨ side = 1 then (if aTr σ t = 0 then (lsN (lstR σ side.toNat) (σ.tr t.toNat).2.1 : Int) else aTr σ t) else -2
noncomputable def sLists (σ : Sg) (t side : Int) : Sg := if (side = 0 ∨ side = 1) ∧ aTr σ t = 0 then σ.setTr t.toNat ((σ.tr t.toNat).1, (σ.tr t.toNat).2.1, fun k => if k < lsN (lstR σ side.toNat) (σ.tr t.toNat).2.1 then lstR σ side.toNat k else (σ.tr t.toNat).2.2 k) else σ
theorem cutv_s {s x : Int} (hx : 0 ≤ x ∧ x < 128) : cutv s x = x := by
  unfold cutv
  rw [w3_id ⟨by omega, by omega⟩]
  have e : w8 x = x := by rw [w8_c ⟨by omega, by omega⟩, if_pos (by omega)]
  have e16 : w16 x = x := by
    obtain ⟨n, rfl⟩ := Int.eq_ofNat_of_zero_le hx.1
    have key : ∀ n : Fin 128, w16 (n.val : Int) = n.val := by decide +kernel
    exact key ⟨n, by omega⟩
  rw [e, e16]
  (repeat' split) <;> rfl
section LI
variable {G : AG} {d : Nat} {M : AM}
theorem c_Wa_listInto {h : Hl} {sd : Nat → Nat} {cold side pe must s0 n : Nat} {z : Int} (hd : 8 ≤ d) (hok : HlOK h) (hS : StOK M h sd cold (sideS sd h.P side)) (hpe : sub pe (sideS sd h.P side)) (h32 : pe < 32) (hW : WaD M (okH h sd cold side pe must) (nxW h sd cold (sideS sd h.P side)) (5 ^ h.P) s0) (hz : isO z 11) (hz8 : 87 ≤ z) (hn : M z 0 = n) (hn4 : n ≤ 40) (hso : 0 ≤ M z 1) :
    MS G d mi_Wa_listInto [vr 43, vr 33, vr z] M (fun r M' => r = some (vi (lsN (fun k => rosI (okH h sd cold side pe must) (nxW h sd cold (sideS sd h.P side)) k s0) n)) ∧ StOK M' h sd cold (sideS sd h.P side) ∧ Same [33, z + 1] M M' ∧ ∀ y : Nat, y < 40 → M' (z + 1) y = if y < lsN (fun k => rosI (okH h sd cold side pe must) (nxW h sd cold (sideS sd h.P side)) k s0) n then rosI (okH h sd cold side pe must) (nxW h sd cold (sideS sd h.P side)) y s0 else M (z + 1) y) := by
  have hP := hok.1
  have h5 := p5 hP
  obtain ⟨h6, S, hS0, hSS⟩ := hW
  have h03 := (hSS s0 hS0).1
  refine MS.by ck_Wa_listInto [some (vr 43), some (vr 33), some (vr z), none, none, none] fun _ _ => ?_
  generalize hR : (fun k => rosI (okH h sd cold side pe must) (nxW h sd cold (sideS sd h.P side)) k s0) = R
  have hR' : ∀ k, rosI (okH h sd cold side pe must) (nxW h sd cold (sideS sd h.P side)) k s0 = R k := fun k => by rw [← hR]
  simp only [hR']
  generalize hQ : (fun (r : Option AV) (M' : AM) => r = some (vi (lsN R n)) ∧ StOK M' h sd cold (sideS sd h.P side) ∧ Same [33, z + 1] M M' ∧ ∀ y : Nat, y < 40 → M' (z + 1) y = if y < lsN R n then R y else M (z + 1) y) = Q
  have loop : ∀ (r i s : Nat) (N : AM) (l5 : Option AV), i + r = n → S s → (∀ k, rosI (okH h sd cold side pe must) (nxW h sd cold (sideS sd h.P side)) k s = R (i + k)) → (∀ k, k < i → R k ≠ -1) → StOK N h sd cold (sideS sd h.P side) → Same [33, z + 1] M N → (∀ y : Nat, y < 40 → N (z + 1) y = if y < i then R y else M (z + 1) y) → AW G d mi_Wa_listInto Q 8 [some (vr 43), some (vr 33), some (vr z), some (vi s), some (vi i), l5] [] N := by
    intro r
    induction r with
    | zero =>
      intro i s N l5 hi hs hro hne hSN hN hy
      have eL : lsN R n = i := lsN_eq (by omega) hne (fun h => absurd h (by omega))
      have en : N z 0 = n := by rw [hN.at z _ (by simp; omega)]; exact hn
      refine AW.run ck_Wa_listInto [33] 10 8 ?_
      simp only [wR, wB, wE0, wE1, wE2, wE3, g0, gS, s10, s11, s1S, s20, s21, s2S, kl0, kl1, kl2, kl3, sp0, sp1, sp2, sp3, cn1, cn2, cn3, cn4, cn5, cn6, jJa, lk0, lk1, jmS, jmN, s4_0, s4_1, s4_2, s4_3, s4_4, sw0, sw1, cKs, cKn, true_and, and_true, List.map_cons, List.map_nil, Nat.reduceAdd, Nat.zero_add, Int.reduceAdd, Nat.reduceEqDiff, reduceIte, Classical.not_not, b_Wa_listInto, shWa, hz, en]
      subst hQ
      rw [eL]
      have hin : (i : Int) = n := by omega
      rw [hin]
      (repeat' (first | omega | (with_reducible exact True.intro) | exact ⟨by omega, by omega⟩ | (with_reducible exact Or.inr trivial) | (with_reducible exact Or.inl trivial) | (with_reducible assumption) | (with_reducible exact Same.refl) | (with_reducible rfl) | (with_reducible refine And.intro ?_ ?_) | (with_reducible intro _)))
    | succ r ih =>
      intro i s N l5 hi hs hro hne hSN hN hy
      obtain ⟨s1, s2, s3⟩ := hSS s hs
      have en : N z 0 = n := by rw [hN.at z _ (by simp; omega)]; exact hn
      have ez1 : N z 1 = M z 1 := hN.at z _ (by simp; omega)
      have e46 : N 46 s = pkI (okH h sd cold side pe must) (nxW h sd cold (sideS sd h.P side)) s := by
        rw [hN.at 46 _ (by simp; omega)]; exact s2
      have eR : pkI (okH h sd cold side pe must) (nxW h sd cold (sideS sd h.P side)) s = R i := hro 0
      refine AW.run ck_Wa_listInto [33] 10 8 ?_
      simp only [wR, wB, wE0, wE1, wE2, wE3, g0, gS, s10, s11, s1S, s20, s21, s2S, kl0, kl1, kl2, kl3, sp0, sp1, sp2, sp3, cn1, cn2, cn3, cn4, cn5, cn6, jJa, lk0, lk1, jmS, jmN, s4_0, s4_1, s4_2, s4_3, s4_4, sw0, sw1, cKs, cKn, true_and, and_true, List.map_cons, List.map_nil, Nat.reduceAdd, Nat.zero_add, Int.reduceAdd, Nat.reduceEqDiff, reduceIte, Classical.not_not, b_Wa_listInto, shWa, hz, en]
      (repeat' (first | omega | (with_reducible exact True.intro) | exact ⟨by omega, by omega⟩ | (with_reducible exact Or.inr trivial) | (with_reducible exact Or.inl trivial) | (with_reducible assumption) | (with_reducible exact Same.refl) | (with_reducible rfl) | (with_reducible refine And.intro ?_ ?_) | (with_reducible intro _)))
      refine MS.to (c_Wa_pickAt (d := d - 1) (by omega) (by omega)) fun _ => ?_
      rw [e46]
      simp only [wR, wB, wE0, wE1, wE2, wE3, g0, gS, s10, s11, s1S, s20, s21, s2S, kl0, kl1, kl2, kl3, sp0, sp1, sp2, sp3, cn1, cn2, cn3, cn4, cn5, cn6, jJa, lk0, lk1, jmS, jmN, s4_0, s4_1, s4_2, s4_3, s4_4, sw0, sw1, cKs, cKn, true_and, and_true, List.map_cons, List.map_nil, Nat.reduceAdd, Nat.zero_add, Int.reduceAdd, Nat.reduceEqDiff, reduceIte, Classical.not_not, b_Wa_listInto]
      rcases pkI_n (ok := okH h sd cold side pe must) (nx := nxW h sd cold (sideS sd h.P side)) s with e | ⟨x, e⟩
      · rw [e]
        have eL : lsN R n = i := lsN_eq (by omega) hne (fun _ => by rw [← eR]; exact e)
        simp only [wR, wB, wE0, wE1, wE2, wE3, g0, gS, s10, s11, s1S, s20, s21, s2S, kl0, kl1, kl2, kl3, sp0, sp1, sp2, sp3, cn1, cn2, cn3, cn4, cn5, cn6, jJa, lk0, lk1, jmS, jmN, s4_0, s4_1, s4_2, s4_3, s4_4, sw0, sw1, cKs, cKn, true_and, and_true, List.map_cons, List.map_nil, Nat.reduceAdd, Nat.zero_add, Int.reduceAdd, Nat.reduceEqDiff, reduceIte, Classical.not_not, up_rd, Int.reduceEq, and_false, false_and, and_self, reduceIte, not_true_eq_false, not_false_eq_true, false_imp_iff, true_imp_iff, true_or, or_true]
        subst hQ
        rw [eL]
        (repeat' (first | omega | (with_reducible exact True.intro) | exact ⟨by omega, by omega⟩ | (with_reducible exact Or.inr trivial) | (with_reducible exact Or.inl trivial) | (with_reducible assumption) | (with_reducible exact Same.refl) | (with_reducible rfl) | (with_reducible refine And.intro ?_ ?_) | (with_reducible intro _)))
      · rw [e]
        obtain ⟨x1, x2⟩ := pkI_ok e
        have xP := (okH_P x2).1
        have eRx : R i = x := by rw [← eR]; exact e
        (repeat' (first | omega | (with_reducible exact True.intro) | exact ⟨by omega, by omega⟩ | (with_reducible exact Or.inr trivial) | (with_reducible exact Or.inl trivial) | (with_reducible assumption) | (with_reducible exact Same.refl) | (with_reducible rfl) | (with_reducible refine And.intro ?_ ?_) | (with_reducible intro _)))
        refine AW.run ck_Wa_listInto [8] 10 33 ?_
        simp only [wR, wB, wE0, wE1, wE2, wE3, g0, gS, s10, s11, s1S, s20, s21, s2S, kl0, kl1, kl2, kl3, sp0, sp1, sp2, sp3, cn1, cn2, cn3, cn4, cn5, cn6, jJa, lk0, lk1, jmS, jmN, s4_0, s4_1, s4_2, s4_3, s4_4, sw0, sw1, cKs, cKn, true_and, and_true, List.map_cons, List.map_nil, Nat.reduceAdd, Nat.zero_add, Int.reduceAdd, Nat.reduceEqDiff, reduceIte, Classical.not_not, b_Wa_listInto, shWa, hz]
        refine ⟨by omega, MS.to (c_Tr_put (d := d - 1) (by omega) hz (by rw [ez1]; exact hso) (by rw [en]; omega)) fun _ => ?_⟩
        rw [en, if_pos ⟨by omega, by omega⟩, cutv_s (by omega)]
        simp only [wR, wB, wE0, wE1, wE2, wE3, g0, gS, s10, s11, s1S, s20, s21, s2S, kl0, kl1, kl2, kl3, sp0, sp1, sp2, sp3, cn1, cn2, cn3, cn4, cn5, cn6, jJa, lk0, lk1, jmS, jmN, s4_0, s4_1, s4_2, s4_3, s4_4, sw0, sw1, cKs, cKn, true_and, and_true, List.map_cons, List.map_nil, Nat.reduceAdd, Nat.zero_add, Int.reduceAdd, Nat.reduceEqDiff, reduceIte, Classical.not_not, b_Wa_listInto, shWa, shSt]
        have hSu : StOK (up N (z + 1) i x) h sd cold (sideS sd h.P side) := hSN.same (ps := [z + 1]) (Same.refl.up (by simp)) (fun x h1 h2 => by simp; omega)
        have hNu : Same [33, z + 1] M (up N (z + 1) i x) := hN.up (by simp)
        have hyu : ∀ y : Nat, y < 40 → up N (z + 1) i x (z + 1) y = if y < i + 1 then R y else M (z + 1) y := by
          intro y hy4
          by_cases ey : y = i
          · subst ey; rw [up_eq, if_pos (by omega), eRx]
          · rw [up_ne2 (by omega), hy y hy4]
            by_cases q : y < i
            · rw [if_pos q, if_pos (by omega)]
            · rw [if_neg q, if_neg (by omega)]
        generalize up N (z + 1) i x = K at hSu hNu hyu ⊢
        refine ⟨by omega, (c_St_standAt hok hSu s1).mono ?_⟩
        rintro r' K2 okK2 ⟨rfl, hS2, hN2⟩
        simp only [wR, wB, wE0, wE1, wE2, wE3, g0, gS, s10, s11, s1S, s20, s21, s2S, kl0, kl1, kl2, kl3, sp0, sp1, sp2, sp3, cn1, cn2, cn3, cn4, cn5, cn6, jJa, lk0, lk1, jmS, jmN, s4_0, s4_1, s4_2, s4_3, s4_4, sw0, sw1, cKs, cKn, true_and, and_true, List.map_cons, List.map_nil, Nat.reduceAdd, Nat.zero_add, Int.reduceAdd, Nat.reduceEqDiff, reduceIte, Classical.not_not, b_Wa_listInto, shWa, shSt]
        refine ⟨by omega, MS.to (c_St_to hok hS2 (okP_lt2 x1 h32 xP) (okP_sub hP hpe h32 x1 xP)) fun _ => ?_⟩
        have := ih (i + 1) _ K2 (some (vi x)) (by omega) (s3 x e) (fun k => by rw [← rosI_s e, hro (k + 1)]; congr 1; omega) (fun k hk => by
          by_cases ek : k = i
          · subst ek; rw [eRx]; omega
          · exact hne k (by omega)) hS2.1 (hNu.trans (hN2.mono (by simp))) (fun y hy4 => by rw [hN2.at (z + 1) _ (by simp; omega)]; exact hyu y hy4)
        simp only [wR, wB, wE0, wE1, wE2, wE3, g0, gS, s10, s11, s1S, s20, s21, s2S, kl0, kl1, kl2, kl3, sp0, sp1, sp2, sp3, cn1, cn2, cn3, cn4, cn5, cn6, jJa, lk0, lk1, jmS, jmN, s4_0, s4_1, s4_2, s4_3, s4_4, sw0, sw1, cKs, cKn, true_and, and_true, List.map_cons, List.map_nil, Nat.reduceAdd, Nat.zero_add, Int.reduceAdd, Nat.reduceEqDiff, reduceIte, Classical.not_not, b_Wa_listInto, ce]
        (repeat' (first | omega | (with_reducible exact True.intro) | exact ⟨by omega, by omega⟩ | (with_reducible exact Or.inr trivial) | (with_reducible exact Or.inl trivial) | (with_reducible assumption) | (with_reducible exact Same.refl) | (with_reducible rfl) | (with_reducible refine And.intro ?_ ?_) | (with_reducible intro _)))
  have := loop n 0 s0 M none (by omega) hS0 (fun k => by rw [hR', Nat.zero_add]) (fun k hk => absurd hk (by omega)) hS Same.refl (fun y hy => by rw [if_neg (by omega)])
  refine AW.run ck_Wa_listInto [8] 10 0 ?_
  simp only [wR, wB, wE0, wE1, wE2, wE3, g0, gS, s10, s11, s1S, s20, s21, s2S, kl0, kl1, kl2, kl3, sp0, sp1, sp2, sp3, cn1, cn2, cn3, cn4, cn5, cn6, jJa, lk0, lk1, jmS, jmN, s4_0, s4_1, s4_2, s4_3, s4_4, sw0, sw1, cKs, cKn, true_and, and_true, List.map_cons, List.map_nil, Nat.reduceAdd, Nat.zero_add, Int.reduceAdd, Nat.reduceEqDiff, reduceIte, Classical.not_not, b_Wa_listInto, shWa, h6]
  exact this
theorem c_H_lists {t side : Int} {B : Nat} {σ : Sg} (hd : 20 ≤ d) (ok : SgOK B σ) (hR : CR M σ) : MS G d mi_H_lists [vr 0, vi t, vi side] M (fun r M' => r = some (vi (aLists σ t side)) ∧ CR M' (sLists σ t side) ∧ Hi M M') := by
  obtain ⟨z, hs, hM, hp, hT⟩ := hR.z
  have hok := ok.2.2.1
  have hP := hok.1
  have mok := ok.2.2.2.1.1
  refine MS.by ck_H_lists [some (vr 0), some (vi t), some (vi side), none] fun _ _ => ?_
  generalize hQ : (fun (r : Option AV) (M' : AM) => r = some (vi (aLists σ t side)) ∧ CR M' (sLists σ t side) ∧ Hi M M') = Q
  unfold aLists sLists at hQ
  refine AW.run ck_H_lists [10] 10 0 ?_
  simp only [wR, wB, wE0, wE1, wE2, wE3, g0, gS, s10, s11, s1S, s20, s21, s2S, kl0, kl1, kl2, kl3, sp0, sp1, sp2, sp3, cn1, cn2, cn3, cn4, cn5, cn6, jJa, lk0, lk1, jmS, jmN, s4_0, s4_1, s4_2, s4_3, s4_4, sw0, sw1, cKs, cKn, true_and, and_true, List.map_cons, List.map_nil, Nat.reduceAdd, Nat.zero_add, Int.reduceAdd, Nat.reduceEqDiff, reduceIte, Classical.not_not, b_H_lists, shH]
  refine ⟨by omega, MS.to c_H_isSide fun _ => ?_⟩
  simp only [wR, wB, wE0, wE1, wE2, wE3, g0, gS, s10, s11, s1S, s20, s21, s2S, kl0, kl1, kl2, kl3, sp0, sp1, sp2, sp3, cn1, cn2, cn3, cn4, cn5, cn6, jJa, lk0, lk1, jmS, jmN, s4_0, s4_1, s4_2, s4_3, s4_4, sw0, sw1, cKs, cKn, true_and, and_true, List.map_cons, List.map_nil, Nat.reduceAdd, Nat.zero_add, Int.reduceAdd, Nat.reduceEqDiff, reduceIte, Classical.not_not, b_H_lists, shH]
  by_cases q : side = 0 ∨ side = 1
  · rw [if_pos q] at hQ ⊢
    obtain ⟨k, rfl, hk⟩ := side_n q
    rw [Int.toNat_natCast] at hQ
    (repeat' (first | omega | (with_reducible exact True.intro) | exact ⟨by omega, by omega⟩ | (with_reducible exact Or.inr trivial) | (with_reducible exact Or.inl trivial) | (with_reducible assumption) | (with_reducible exact Same.refl) | (with_reducible rfl) | (with_reducible refine And.intro ?_ ?_) | (with_reducible intro _)))
    refine AW.run ck_H_lists [22] 10 10 ?_
    simp only [wR, wB, wE0, wE1, wE2, wE3, g0, gS, s10, s11, s1S, s20, s21, s2S, kl0, kl1, kl2, kl3, sp0, sp1, sp2, sp3, cn1, cn2, cn3, cn4, cn5, cn6, jJa, lk0, lk1, jmS, jmN, s4_0, s4_1, s4_2, s4_3, s4_4, sw0, sw1, cKs, cKn, true_and, and_true, List.map_cons, List.map_nil, Nat.reduceAdd, Nat.zero_add, Int.reduceAdd, Nat.reduceEqDiff, reduceIte, Classical.not_not, b_H_lists, shH]
    refine ⟨by omega, MS.to (c_H_refusedTray (d := d - 1) (by omega) hT) fun _ => ?_⟩
    simp only [wR, wB, wE0, wE1, wE2, wE3, g0, gS, s10, s11, s1S, s20, s21, s2S, kl0, kl1, kl2, kl3, sp0, sp1, sp2, sp3, cn1, cn2, cn3, cn4, cn5, cn6, jJa, lk0, lk1, jmS, jmN, s4_0, s4_1, s4_2, s4_3, s4_4, sw0, sw1, cKs, cKn, true_and, and_true, List.map_cons, List.map_nil, Nat.reduceAdd, Nat.zero_add, Int.reduceAdd, Nat.reduceEqDiff, reduceIte, Classical.not_not, b_H_lists, shH]
    by_cases q2 : aTr σ t = 0
    · rw [if_pos q2, if_pos ⟨q, q2⟩] at hQ
      obtain ⟨j, rfl, hj, hne⟩ := aTr_0 q2
      rw [Int.toNat_natCast] at hQ
      (repeat' (first | omega | (with_reducible exact True.intro) | exact ⟨by omega, by omega⟩ | (with_reducible exact Or.inr trivial) | (with_reducible exact Or.inl trivial) | (with_reducible assumption) | (with_reducible exact Same.refl) | (with_reducible rfl) | (with_reducible refine And.intro ?_ ?_) | (with_reducible intro _)))
      refine AW.run ck_H_lists [] 10 22 ?_
      simp only [wR, wB, wE0, wE1, wE2, wE3, g0, gS, s10, s11, s1S, s20, s21, s2S, kl0, kl1, kl2, kl3, sp0, sp1, sp2, sp3, cn1, cn2, cn3, cn4, cn5, cn6, jJa, lk0, lk1, jmS, jmN, s4_0, s4_1, s4_2, s4_3, s4_4, sw0, sw1, cKs, cKn, true_and, and_true, List.map_cons, List.map_nil, Nat.reduceAdd, Nat.zero_add, Int.reduceAdd, Nat.reduceEqDiff, reduceIte, Classical.not_not, b_H_lists, shH]
      refine ⟨by omega, (c_H_aimAtSide (d := d - 1) (by omega) ok hR hk).mono ?_⟩
      rintro r M1 okM1 ⟨rfl, u1, u2⟩
      have hs1 := CR.cz hs u2
      have hM1 := hM.eq (u2 _ (by omega)) (u2 _ (by omega))
      simp only [wR, wB, wE0, wE1, wE2, wE3, g0, gS, s10, s11, s1S, s20, s21, s2S, kl0, kl1, kl2, kl3, sp0, sp1, sp2, sp3, cn1, cn2, cn3, cn4, cn5, cn6, jJa, lk0, lk1, jmS, jmN, s4_0, s4_1, s4_2, s4_3, s4_4, sw0, sw1, cKs, cKn, true_and, and_true, List.map_cons, List.map_nil, Nat.reduceAdd, Nat.zero_add, Int.reduceAdd, Nat.reduceEqDiff, reduceIte, Classical.not_not, b_H_lists, shH, hs1.1, hs1.z, hs1.2.2.2.2.1]
      refine ⟨by omega, (c_H_longest (d := d - 1) (by omega) ok hM1 u1 sub_refl (sideS_lt hP)).mono ?_⟩
      rintro r M2 okM2 ⟨rfl, v0, v1, v2⟩
      have hsc := u2.trans (Scr.watch v2)
      obtain ⟨t1, t2, t3, t4⟩ := (hT j hj).eq (N := M2) (hsc _ (by omega)) (hsc _ (by omega)) (hsc _ (by omega))
      obtain ⟨t5, t6⟩ := t4 hne
      rw [if_neg hne] at t2
      have ho := tr_O j hj
      have ht40 := (ok.2.2.2.2.2.2.1 j hj).2.2
      simp only [wR, wB, wE0, wE1, wE2, wE3, g0, gS, s10, s11, s1S, s20, s21, s2S, kl0, kl1, kl2, kl3, sp0, sp1, sp2, sp3, cn1, cn2, cn3, cn4, cn5, cn6, jJa, lk0, lk1, jmS, jmN, s4_0, s4_1, s4_2, s4_3, s4_4, sw0, sw1, cKs, cKn, true_and, and_true, List.map_cons, List.map_nil, Nat.reduceAdd, Nat.zero_add, Int.reduceAdd, Nat.reduceEqDiff, reduceIte, Classical.not_not, b_H_lists, shH, shR0, l30, t1, ho]
      (repeat' (first | omega | (with_reducible exact True.intro) | exact ⟨by omega, by omega⟩ | (with_reducible exact Or.inr trivial) | (with_reducible exact Or.inl trivial) | (with_reducible assumption) | (with_reducible exact Same.refl) | (with_reducible rfl) | (with_reducible refine And.intro ?_ ?_) | (with_reducible intro _)))
      refine (c_Wa_listInto (d := d - 1) (by omega) hok v1 sub_refl (sideS_lt hP) v0 ho (by omega) t2 ht40 t3).mono ?_
      rintro r N okN ⟨rfl, w1, w2, w3⟩
      have eR : (fun k' => rosI (okH σ.h σ.m.sd σ.m.cold k (sideS σ.m.sd σ.h.P k) σ.h.must) (nxW σ.h σ.m.sd σ.m.cold (sideS σ.m.sd σ.h.P k)) k' (prj σ.h.P (sideS σ.m.sd σ.h.P k) (cod σ.m.st σ.h.P))) = lstR σ k := by
        funext k'
        rw [rosI_hom (okH_prj hP sub_refl (sideS_lt hP)) nxW_prj]
        rfl
      rw [eR] at w3 ⊢
      have eR' : ∀ y, rosI (okH σ.h σ.m.sd σ.m.cold k (sideS σ.m.sd σ.h.P k) σ.h.must) (nxW σ.h σ.m.sd σ.m.cold (sideS σ.m.sd σ.h.P k)) y (prj σ.h.P (sideS σ.m.sd σ.h.P k) (cod σ.m.st σ.h.P)) = lstR σ k y := fun y => congrFun eR y
      simp only [eR'] at w3
      simp only [wR, wB, wE0, wE1, wE2, wE3, g0, gS, s10, s11, s1S, s20, s21, s2S, kl0, kl1, kl2, kl3, sp0, sp1, sp2, sp3, cn1, cn2, cn3, cn4, cn5, cn6, jJa, lk0, lk1, jmS, jmN, s4_0, s4_1, s4_2, s4_3, s4_4, sw0, sw1, cKs, cKn, true_and, and_true, List.map_cons, List.map_nil, Nat.reduceAdd, Nat.zero_add, Int.reduceAdd, Nat.reduceEqDiff, reduceIte, Classical.not_not, b_H_lists]
      subst hQ
      have ez : 87 + 2 * (j : Int) + 1 = 88 + 2 * (j : Int) := by omega
      rw [ez] at w2 w3
      have hK : Scr M (fun x => if x = 88 + 2 * (j : Int) then M2 x else N x) := fun x hx => by
        show (if x = 88 + 2 * (j : Int) then M2 x else N x) = M x
        by_cases e : x = 88 + 2 * (j : Int)
        · rw [if_pos e]; exact hsc x hx
        · rw [if_neg e, w2 x (by simp; omega)]; exact hsc x hx
      have hSK : StOK (fun x => if x = 88 + 2 * (j : Int) then M2 x else N x) σ.h σ.m.sd σ.m.cold (sideS σ.m.sd σ.h.P k) := w1.same (ps := [88 + 2 * (j : Int)]) (fun x hx => by
        show (if x = 88 + 2 * (j : Int) then M2 x else N x) = N x
        rw [if_neg (by simpa using hx)]) (fun x h1 h2 => by simp; omega)
      have hCK := hR.aim hK (fun p _ => (mok.1 p).1) hSK
      have hsm : Same [87 + 2 * (j : Int), 88 + 2 * (j : Int)] (fun x => if x = 88 + 2 * (j : Int) then M2 x else N x) N := fun x hx => by
        show N x = if x = 88 + 2 * (j : Int) then M2 x else N x
        rw [if_neg (by simp at hx; omega)]
      refine ⟨rfl, hCK.tr hj hsm ⟨?_, ?_, ?_, fun _ => ⟨?_, fun l hl => ?_⟩⟩, fun x hx => ?_⟩
      · rw [w2.at 30 _ (by simp; omega)]; exact t1
      · show _ = if (σ.tr j).1 = -1 then -1 else ((σ.tr j).2.1 : Int)
        rw [if_neg hne, w2.at _ _ (by simp; omega)]; exact t2
      · rw [w2.at _ _ (by simp; omega)]; exact t3
      · rw [w2.at _ _ (by simp; omega)]; exact t5
      · show _ = if l < lsN (lstR σ k) (σ.tr j).2.1 then lstR σ k l else (σ.tr j).2.2 l
        have hl' : l < (σ.tr j).2.1 := hl
        rw [w3 l (by omega)]
        by_cases e : l < lsN (lstR σ k) (σ.tr j).2.1
        · rw [if_pos e, if_pos e]
        · rw [if_neg e, if_neg e]; exact t6 l hl'
      · rw [w2 x (by simp; omega)]; exact hsc x (by omega)
    · rw [if_neg q2, if_neg (fun h => q2 h.2)] at hQ
      subst hQ
      have := Hi.refl (M := M)
      (repeat' (first | omega | (with_reducible exact True.intro) | exact ⟨by omega, by omega⟩ | (with_reducible exact Or.inr trivial) | (with_reducible exact Or.inl trivial) | (with_reducible assumption) | (with_reducible exact Same.refl) | (with_reducible rfl) | (with_reducible refine And.intro ?_ ?_) | (with_reducible intro _)))
  · rw [if_neg q, if_neg (fun h => q h.1)] at hQ
    rw [if_neg q]
    subst hQ
    have := Hi.refl (M := M)
    (repeat' (first | omega | (with_reducible exact True.intro) | exact ⟨by omega, by omega⟩ | (with_reducible exact Or.inr trivial) | (with_reducible exact Or.inl trivial) | (with_reducible assumption) | (with_reducible exact Same.refl) | (with_reducible rfl) | (with_reducible refine And.intro ?_ ?_) | (with_reducible intro _)))
end LI
