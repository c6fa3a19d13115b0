/-! images, counts: both sides -/
def Sg.setIm (σ : Sg) (i : Nat) (x : Hl × Mo) : Sg := mkS σ.tn σ.tp σ.fk σ.fp σ.h σ.m σ.np σ.pm σ.tr (fun k => if k = i then some x else σ.im k)
def Sg.back (σ : Sg) (x : Hl × Mo) : Sg := mkS σ.tn σ.tp σ.fk σ.fp x.1 x.2 0 σ.pm σ.tr σ.im
def aImage (i : Int) : Int := if 0 ≤ i ∧ i < 2 then 0 else -2
def sImage (σ : Sg) (i : Int) : Sg := if 0 ≤ i ∧ i < 2 then σ.setIm i.toNat (σ.h, σ.m) else σ
def aRestore (σ : Sg) (i : Int) : Int := if 0 ≤ i ∧ i < 2 then (if (σ.im i.toNat).isSome = true then 0 else -5) else -2
def sRestore (σ : Sg) (i : Int) : Sg := if 0 ≤ i ∧ i < 2 then (match σ.im i.toNat with
  | some x => σ.back x
  | none => σ) else σ
theorem rest_some {σ : Sg} {n : Nat} {x : Hl × Mo} (hn : n < 2) (hx : σ.im n = some x) : aRestore σ n = 0 ∧ sRestore σ n = σ.back x := by
  have hc : 0 ≤ (n : Int) ∧ (n : Int) < 2 := by omega
  unfold aRestore sRestore
  simp only [if_pos hc, Int.toNat_natCast, hx]
  exact ⟨rfl, trivial⟩
theorem rest_none {σ : Sg} {n : Nat} (hn : n < 2) (hx : σ.im n = none) : aRestore σ n = -5 ∧ sRestore σ n = σ := by
  have hc : 0 ≤ (n : Int) ∧ (n : Int) < 2 := by omega
  unfold aRestore sRestore
  simp only [if_pos hc, Int.toNat_natCast, hx]
  exact ⟨rfl, trivial⟩
theorem rest_out {σ : Sg} {i : Int} (hn : ¬ (0 ≤ i ∧ i < 2)) : aRestore σ i = -2 ∧ sRestore σ i = σ := by
  unfold aRestore sRestore
  rw [if_neg hn, if_neg hn]
  exact ⟨rfl, rfl⟩
theorem im_or {f g : Nat → Bool} {i : Nat} (hi : i < 2) (h : ∀ k, g k = if k = i then true else f k) : bOr ((bitsP f 2 : Nat) : Int) (bShl 1 (i : Int)) = ((bitsP g 2 : Nat) : Int) := by
  simp only [bitsP, h]
  match i, hi with
  | 0, _ => cases h0 : f 0 <;> cases h1 : f 1 <;> simp [h0, h1] <;> decide +kernel
  | 1, _ => cases h0 : f 0 <;> cases h1 : f 1 <;> simp [h0, h1] <;> decide +kernel
theorem im_O (i : Nat) (h : i < 2) : isO (95 + 11 * (i : Int)) 2 ∧ isO (104 + 11 * (i : Int)) 4 := by
  match i, h with
  | 0, _ => exact ⟨isO_of (k := 95) rfl rfl, isO_of (k := 104) rfl rfl⟩
  | 1, _ => exact ⟨isO_of (k := 106) rfl rfl, isO_of (k := 115) rfl rfl⟩
section IM
variable {G : AG} {d : Nat} {M : AM}
theorem c_H_image {i : Int} {B : Nat} {σ : Sg} (hd : 8 ≤ d) (ok : SgOK B σ) (hR : CR M σ) : MS G d mi_H_image [vr 0, vi i] M (fun r M' => r = some (vi (aImage i)) ∧ CR M' (sImage σ i) ∧ Hi M M') := by
  obtain ⟨z, hs, hb, hc, hM, hf, hg, hI, hj⟩ := id hR
  have hz := hs.z
  have hzz := hs.2.2.1
  refine MS.by ck_H_image [some (vr 0), some (vi i)] fun _ _ => ?_
  unfold aImage sImage
  generalize hQ : (fun (r : Option AV) (M' : AM) => r = some (vi (if 0 ≤ i ∧ i < 2 then 0 else -2)) ∧ CR M' (if 0 ≤ i ∧ i < 2 then σ.setIm i.toNat (σ.h, σ.m) else σ) ∧ Hi M M') = Q
  have a9 : ¬ (0 ≤ i ∧ i < 2) → AW G d mi_H_image Q 9 [some (vr 0), some (vi i)] [] M := by
    intro q
    refine AW.run ck_H_image [] 10 9 ?_
    simp only [wR, wB, wE0, wE1, wE2, wE3, g0, gS, s10, s11, s1S, s20, s21, s2S, kl0, kl1, kl2, kl3, sp0, sp1, sp2, sp3, cn1, cn2, cn3, cn4, cn5, cn6, jJa, lk0, lk1, jmS, jmN, s4_0, s4_1, s4_2, s4_3, s4_4, sw0, sw1, cKs, cKn, true_and, and_true, List.map_cons, List.map_nil, Nat.reduceAdd, Nat.zero_add, Int.reduceAdd, Nat.reduceEqDiff, reduceIte, Classical.not_not, b_H_image]
    subst hQ
    rw [if_neg q, if_neg q]
    exact ⟨rfl, hR, Hi.refl⟩
  refine AW.run ck_H_image [9, 12] 10 0 ?_
  simp only [wR, wB, wE0, wE1, wE2, wE3, g0, gS, s10, s11, s1S, s20, s21, s2S, kl0, kl1, kl2, kl3, sp0, sp1, sp2, sp3, cn1, cn2, cn3, cn4, cn5, cn6, jJa, lk0, lk1, jmS, jmN, s4_0, s4_1, s4_2, s4_3, s4_4, sw0, sw1, cKs, cKn, true_and, and_true, List.map_cons, List.map_nil, Nat.reduceAdd, Nat.zero_add, Int.reduceAdd, Nat.reduceEqDiff, reduceIte, Classical.not_not, b_H_image, shH]
  (repeat' (first | omega | exact ⟨by omega, by omega⟩ | (with_reducible exact Or.inr trivial) | (with_reducible exact Or.inl trivial) | (with_reducible assumption) | (with_reducible exact Same.refl) | (with_reducible rfl) | (with_reducible refine And.intro ?_ ?_) | (with_reducible intro _)))
  · exact a9 (by omega)
  · obtain ⟨n, rfl⟩ := Int.eq_ofNat_of_zero_le (show 0 ≤ i by omega)
    have hn : n < 2 := by omega
    obtain ⟨o1, o2⟩ := im_O n hn
    obtain ⟨i1, i2, i3', i4, i5, i6⟩ := id hI
    have e31 : M 31 (n : Int) = 95 + 11 * (n : Int) := by
      match n, hn with
      | 0, _ => exact i1
      | 1, _ => exact i2
    have e32 : M 32 (n : Int) = 104 + 11 * (n : Int) := by
      match n, hn with
      | 0, _ => exact i3'
      | 1, _ => exact i4
    refine AW.run ck_H_image [] 10 12 ?_
    simp only [wR, wB, wE0, wE1, wE2, wE3, g0, gS, s10, s11, s1S, s20, s21, s2S, kl0, kl1, kl2, kl3, sp0, sp1, sp2, sp3, cn1, cn2, cn3, cn4, cn5, cn6, jJa, lk0, lk1, jmS, jmN, s4_0, s4_1, s4_2, s4_3, s4_4, sw0, sw1, cKs, cKn, true_and, and_true, List.map_cons, List.map_nil, Nat.reduceAdd, Nat.zero_add, Int.reduceAdd, Nat.reduceEqDiff, reduceIte, Classical.not_not, b_H_image, shH, shR0, l31, l32, e31, o1, hs.1, hz]
    (repeat' (first | omega | exact ⟨by omega, by omega⟩ | (with_reducible exact Or.inr trivial) | (with_reducible exact Or.inl trivial) | (with_reducible assumption) | (with_reducible exact Same.refl) | (with_reducible rfl) | (with_reducible refine And.intro ?_ ?_) | (with_reducible intro _)))
    refine (c_Ha_copy (d := d - 1) (by omega) o1 hz (by omega) ok.2.2.1 hs.2.2.2).mono ?_
    rintro r M1 okM1 ⟨rfl, c1, s1⟩
    have e32' : M1 32 (n : Int) = 104 + 11 * (n : Int) := by rw [s1.at 32 _ (by (first | decide | (simp only [List.mem_cons, List.not_mem_nil, or_false, not_or, not_false_eq_true, and_true]; omega) | (simp [List.mem_cons]; done)))]; exact e32
    simp only [wR, wB, wE0, wE1, wE2, wE3, g0, gS, s10, s11, s1S, s20, s21, s2S, kl0, kl1, kl2, kl3, sp0, sp1, sp2, sp3, cn1, cn2, cn3, cn4, cn5, cn6, jJa, lk0, lk1, jmS, jmN, s4_0, s4_1, s4_2, s4_3, s4_4, sw0, sw1, cKs, cKn, true_and, and_true, List.map_cons, List.map_nil, Nat.reduceAdd, Nat.zero_add, Int.reduceAdd, Nat.reduceEqDiff, reduceIte, Classical.not_not, b_H_image, shH, shR0, l32, e32', o2]
    (repeat' (first | omega | exact ⟨by omega, by omega⟩ | (with_reducible exact Or.inr trivial) | (with_reducible exact Or.inl trivial) | (with_reducible assumption) | (with_reducible exact Same.refl) | (with_reducible rfl) | (with_reducible refine And.intro ?_ ?_) | (with_reducible intro _)))
    refine MS.to (c_Mo_copy (d := d - 1) (by omega) o2 o25) fun _ => ?_
    have m1 : CM M1 25 σ.h.P σ.m := hM.same s1 (by (first | decide | (simp only [List.mem_cons, List.not_mem_nil, or_false, not_or, not_false_eq_true, and_true]; omega) | (simp [List.mem_cons]; done))) (by (first | decide | (simp only [List.mem_cons, List.not_mem_nil, or_false, not_or, not_false_eq_true, and_true]; omega) | (simp [List.mem_cons]; done)))
    have m2 := moC_CM (z := 104 + 11 * (n : Int)) m1
    have s2 : Same [104 + 11 * (n : Int), 104 + 11 * (n : Int) + 1] M1 (moC M1 (104 + 11 * (n : Int)) 25) := moC_same
    generalize moC M1 (104 + 11 * (n : Int)) 25 = M2 at m2 s2 ⊢
    have e12 : M2 0 12 = ((bitsP (fun i => (σ.im i).isSome) 2 : Nat) : Int) := by rw [s2.at 0 _ (by (first | decide | (simp only [List.mem_cons, List.not_mem_nil, or_false, not_or, not_false_eq_true, and_true]; omega) | (simp [List.mem_cons]; done))), s1.at 0 _ (by (first | decide | (simp only [List.mem_cons, List.not_mem_nil, or_false, not_or, not_false_eq_true, and_true]; omega) | (simp [List.mem_cons]; done)))]; exact i5
    have eor := im_or (f := fun i => (σ.im i).isSome) (g := fun i => ((if i = n then some (σ.h, σ.m) else σ.im i)).isSome) hn (fun k => by by_cases q : k = n <;> simp [q])
    simp only [wR, wB, wE0, wE1, wE2, wE3, g0, gS, s10, s11, s1S, s20, s21, s2S, kl0, kl1, kl2, kl3, sp0, sp1, sp2, sp3, cn1, cn2, cn3, cn4, cn5, cn6, jJa, lk0, lk1, jmS, jmN, s4_0, s4_1, s4_2, s4_3, s4_4, sw0, sw1, cKs, cKn, true_and, and_true, List.map_cons, List.map_nil, Nat.reduceAdd, Nat.zero_add, Int.reduceAdd, Nat.reduceEqDiff, reduceIte, Classical.not_not, b_H_image, shH, e12, eor]
    subst hQ
    rw [if_pos (by omega), if_pos (by omega), Int.toNat_natCast]
    generalize hK : up M2 0 12 _ = K
    have k12 : K 0 12 = ((bitsP (fun i => ((if i = n then some (σ.h, σ.m) else σ.im i)).isSome) 2 : Nat) : Int) := by rw [← hK, up_eq]
    have k0 : ∀ y : Int, y ≠ 12 → K 0 y = M 0 y := fun y hy => by rw [← hK, up_ne2 hy, s2.at 0 _ (by (first | decide | (simp only [List.mem_cons, List.not_mem_nil, or_false, not_or, not_false_eq_true, and_true]; omega) | (simp [List.mem_cons]; done))), s1.at 0 _ (by (first | decide | (simp only [List.mem_cons, List.not_mem_nil, or_false, not_or, not_false_eq_true, and_true]; omega) | (simp [List.mem_cons]; done)))]
    have kx : ∀ x : Int, x ≠ 0 → (x < 95 + 11 * (n : Int) ∨ 101 + 11 * (n : Int) < x) → x ≠ 104 + 11 * (n : Int) → x ≠ 105 + 11 * (n : Int) → K x = M x := fun x h0 h1 h2 h3 => by
      rw [← hK]
      have : up M2 0 12 ((bitsP (fun i => ((if i = n then some (σ.h, σ.m) else σ.im i)).isSome) 2 : Nat) : Int) x = M2 x := by funext y; exact up_ne1 h0
      rw [this, s2 x (by (first | decide | (simp only [List.mem_cons, List.not_mem_nil, or_false, not_or, not_false_eq_true, and_true]; omega) | (simp [List.mem_cons]; done))), s1 x (by (first | decide | (simp only [List.mem_cons, List.not_mem_nil, or_false, not_or, not_false_eq_true, and_true]; omega) | (simp [List.mem_cons]; done)))]
    have km : ∀ x : Int, x ≠ 0 → K x = M2 x := fun x h0 => by rw [← hK]; funext y; exact up_ne1 h0
    refine ⟨rfl, ⟨z, ⟨by rw [k0 3 (by omega)]; exact hs.1, by rw [k0 4 (by omega)]; exact hs.2.1, hzz, hs.2.2.2.eq (kx _ (by omega) (by omega) (by omega) (by omega)) (kx _ (by omega) (by omega) (by omega) (by omega)) (kx _ (by omega) (by omega) (by omega) (by omega)) (kx _ (by omega) (by omega) (by omega) (by omega)) (kx _ (by omega) (by omega) (by omega) (by omega)) (kx _ (by omega) (by omega) (by omega) (by omega))⟩, ?_, ?_, hM.eq (kx _ (by omega) (by omega) (by omega) (by omega)) (kx _ (by omega) (by omega) (by omega) (by omega)), ?_, fun k hk => (hg k hk).eq (kx _ (by omega) (by omega) (by omega) (by omega)) (kx _ (by omega) (by omega) (by omega) (by omega)) (kx _ (by omega) (by omega) (by omega) (by omega)), ?_, hj.1.eq (fun x h1 h2 => kx _ (by omega) (by omega) (by omega) (by omega)), hj.2.eq (fun x hx => kx _ (by omega) (by omega) (by omega) (by omega))⟩, fun x hx => kx _ (by omega) (by omega) (by omega) (by omega)⟩
    · unfold Ctape; rw [k0 1 (by omega), kx 1 (by omega) (by omega) (by omega) (by omega)]; exact hb
    · unfold Cflt; rw [kx 2 (by omega) (by omega) (by omega) (by omega)]; exact hc
    · exact Cpast.eq (σ := σ.setIm n (σ.h, σ.m)) hf (k0 8 (by omega)) (fun x hx => kx x (by omega) (by omega) (by omega) (by omega))
    · have x31 := kx 31 (by omega) (by omega) (by omega) (by omega)
      have x32 := kx 32 (by omega) (by omega) (by omega) (by omega)
      refine ⟨by rw [x31]; exact i1, by rw [x31]; exact i2, by rw [x32]; exact i3', by rw [x32]; exact i4, k12, fun k x hk hx => ?_⟩
      have hx' : (if k = n then some (σ.h, σ.m) else σ.im k) = some x := hx
      by_cases e : k = n
      · subst e
        rw [if_pos rfl] at hx'
        cases hx'
        refine ⟨(c1.same s2 (by (first | decide | (simp only [List.mem_cons, List.not_mem_nil, or_false, not_or, not_false_eq_true, and_true]; omega) | (simp [List.mem_cons]; done))) (by (first | decide | (simp only [List.mem_cons, List.not_mem_nil, or_false, not_or, not_false_eq_true, and_true]; omega) | (simp [List.mem_cons]; done))) (by (first | decide | (simp only [List.mem_cons, List.not_mem_nil, or_false, not_or, not_false_eq_true, and_true]; omega) | (simp [List.mem_cons]; done))) (by (first | decide | (simp only [List.mem_cons, List.not_mem_nil, or_false, not_or, not_false_eq_true, and_true]; omega) | (simp [List.mem_cons]; done))) (by (first | decide | (simp only [List.mem_cons, List.not_mem_nil, or_false, not_or, not_false_eq_true, and_true]; omega) | (simp [List.mem_cons]; done))) (by (first | decide | (simp only [List.mem_cons, List.not_mem_nil, or_false, not_or, not_false_eq_true, and_true]; omega) | (simp [List.mem_cons]; done)))).eq (km _ (by omega)) (km _ (by omega)) (km _ (by omega)) (km _ (by omega)) (km _ (by omega)) (km _ (by omega)), m2.eq (km _ (by omega)) (km _ (by omega))⟩
      · rw [if_neg e] at hx'
        obtain ⟨u, v⟩ := i6 k x hk hx'
        refine ⟨u.eq (kx _ (by omega) (by omega) (by omega) (by omega)) (kx _ (by omega) (by omega) (by omega) (by omega)) (kx _ (by omega) (by omega) (by omega) (by omega)) (kx _ (by omega) (by omega) (by omega) (by omega)) (kx _ (by omega) (by omega) (by omega) (by omega)) (kx _ (by omega) (by omega) (by omega) (by omega)), v.eq (kx _ (by omega) (by omega) (by omega) (by omega)) (kx _ (by omega) (by omega) (by omega) (by omega))⟩
  · exact a9 (by omega)
theorem c_H_restore {i : Int} {B : Nat} {σ : Sg} (hd : 8 ≤ d) (ok : SgOK B σ) (hR : CR M σ) : MS G d mi_H_restore [vr 0, vi i] M (fun r M' => r = some (vi (aRestore σ i)) ∧ CR M' (sRestore σ i) ∧ Hi M M') := by
  obtain ⟨z, hs, hb, hc, hM, hf, hg, hI, hj⟩ := id hR
  have hz := hs.z
  have hzz := hs.2.2.1
  refine MS.by ck_H_restore [some (vr 0), some (vi i)] fun _ _ => ?_
  generalize hQ : (fun (r : Option AV) (M' : AM) => r = some (vi (aRestore σ i)) ∧ CR M' (sRestore σ i) ∧ Hi M M') = Q
  have a9 : ¬ (0 ≤ i ∧ i < 2) → AW G d mi_H_restore Q 9 [some (vr 0), some (vi i)] [] M := by
    intro q
    refine AW.run ck_H_restore [] 10 9 ?_
    simp only [wR, wB, wE0, wE1, wE2, wE3, g0, gS, s10, s11, s1S, s20, s21, s2S, kl0, kl1, kl2, kl3, sp0, sp1, sp2, sp3, cn1, cn2, cn3, cn4, cn5, cn6, jJa, lk0, lk1, jmS, jmN, s4_0, s4_1, s4_2, s4_3, s4_4, sw0, sw1, cKs, cKn, true_and, and_true, List.map_cons, List.map_nil, Nat.reduceAdd, Nat.zero_add, Int.reduceAdd, Nat.reduceEqDiff, reduceIte, Classical.not_not, b_H_restore]
    subst hQ
    rw [(rest_out q).1, (rest_out q).2]
    exact ⟨rfl, hR, Hi.refl⟩
  refine AW.run ck_H_restore [9, 12] 10 0 ?_
  simp only [wR, wB, wE0, wE1, wE2, wE3, g0, gS, s10, s11, s1S, s20, s21, s2S, kl0, kl1, kl2, kl3, sp0, sp1, sp2, sp3, cn1, cn2, cn3, cn4, cn5, cn6, jJa, lk0, lk1, jmS, jmN, s4_0, s4_1, s4_2, s4_3, s4_4, sw0, sw1, cKs, cKn, true_and, and_true, List.map_cons, List.map_nil, Nat.reduceAdd, Nat.zero_add, Int.reduceAdd, Nat.reduceEqDiff, reduceIte, Classical.not_not, b_H_restore, shH]
  (repeat' (first | omega | exact ⟨by omega, by omega⟩ | (with_reducible exact Or.inr trivial) | (with_reducible exact Or.inl trivial) | (with_reducible assumption) | (with_reducible exact Same.refl) | (with_reducible rfl) | (with_reducible refine And.intro ?_ ?_) | (with_reducible intro _)))
  · exact a9 (by omega)
  · obtain ⟨n, rfl⟩ := Int.eq_ofNat_of_zero_le (show 0 ≤ i by omega)
    have hn : n < 2 := by omega
    obtain ⟨o1, o2⟩ := im_O n hn
    obtain ⟨i1, i2, i3', i4, i5, i6⟩ := id hI
    have ebit := bitf (f := fun i => (σ.im i).isSome) (P := 2) (p := n) (by omega) hn
    have e31 : M 31 (n : Int) = 95 + 11 * (n : Int) := by
      match n, hn with
      | 0, _ => exact i1
      | 1, _ => exact i2
    have e32 : M 32 (n : Int) = 104 + 11 * (n : Int) := by
      match n, hn with
      | 0, _ => exact i3'
      | 1, _ => exact i4
    refine AW.run ck_H_restore [26] 10 12 ?_
    simp only [wR, wB, wE0, wE1, wE2, wE3, g0, gS, s10, s11, s1S, s20, s21, s2S, kl0, kl1, kl2, kl3, sp0, sp1, sp2, sp3, cn1, cn2, cn3, cn4, cn5, cn6, jJa, lk0, lk1, jmS, jmN, s4_0, s4_1, s4_2, s4_3, s4_4, sw0, sw1, cKs, cKn, true_and, and_true, List.map_cons, List.map_nil, Nat.reduceAdd, Nat.zero_add, Int.reduceAdd, Nat.reduceEqDiff, reduceIte, Classical.not_not, b_H_restore, shH, i5, ebit]
    cases hx : σ.im n with
    | none =>
      rw [(rest_none hn hx).1, (rest_none hn hx).2] at hQ
      simp only [Option.isSome_none, Bool.false_eq_true, if_false, not_true_eq_false, false_imp_iff, true_imp_iff, true_and, and_true]
      subst hQ
      exact ⟨rfl, hR, Hi.refl⟩
    | some x =>
      rw [(rest_some hn hx).1, (rest_some hn hx).2] at hQ
      simp only [Option.isSome_some, if_true]
      obtain ⟨x1, x2⟩ := i6 n x hn hx
      have okx := (ok.2.2.2.2.2.2.2 n x hn hx)
      (repeat' (first | omega | exact ⟨by omega, by omega⟩ | (with_reducible exact Or.inr trivial) | (with_reducible exact Or.inl trivial) | (with_reducible assumption) | (with_reducible exact Same.refl) | (with_reducible rfl) | (with_reducible refine And.intro ?_ ?_) | (with_reducible intro _)))
      refine AW.run ck_H_restore [] 10 26 ?_
      simp only [wR, wB, wE0, wE1, wE2, wE3, g0, gS, s10, s11, s1S, s20, s21, s2S, kl0, kl1, kl2, kl3, sp0, sp1, sp2, sp3, cn1, cn2, cn3, cn4, cn5, cn6, jJa, lk0, lk1, jmS, jmN, s4_0, s4_1, s4_2, s4_3, s4_4, sw0, sw1, cKs, cKn, true_and, and_true, List.map_cons, List.map_nil, Nat.reduceAdd, Nat.zero_add, Int.reduceAdd, Nat.reduceEqDiff, reduceIte, Classical.not_not, b_H_restore, shH, shR0, l31, l32, e31, o1, hs.1, hz]
      (repeat' (first | omega | exact ⟨by omega, by omega⟩ | (with_reducible exact Or.inr trivial) | (with_reducible exact Or.inl trivial) | (with_reducible assumption) | (with_reducible exact Same.refl) | (with_reducible rfl) | (with_reducible refine And.intro ?_ ?_) | (with_reducible intro _)))
      refine (c_Ha_copy (d := d - 1) (by omega) hz o1 (by omega) okx.1 x1).mono ?_
      rintro r M1 okM1 ⟨rfl, c1, s1⟩
      have e32' : M1 32 (n : Int) = 104 + 11 * (n : Int) := by rw [s1.at 32 _ (by (first | decide | (simp only [List.mem_cons, List.not_mem_nil, or_false, not_or, not_false_eq_true, and_true]; omega) | (simp [List.mem_cons]; done)))]; exact e32
      simp only [wR, wB, wE0, wE1, wE2, wE3, g0, gS, s10, s11, s1S, s20, s21, s2S, kl0, kl1, kl2, kl3, sp0, sp1, sp2, sp3, cn1, cn2, cn3, cn4, cn5, cn6, jJa, lk0, lk1, jmS, jmN, s4_0, s4_1, s4_2, s4_3, s4_4, sw0, sw1, cKs, cKn, true_and, and_true, List.map_cons, List.map_nil, Nat.reduceAdd, Nat.zero_add, Int.reduceAdd, Nat.reduceEqDiff, reduceIte, Classical.not_not, b_H_restore, shH, shR0, l32, e32', o2]
      (repeat' (first | omega | exact ⟨by omega, by omega⟩ | (with_reducible exact Or.inr trivial) | (with_reducible exact Or.inl trivial) | (with_reducible assumption) | (with_reducible exact Same.refl) | (with_reducible rfl) | (with_reducible refine And.intro ?_ ?_) | (with_reducible intro _)))
      refine MS.to (c_Mo_copy (d := d - 1) (by omega) o25 o2) fun _ => ?_
      have m1 : CM M1 (104 + 11 * (n : Int)) x.1.P x.2 := x2.same s1 (by (first | decide | (simp only [List.mem_cons, List.not_mem_nil, or_false, not_or, not_false_eq_true, and_true]; omega) | (simp [List.mem_cons]; done))) (by (first | decide | (simp only [List.mem_cons, List.not_mem_nil, or_false, not_or, not_false_eq_true, and_true]; omega) | (simp [List.mem_cons]; done)))
      have m2 := moC_CM (z := 25) m1
      have s2 : Same [25, 26] M1 (moC M1 25 (104 + 11 * (n : Int))) := moC_same
      generalize moC M1 25 (104 + 11 * (n : Int)) = M2 at m2 s2 ⊢
      simp only [wR, wB, wE0, wE1, wE2, wE3, g0, gS, s10, s11, s1S, s20, s21, s2S, kl0, kl1, kl2, kl3, sp0, sp1, sp2, sp3, cn1, cn2, cn3, cn4, cn5, cn6, jJa, lk0, lk1, jmS, jmN, s4_0, s4_1, s4_2, s4_3, s4_4, sw0, sw1, cKs, cKn, true_and, and_true, List.map_cons, List.map_nil, Nat.reduceAdd, Nat.zero_add, Int.reduceAdd, Nat.reduceEqDiff, reduceIte, Classical.not_not, b_H_restore, shH, shSt]
      (repeat' (first | omega | (with_reducible exact True.intro) | exact ⟨by omega, by omega⟩ | (with_reducible exact Or.inr trivial) | (with_reducible exact Or.inl trivial) | (with_reducible assumption) | (with_reducible exact Same.refl) | (with_reducible rfl) | (with_reducible refine And.intro ?_ ?_) | (with_reducible intro _)))
      generalize hK : up (up M2 0 8 0) 33 0 1 = K
      have k33 : K 33 0 = 1 := by rw [← hK, up_eq]
      have k8 : K 0 8 = 0 := by rw [← hK, up_ne1 (by omega), up_eq]
      have k0 : ∀ y : Int, y ≠ 8 → K 0 y = M 0 y := fun y hy => by rw [← hK, up_ne1 (by omega), up_ne2 hy, s2.at 0 _ (by (first | decide | (simp only [List.mem_cons, List.not_mem_nil, or_false, not_or, not_false_eq_true, and_true]; omega) | (simp [List.mem_cons]; done))), s1.at 0 _ (by (first | decide | (simp only [List.mem_cons, List.not_mem_nil, or_false, not_or, not_false_eq_true, and_true]; omega) | (simp [List.mem_cons]; done)))]
      have km : ∀ x : Int, x ≠ 0 → x ≠ 33 → K x = M2 x := fun x h0 h1 => by rw [← hK]; funext y; rw [up_ne1 h1, up_ne1 h0]
      have kx : ∀ x : Int, x ≠ 0 → x ≠ 33 → (x < 7 ∨ 24 < x) → x ≠ 25 → x ≠ 26 → K x = M x := fun x h0 h1 h2 h3 h4 => by rw [km x h0 h1, s2 x (by (first | decide | (simp only [List.mem_cons, List.not_mem_nil, or_false, not_or, not_false_eq_true, and_true]; omega) | (simp [List.mem_cons]; done))), s1 x (by (first | decide | (simp only [List.mem_cons, List.not_mem_nil, or_false, not_or, not_false_eq_true, and_true]; omega) | (simp [List.mem_cons]; done)))]
      subst hQ
      refine ⟨rfl, ⟨z, ⟨by rw [k0 3 (by omega)]; exact hs.1, by rw [k0 4 (by omega)]; exact hs.2.1, hzz, (c1.same s2 (by (first | decide | (simp only [List.mem_cons, List.not_mem_nil, or_false, not_or, not_false_eq_true, and_true]; omega) | (simp [List.mem_cons]; done))) (by (first | decide | (simp only [List.mem_cons, List.not_mem_nil, or_false, not_or, not_false_eq_true, and_true]; omega) | (simp [List.mem_cons]; done))) (by (first | decide | (simp only [List.mem_cons, List.not_mem_nil, or_false, not_or, not_false_eq_true, and_true]; omega) | (simp [List.mem_cons]; done))) (by (first | decide | (simp only [List.mem_cons, List.not_mem_nil, or_false, not_or, not_false_eq_true, and_true]; omega) | (simp [List.mem_cons]; done))) (by (first | decide | (simp only [List.mem_cons, List.not_mem_nil, or_false, not_or, not_false_eq_true, and_true]; omega) | (simp [List.mem_cons]; done))) (by (first | decide | (simp only [List.mem_cons, List.not_mem_nil, or_false, not_or, not_false_eq_true, and_true]; omega) | (simp [List.mem_cons]; done)))).eq (km _ (by omega) (by omega)) (km _ (by omega) (by omega)) (km _ (by omega) (by omega)) (km _ (by omega) (by omega)) (km _ (by omega) (by omega)) (km _ (by omega) (by omega))⟩, ?_, ?_, m2.eq (km _ (by omega) (by omega)) (km _ (by omega) (by omega)), ?_, fun k hk => (hg k hk).eq (kx _ (by omega) (by omega) (by omega) (by omega) (by omega)) (kx _ (by omega) (by omega) (by omega) (by omega) (by omega)) (kx _ (by omega) (by omega) (by omega) (by omega) (by omega)), ?_, Or.inl (by rw [k33]; omega), hj.2.eq (fun x hx => kx _ (by omega) (by omega) (by omega) (by omega) (by omega))⟩, fun x hx => kx _ (by omega) (by omega) (by omega) (by omega) (by omega)⟩
      · unfold Ctape; rw [k0 1 (by omega), kx 1 (by omega) (by omega) (by omega) (by omega) (by omega)]; exact hb
      · unfold Cflt; rw [kx 2 (by omega) (by omega) (by omega) (by omega) (by omega)]; exact hc
      · obtain ⟨_, _, q, q1, q2, _⟩ := hf
        refine ⟨k8, Nat.zero_le _, q, fun j hj => by rw [kx 29 (by omega) (by omega) (by omega) (by omega) (by omega)]; exact q1 j hj, q2, fun j hj => absurd hj (Nat.not_lt_zero _)⟩
      · exact Cim.eq (σ := σ.back x) hI (k0 12 (by omega)) (fun x hx => kx x (by omega) (by omega) (by omega) (by omega) (by omega))
  · exact a9 (by omega)
end IM
