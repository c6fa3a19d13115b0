/-! rosters: both -/
def aRosters (σ : Sg) (side n : Int) : Int := if side = 0 ∨ side = 1 then (if 0 ≤ n ∧ n ≤ 10 then (Wy (fun _ => okH σ.h σ.m.sd σ.m.cold side.toNat (sideS σ.m.sd σ.h.P side.toNat) σ.h.must) (nxt σ.h σ.m.sd σ.m.cold) n.toNat 0 (cod σ.m.st σ.h.P) : Int) else -3) else -2
def vm (b g : Nat → Nat) : Nat := sumN (fun s => b s * g s) 3125
theorem vm_add {b g : Nat → Nat} {t w : Nat} (ht : t < 3125) : vm (ud b t (b t + w)) g = vm b g + w * g t := by
  unfold vm
  have e := sumN_upd (f := fun s => b s * g s) (g := fun s => ud b t (b t + w) s * g s) (j := t) (n := 3125) ht (fun x hx => by simp only [ud_ne hx])
  simp only [ud_eq] at e
  have e3 : (b t + w) * g t = b t * g t + w * g t := Nat.add_mul _ _ _
  omega
theorem vm_one {b : Nat → Nat} : vm b (fun _ => 1) = sumN b 3125 := sumN_congr 3125 (fun _ _ => Nat.mul_one _)
theorem vm_1 {b : Nat → Nat} {t : Nat} (ht : t < 3125) : b t ≤ vm b (fun _ => 1) := by
  rw [vm_one]
  have := sumN_mono (f := b) (n := t + 1) (m := 3125) (by omega)
  rw [sumN_s] at this
  omega
theorem vm_le {b g : Nat → Nat} {c : Nat} (h : ∀ s, g s ≤ c) : vm b g ≤ c * vm b (fun _ => 1) := by
  have := sumN_mul (w := b) (c := g) (b := c) 3125 (fun j _ => h j)
  unfold vm
  simp only [Nat.mul_one]
  exact this
theorem Scw.cr {M N : AM} {σ : Sg} {W cold : Nat} {sd : Nat → Nat} (h : CR M σ) (hs : ∀ x : Int, (x < 14 ∨ (15 < x ∧ x < 23) ∨ (24 < x ∧ x < 27) ∨ (28 < x ∧ x < 33) ∨ 66 < x) → N x = M x) (hsd : ∀ p, p < σ.h.P → sd p ≤ 1) (hS : StOK N σ.h sd cold W) (hr : RwInv N) : CR N σ := by
  obtain ⟨z, a, b, c, e, f, g, i, j⟩ := h
  have h0 := hs 0 (by omega)
  have h1 := hs 1 (by omega)
  have h2 := hs 2 (by omega)
  refine ⟨z, a.eq (fun x hx => hs x (by omega)), ?_, ?_, e.eq (hs _ (by omega)) (hs _ (by omega)), f.eq (by rw [h0]) (fun x hx => hs x (by omega)), fun k hk => (g k hk).eq (hs _ (by omega)) (hs _ (by omega)) (hs _ (by omega)), i.eq (by rw [h0]) (fun x hx => hs x (by omega)), hS.inv hsd, hr⟩
  · unfold Ctape; rw [h0, h1]; exact b
  · unfold Cflt; rw [h2]; exact c
/-- behind an aim and rows -/
theorem CR.rows {M M1 N : AM} {σ : Sg} {W : Nat} (h : CR M σ) (mok : MoOK σ.m) (hs : Scr M M1) (hr : Same [33, 56, 58, 59, 60, 61, 62, 63, 64, 65, 66] M1 N) (hS : StOK N σ.h σ.m.sd σ.m.cold W) (hi : RwInv N) : CR N σ ∧ Hi M N := by
  have e : ∀ x : Int, (x < 14 ∨ (15 < x ∧ x < 23) ∨ (24 < x ∧ x < 27) ∨ (28 < x ∧ x < 33) ∨ 66 < x) → N x = M x := fun x hx => by
    rw [hr x (by simp <;> omega)]
    exact hs x (by omega)
  exact ⟨Scw.cr h e (fun p _ => (mok.1 p).1) hS hi, fun x hx => e x (by omega)⟩
section RS
variable {G : AG} {d : Nat} {M : AM}
theorem c_H_rosters {side n : Int} {B : Nat} {σ : Sg} (hd : 20 ≤ d) (ok : SgOK B σ) (hR : CR M σ) : MS G d mi_H_rosters [vr 0, vi side, vi n] M (fun r M' => r = some (vl (aRosters σ side n)) ∧ CR M' σ ∧ Hi M M') := by
  obtain ⟨z, hs, hM, hp, hT⟩ := hR.z
  have hok := ok.2.2.1
  have hP := hok.1
  have mok := ok.2.2.2.1.1
  refine MS.by ck_H_rosters [some (vr 0), some (vi side), some (vi n), none] fun _ _ => ?_
  generalize hQ : (fun (r : Option AV) (M' : AM) => r = some (vl (aRosters σ side n)) ∧ CR M' σ ∧ Hi M M') = Q
  unfold aRosters at hQ
  refine AW.run ck_H_rosters [11] 10 0 ?_
  simp only [wR, wB, wE0, wE1, wE2, wE3, g0, gS, s10, s11, s1S, s20, s21, s2S, kl0, kl1, kl2, kl3, sp0, sp1, sp2, sp3, cn1, cn2, cn3, cn4, cn5, cn6, jJa, lk0, lk1, jmS, jmN, s4_0, s4_1, s4_2, s4_3, s4_4, sw0, sw1, cKs, cKn, true_and, and_true, List.map_cons, List.map_nil, Nat.reduceAdd, Nat.zero_add, Int.reduceAdd, Nat.reduceEqDiff, reduceIte, Classical.not_not, b_H_rosters, shH]
  refine ⟨by omega, MS.to c_H_isSide fun _ => ?_⟩
  simp only [wR, wB, wE0, wE1, wE2, wE3, g0, gS, s10, s11, s1S, s20, s21, s2S, kl0, kl1, kl2, kl3, sp0, sp1, sp2, sp3, cn1, cn2, cn3, cn4, cn5, cn6, jJa, lk0, lk1, jmS, jmN, s4_0, s4_1, s4_2, s4_3, s4_4, sw0, sw1, cKs, cKn, true_and, and_true, List.map_cons, List.map_nil, Nat.reduceAdd, Nat.zero_add, Int.reduceAdd, Nat.reduceEqDiff, reduceIte, Classical.not_not, b_H_rosters, shH]
  by_cases q : side = 0 ∨ side = 1
  · rw [if_pos q] at hQ ⊢
    obtain ⟨k, rfl, hk⟩ := side_n q
    rw [Int.toNat_natCast] at hQ
    (repeat' (first | omega | (with_reducible exact True.intro) | exact ⟨by omega, by omega⟩ | (with_reducible exact Or.inr trivial) | (with_reducible exact Or.inl trivial) | (with_reducible assumption) | (with_reducible exact Same.refl) | (with_reducible rfl) | (with_reducible refine And.intro ?_ ?_) | (with_reducible intro _)))
    by_cases q2 : 0 ≤ n ∧ n ≤ 10
    · rw [if_pos q2] at hQ
      obtain ⟨j, rfl⟩ := Int.eq_ofNat_of_zero_le q2.1
      rw [Int.toNat_natCast] at hQ
      have hW := sideS_lt (sd := σ.m.sd) (k := k) hP
      refine AW.run ck_H_rosters [21] 10 11 ?_
      simp only [wR, wB, wE0, wE1, wE2, wE3, g0, gS, s10, s11, s1S, s20, s21, s2S, kl0, kl1, kl2, kl3, sp0, sp1, sp2, sp3, cn1, cn2, cn3, cn4, cn5, cn6, jJa, lk0, lk1, jmS, jmN, s4_0, s4_1, s4_2, s4_3, s4_4, sw0, sw1, cKs, cKn, true_and, and_true, List.map_cons, List.map_nil, Nat.reduceAdd, Nat.zero_add, Int.reduceAdd, Nat.reduceEqDiff, reduceIte, Classical.not_not, b_H_rosters, shH]
      (repeat' (first | omega | (with_reducible exact True.intro) | exact ⟨by omega, by omega⟩ | (with_reducible exact Or.inr trivial) | (with_reducible exact Or.inl trivial) | (with_reducible assumption) | (with_reducible exact Same.refl) | (with_reducible rfl) | (with_reducible refine And.intro ?_ ?_) | (with_reducible intro _)))
      refine (c_H_aimAtSide (d := d - 1) (by omega) ok hR hk).mono ?_
      rintro r M1 okM1 ⟨rfl, u1, u2⟩
      have hs1 := CR.cz hs u2
      have hM1 := hM.eq (u2 _ (by omega)) (u2 _ (by omega))
      simp only [wR, wB, wE0, wE1, wE2, wE3, g0, gS, s10, s11, s1S, s20, s21, s2S, kl0, kl1, kl2, kl3, sp0, sp1, sp2, sp3, cn1, cn2, cn3, cn4, cn5, cn6, jJa, lk0, lk1, jmS, jmN, s4_0, s4_1, s4_2, s4_3, s4_4, sw0, sw1, cKs, cKn, true_and, and_true, List.map_cons, List.map_nil, Nat.reduceAdd, Nat.zero_add, Int.reduceAdd, Nat.reduceEqDiff, reduceIte, Classical.not_not, b_H_rosters, shH]
      refine ⟨by omega, MS.to (c_Mo_code o25 hW (fun p hp => hM1.b5 mok p (by omega) (by omega))) fun _ => ?_⟩
      rw [codN_cod hM1 hP, prj_cod (fun p => (mok.1 p).2)]
      simp only [wR, wB, wE0, wE1, wE2, wE3, g0, gS, s10, s11, s1S, s20, s21, s2S, kl0, kl1, kl2, kl3, sp0, sp1, sp2, sp3, cn1, cn2, cn3, cn4, cn5, cn6, jJa, lk0, lk1, jmS, jmN, s4_0, s4_1, s4_2, s4_3, s4_4, sw0, sw1, cKs, cKn, true_and, and_true, List.map_cons, List.map_nil, Nat.reduceAdd, Nat.zero_add, Int.reduceAdd, Nat.reduceEqDiff, reduceIte, Classical.not_not, b_H_rosters, shH, hs1.1, hs1.z, hs1.2.2.2.2.1]
      refine ⟨by omega, (c_Ro_inHours (d := d - 1) (side := k) (must := σ.h.must) (n := j) (by omega) hok u1 (hR.rw.eq (fun x hx => u2 x (by omega))) prj_lt (by omega)).mono ?_⟩
      rintro r N okN ⟨rfl, v1, v2, v3⟩
      rw [Wy_hom (fun _ => okH_prj hP sub_refl hW) nxW_prj]
      obtain ⟨c1, c2⟩ := hR.rows mok u2 v3 v1 v2
      simp only [wR, wB, wE0, wE1, wE2, wE3, g0, gS, s10, s11, s1S, s20, s21, s2S, kl0, kl1, kl2, kl3, sp0, sp1, sp2, sp3, cn1, cn2, cn3, cn4, cn5, cn6, jJa, lk0, lk1, jmS, jmN, s4_0, s4_1, s4_2, s4_3, s4_4, sw0, sw1, cKs, cKn, true_and, and_true, List.map_cons, List.map_nil, Nat.reduceAdd, Nat.zero_add, Int.reduceAdd, Nat.reduceEqDiff, reduceIte, Classical.not_not, b_H_rosters]
      subst hQ
      exact ⟨rfl, c1, c2⟩
    · rw [if_neg q2] at hQ
      have a21 : AW G d mi_H_rosters Q 21 [some (vr 0), some (vi k), some (vi n), none] [] M := by
        refine AW.run ck_H_rosters [] 10 21 ?_
        simp only [wR, wB, wE0, wE1, wE2, wE3, g0, gS, s10, s11, s1S, s20, s21, s2S, kl0, kl1, kl2, kl3, sp0, sp1, sp2, sp3, cn1, cn2, cn3, cn4, cn5, cn6, jJa, lk0, lk1, jmS, jmN, s4_0, s4_1, s4_2, s4_3, s4_4, sw0, sw1, cKs, cKn, true_and, and_true, List.map_cons, List.map_nil, Nat.reduceAdd, Nat.zero_add, Int.reduceAdd, Nat.reduceEqDiff, reduceIte, Classical.not_not, b_H_rosters]
        subst hQ
        exact ⟨rfl, hR, Hi.refl⟩
      refine AW.run ck_H_rosters [21, 25] 10 11 ?_
      simp only [wR, wB, wE0, wE1, wE2, wE3, g0, gS, s10, s11, s1S, s20, s21, s2S, kl0, kl1, kl2, kl3, sp0, sp1, sp2, sp3, cn1, cn2, cn3, cn4, cn5, cn6, jJa, lk0, lk1, jmS, jmN, s4_0, s4_1, s4_2, s4_3, s4_4, sw0, sw1, cKs, cKn, true_and, and_true, List.map_cons, List.map_nil, Nat.reduceAdd, Nat.zero_add, Int.reduceAdd, Nat.reduceEqDiff, reduceIte, Classical.not_not, b_H_rosters, shH]
      (repeat' (first | omega | (with_reducible exact True.intro) | exact ⟨by omega, by omega⟩ | (with_reducible exact Or.inr trivial) | (with_reducible exact Or.inl trivial) | (with_reducible assumption) | (with_reducible exact Same.refl) | (with_reducible rfl) | (with_reducible refine And.intro ?_ ?_) | (with_reducible intro _)))
  · rw [if_neg q] at hQ ⊢
    subst hQ
    have := Hi.refl (M := M)
    (repeat' (first | omega | (with_reducible exact True.intro) | exact ⟨by omega, by omega⟩ | (with_reducible exact Or.inr trivial) | (with_reducible exact Or.inl trivial) | (with_reducible assumption) | (with_reducible exact Same.refl) | (with_reducible rfl) | (with_reducible refine And.intro ?_ ?_) | (with_reducible intro _)))
set_option maxRecDepth 20000 in
theorem c_Md_rosters {side n : Int} {B : Nat} {σ : Sg} (hd : 30 ≤ d) (ok : SgOK B σ) (hR : MR M σ) : MS G d mi_Md_rosters [vr 117, vi side, vi n] M (fun r M' => r = some (vl (aRosters σ side n)) ∧ MR M' σ ∧ Lo M M') := by
  have hR' := hR.thr
  have hok := ok.2.2.1
  have hP := hok.1
  have mok := ok.2.2.2.1.1
  have hs0 := cod_100k hok mok
  refine MS.by ck_Md_rosters [some (vr 117), some (vi side), some (vi n), none, none, none, none] fun _ _ => ?_
  generalize hQ : (fun (r : Option AV) (M' : AM) => r = some (vl (aRosters σ side n)) ∧ MR M' σ ∧ Lo M M') = Q
  refine AW.run ck_Md_rosters [16] 10 0 ?_
  simp only [wR, wB, wE0, wE1, wE2, wE3, g0, gS, s10, s11, s1S, s20, s21, s2S, kl0, kl1, kl2, kl3, sp0, sp1, sp2, sp3, cn1, cn2, cn3, cn4, cn5, cn6, jJa, lk0, lk1, jmS, jmN, s4_0, s4_1, s4_2, s4_3, s4_4, sw0, sw1, cKs, cKn, true_and, and_true, List.map_cons, List.map_nil, Nat.reduceAdd, Nat.zero_add, Int.reduceAdd, Nat.reduceEqDiff, reduceIte, Classical.not_not, b_Md_rosters, shMd]
  have hlo : Lo M (up M 117 0 0) := thr_lo
  generalize up M 117 0 0 = N at hR' hlo ⊢
  obtain ⟨hH, hm, -⟩ := hR'.past
  refine ⟨by omega, MS.to (c_Md_isSide (d := d - 1) (by omega)) fun _ => ?_⟩
  simp only [wR, wB, wE0, wE1, wE2, wE3, g0, gS, s10, s11, s1S, s20, s21, s2S, kl0, kl1, kl2, kl3, sp0, sp1, sp2, sp3, cn1, cn2, cn3, cn4, cn5, cn6, jJa, lk0, lk1, jmS, jmN, s4_0, s4_1, s4_2, s4_3, s4_4, sw0, sw1, cKs, cKn, true_and, and_true, List.map_cons, List.map_nil, Nat.reduceAdd, Nat.zero_add, Int.reduceAdd, Nat.reduceEqDiff, reduceIte, Classical.not_not, b_Md_rosters, shMd]
  unfold aRosters at hQ
  by_cases q : side = 0 ∨ side = 1
  · rw [if_pos q] at hQ ⊢
    obtain ⟨sd', rfl, hk⟩ := side_n q
    rw [Int.toNat_natCast] at hQ
    (repeat' (first | omega | (with_reducible exact True.intro) | exact ⟨by omega, by omega⟩ | (with_reducible exact Or.inr trivial) | (with_reducible exact Or.inl trivial) | (with_reducible assumption) | (with_reducible exact Same.refl) | (with_reducible rfl) | (with_reducible refine And.intro ?_ ?_) | (with_reducible intro _)))
    refine AW.run ck_Md_rosters [32] 10 16 ?_
    simp only [wR, wB, wE0, wE1, wE2, wE3, g0, gS, s10, s11, s1S, s20, s21, s2S, kl0, kl1, kl2, kl3, sp0, sp1, sp2, sp3, cn1, cn2, cn3, cn4, cn5, cn6, jJa, lk0, lk1, jmS, jmN, s4_0, s4_1, s4_2, s4_3, s4_4, sw0, sw1, cKs, cKn, true_and, and_true, List.map_cons, List.map_nil, Nat.reduceAdd, Nat.zero_add, Int.reduceAdd, Nat.reduceEqDiff, reduceIte, Classical.not_not, b_Md_rosters, shMd]
    refine ⟨by omega, MS.to c_Md_within fun _ => ?_⟩
    simp only [wR, wB, wE0, wE1, wE2, wE3, g0, gS, s10, s11, s1S, s20, s21, s2S, kl0, kl1, kl2, kl3, sp0, sp1, sp2, sp3, cn1, cn2, cn3, cn4, cn5, cn6, jJa, lk0, lk1, jmS, jmN, s4_0, s4_1, s4_2, s4_3, s4_4, sw0, sw1, cKs, cKn, true_and, and_true, List.map_cons, List.map_nil, Nat.reduceAdd, Nat.zero_add, Int.reduceAdd, Nat.reduceEqDiff, reduceIte, Classical.not_not, b_Md_rosters, shMd]
    by_cases q2 : 0 ≤ n ∧ n ≤ 10
    · rw [if_pos q2] at hQ ⊢
      obtain ⟨n, rfl⟩ := Int.eq_ofNat_of_zero_le q2.1
      rw [Int.toNat_natCast] at hQ
      have hW := sideS_lt (sd := σ.m.sd) (k := sd') hP
      (repeat' (first | omega | (with_reducible exact True.intro) | exact ⟨by omega, by omega⟩ | (with_reducible exact Or.inr trivial) | (with_reducible exact Or.inl trivial) | (with_reducible assumption) | (with_reducible exact Same.refl) | (with_reducible rfl) | (with_reducible refine And.intro ?_ ?_) | (with_reducible intro _)))
      refine AW.run ck_Md_rosters [47] 10 32 ?_
      simp only [wR, wB, wE0, wE1, wE2, wE3, g0, gS, s10, s11, s1S, s20, s21, s2S, kl0, kl1, kl2, kl3, sp0, sp1, sp2, sp3, cn1, cn2, cn3, cn4, cn5, cn6, jJa, lk0, lk1, jmS, jmN, s4_0, s4_1, s4_2, s4_3, s4_4, sw0, sw1, cKs, cKn, true_and, and_true, List.map_cons, List.map_nil, Nat.reduceAdd, Nat.zero_add, Int.reduceAdd, Nat.reduceEqDiff, reduceIte, Classical.not_not, b_Md_rosters, shMd]
      refine ⟨by omega, MS.to (c_Md_sideOf (sd := σ.m.sd) (s := sd') hH.2.1 hP (fun p hp => (hm.sd mok p hp).1)) fun _ => ?_⟩
      simp only [wR, wB, wE0, wE1, wE2, wE3, g0, gS, s10, s11, s1S, s20, s21, s2S, kl0, kl1, kl2, kl3, sp0, sp1, sp2, sp3, cn1, cn2, cn3, cn4, cn5, cn6, jJa, lk0, lk1, jmS, jmN, s4_0, s4_1, s4_2, s4_3, s4_4, sw0, sw1, cKs, cKn, true_and, and_true, List.map_cons, List.map_nil, Nat.reduceAdd, Nat.zero_add, Int.reduceAdd, Nat.reduceEqDiff, reduceIte, Classical.not_not, b_Md_rosters, shMd]
      refine ⟨by omega, (c_Md_laysStands (d := d - 1) (pe := sideS σ.m.sd σ.h.P sd') (by omega) hok mok hH hm hW).mono ?_⟩
      rintro r0 M1 okM1 ⟨rfl, ⟨l, L0⟩, u1, u2⟩
      simp only [wR, wB, wE0, wE1, wE2, wE3, g0, gS, s10, s11, s1S, s20, s21, s2S, kl0, kl1, kl2, kl3, sp0, sp1, sp2, sp3, cn1, cn2, cn3, cn4, cn5, cn6, jJa, lk0, lk1, jmS, jmN, s4_0, s4_1, s4_2, s4_3, s4_4, sw0, sw1, cKs, cKn, true_and, and_true, List.map_cons, List.map_nil, Nat.reduceAdd, Nat.zero_add, Int.reduceAdd, Nat.reduceEqDiff, reduceIte, Classical.not_not, b_Md_rosters, shMd]
      have e118 : M1 118 = N 118 := u1 118 (by (first | decide | (simp only [List.mem_cons, List.not_mem_nil, or_false, not_or, not_false_eq_true, and_true]; omega) | (simp [List.mem_cons]; done)))
      refine ⟨by omega, (c_Md_beginsMany (d := d - 1) (P := σ.h.P) (st := σ.m.st) (by rw [e118]; exact hH.2.1) hP (by rw [e118]; exact hm.st mok) (by omega)).mono ?_⟩
      rintro r1 M2 okM2 ⟨rfl, b1, b2⟩
      simp only [wR, wB, wE0, wE1, wE2, wE3, g0, gS, s10, s11, s1S, s20, s21, s2S, kl0, kl1, kl2, kl3, sp0, sp1, sp2, sp3, cn1, cn2, cn3, cn4, cn5, cn6, jJa, lk0, lk1, jmS, jmN, s4_0, s4_1, s4_2, s4_3, s4_4, sw0, sw1, cKs, cKn, true_and, and_true, List.map_cons, List.map_nil, Nat.reduceAdd, Nat.zero_add, Int.reduceAdd, Nat.reduceEqDiff, reduceIte, Classical.not_not, b_Md_rosters, shMd]
      have hnd := L0.1.2.2.2.1
      have hl3 := L0.1.2.2.2.2
      have hlen := len_lt hnd hl3
      have hsin : cod σ.m.st σ.h.P ∈ l := (L0.2.1.2 _).mpr Rc.refl
      have keep : ∀ K : AM, Same [131, 132] M1 K → LSt K σ.h σ.m.sd σ.m.cold (sideS σ.m.sd σ.h.P sd') (cod σ.m.st σ.h.P) l ∧ MR K σ ∧ Lo M K := by
        intro K hK
        obtain ⟨c1, c2⟩ := hR'.lay3 ((u1.mono (by simp)).trans (hK.mono (by simp))) (fun y hy => by rw [hK.at 117 _ (by (first | decide | (simp only [List.mem_cons, List.not_mem_nil, or_false, not_or, not_false_eq_true, and_true]; omega) | (simp [List.mem_cons]; done)))]; exact u2 y hy)
        exact ⟨L0.far (hK.at 117 _ (by (first | decide | (simp only [List.mem_cons, List.not_mem_nil, or_false, not_or, not_false_eq_true, and_true]; omega) | (simp [List.mem_cons]; done)))) (fun x hx => hK x (by (first | decide | (simp only [List.mem_cons, List.not_mem_nil, or_false, not_or, not_false_eq_true, and_true]; omega) | (simp [List.mem_cons]; done)))), c1, hlo.trans c2⟩
      have hcl : ∀ t set, t ∈ l → set < 32 → okH σ.h σ.m.sd σ.m.cold sd' (sideS σ.m.sd σ.h.P sd') σ.h.must t set = true → nxt σ.h σ.m.sd σ.m.cold t set ∈ l := fun t set a b c => L0.cl t set a b (okH_P c).1
      have hrow : ∀ K : AM, Same [131, 132] M1 K → ∀ s, s ∈ l → ∀ set : Nat, set < 32 → rowM K σ.h σ.m.sd σ.m.cold (sideS σ.m.sd σ.h.P sd') s set := fun K hK s hs set hset => (keep K hK).1.2.2.2 s hs set hset
      have hoP : ∀ s set, okH σ.h σ.m.sd σ.m.cold sd' (sideS σ.m.sd σ.h.P sd') σ.h.must s set = true → okP σ.h.P (sideS σ.m.sd σ.h.P sd') s set = true := fun s set e => (okH_P e).1
      have hoI : ∀ s set, okP σ.h.P (sideS σ.m.sd σ.h.P sd') s set = true → (σ.h.must ≤ hands σ.h σ.m.sd σ.m.cold s set sd' ↔ okH σ.h σ.m.sd σ.m.cold sd' (sideS σ.m.sd σ.h.P sd') σ.h.must s set = true) := fun s set e => ⟨fun e2 => okH_of e e2, fun e2 => (okH_P e2).2⟩
      unfold rowM at hrow
      generalize hRR : Wy (fun _ => okH σ.h σ.m.sd σ.m.cold sd' (sideS σ.m.sd σ.h.P sd') σ.h.must) (nxt σ.h σ.m.sd σ.m.cold) n 0 (cod σ.m.st σ.h.P) = R at hQ
      generalize hokf : okH σ.h σ.m.sd σ.m.cold sd' (sideS σ.m.sd σ.h.P sd') σ.h.must = okf at hcl hoP hoI hRR
      generalize hnxf : nxt σ.h σ.m.sd σ.m.cold = nxf at hcl hRR hrow
      have hWs : ∀ r i s, Wy (fun _ => okf) nxf (r + 1) i s = stp' okf nxf (Wy (fun _ => okf) nxf r (i + 1)) s 32 := fun r i s => rfl
      have l47 : ∀ (r k : Nat) (a : Nat → Nat) (K : AM) (l4 l5 l6 : Option AV), k + r = n → Same [131, 132] M1 K → (∀ x : Nat, x < 3125 → K 131 x = a x ∧ K 132 x = 0 ∧ (a x ≠ 0 → x ∈ l)) → vm a (Wy (fun _ => okf) nxf r k) = R → vm a (fun _ => 1) ≤ 32 ^ k → AW G d mi_Md_rosters Q 47 [some (vr 117), some (vi sd'), some (vi n), some (vi k), l4, l5, l6] [] K := by
        as_aux_lemma =>
          intro r
          induction r with
          | zero =>
            intro k a K l4 l5 l6 hkn hK ha hv hb
            obtain ⟨k1, k2, k3⟩ := keep K hK
            have h10 : (32 : Nat) ^ k ≤ 32 ^ 10 := Nat.pow_le_pow_right (by omega) (by omega)
            have hv' : sumN a 3125 = R := by
              have : vm a (fun _ => 1) = R := hv
              rw [vm_one] at this
              exact this
            have hb' : sumN a 3125 < 2 ^ 62 := by
              rw [vm_one] at hb
              omega
            refine AW.run ck_Md_rosters [55] 10 47 ?_
            simp only [wR, wB, wE0, wE1, wE2, wE3, g0, gS, s10, s11, s1S, s20, s21, s2S, kl0, kl1, kl2, kl3, sp0, sp1, sp2, sp3, cn1, cn2, cn3, cn4, cn5, cn6, jJa, lk0, lk1, jmS, jmN, s4_0, s4_1, s4_2, s4_3, s4_4, sw0, sw1, cKs, cKn, true_and, and_true, List.map_cons, List.map_nil, Nat.reduceAdd, Nat.zero_add, Int.reduceAdd, Nat.reduceEqDiff, reduceIte, Classical.not_not, b_Md_rosters, shMd]
            (repeat' (first | omega | (with_reducible exact True.intro) | exact ⟨by omega, by omega⟩ | (with_reducible exact Or.inr trivial) | (with_reducible exact Or.inl trivial) | (with_reducible assumption) | (with_reducible exact Same.refl) | (with_reducible rfl) | (with_reducible refine And.intro ?_ ?_) | (with_reducible intro _)))
            refine MS.to (c_Md_manySum (fun s hs => (ha s hs).1) hb') fun _ => ?_
            rw [hv']
            simp only [wR, wB, wE0, wE1, wE2, wE3, g0, gS, s10, s11, s1S, s20, s21, s2S, kl0, kl1, kl2, kl3, sp0, sp1, sp2, sp3, cn1, cn2, cn3, cn4, cn5, cn6, jJa, lk0, lk1, jmS, jmN, s4_0, s4_1, s4_2, s4_3, s4_4, sw0, sw1, cKs, cKn, true_and, and_true, List.map_cons, List.map_nil, Nat.reduceAdd, Nat.zero_add, Int.reduceAdd, Nat.reduceEqDiff, reduceIte, Classical.not_not, b_Md_rosters]
            subst hQ
            exact ⟨rfl, k2, k3⟩
          | succ r ihh =>
            intro hr a K0 l4 l5 l6 hkn hK0 ha0 hv hb
            have h10 : (32 : Nat) ^ hr ≤ 32 ^ 9 := Nat.pow_le_pow_right (by omega) (by omega)
            have l55 : ∀ (r' k : Nat) (b : Nat → Nat) (K : AM) (l5 l6 : Option AV), k + r' = l.length → Same [131, 132] M1 K → (∀ x : Nat, x < 3125 → K 131 x = a x ∧ K 132 x = b x ∧ (b x ≠ 0 → x ∈ l)) → (∀ g, vm b g = sumN (fun j => a (l.getD j 0) * stp' okf nxf g (l.getD j 0) 32) k) → AW G d mi_Md_rosters Q 55 [some (vr 117), some (vi sd'), some (vi n), some (vi hr), some (vi k), l5, l6] [] K := by
              intro r'
              induction r' with
              | zero =>
                intro k b K l5 l6 hkl hK hab hval
                obtain ⟨k1, k2, k3⟩ := keep K hK
                have e27 := k1.1.1
                have hilen : k = l.length := by omega
                have hg : ∀ g, vm b g = vm a (fun s => stp' okf nxf g s 32) := by
                  intro g
                  rw [hval, hilen]
                  unfold vm
                  rw [sumN_list (f := fun s => a s * stp' okf nxf g s 32) hnd hl3 (fun s hs hn => by
                    have : a s = 0 := Classical.byContradiction (fun h0 => hn ((ha0 s hs).2.2 h0))
                    simp only [this, Nat.zero_mul]), sumL_idx]
                refine AW.run ck_Md_rosters [47, 76] 10 55 ?_
                simp only [wR, wB, wE0, wE1, wE2, wE3, g0, gS, s10, s11, s1S, s20, s21, s2S, kl0, kl1, kl2, kl3, sp0, sp1, sp2, sp3, cn1, cn2, cn3, cn4, cn5, cn6, jJa, lk0, lk1, jmS, jmN, s4_0, s4_1, s4_2, s4_3, s4_4, sw0, sw1, cKs, cKn, true_and, and_true, List.map_cons, List.map_nil, Nat.reduceAdd, Nat.zero_add, Int.reduceAdd, Nat.reduceEqDiff, reduceIte, Classical.not_not, b_Md_rosters, shMd, e27]
                (repeat' (first | omega | (with_reducible exact True.intro) | exact ⟨by omega, by omega⟩ | (with_reducible exact Or.inr trivial) | (with_reducible exact Or.inl trivial) | (with_reducible assumption) | (with_reducible exact Same.refl) | (with_reducible rfl) | (with_reducible refine And.intro ?_ ?_) | (with_reducible intro _)))
                refine c_Md_isThen.mono ?_
                rintro r'' K2 okK2 ⟨rfl, i1, i2⟩
                have := ihh (hr + 1) b K2 (some (vi k)) l5 l6 (by omega) (hK.trans (i2.mono (by simp))) (fun x hx => ⟨by rw [(i1 x hx).1]; exact (hab x hx).2.1, (i1 x hx).2, (hab x hx).2.2⟩) (by rw [hg, ← hv]; rfl) (by
                  rw [hg, Nat.pow_succ]
                  have h1 := vm_le (b := a) (g := fun s => stp' okf nxf (fun _ => 1) s 32) (c := 32) (fun s => by
                    have := stp'_le (ok := okf) (nx := nxf) (g := fun _ => 1) (s := s) 1 (fun _ => Nat.le_refl _) 32
                    show stp' okf nxf (fun _ => 1) s 32 ≤ 32
                    omega)
                  omega)
                simp only [wR, wB, wE0, wE1, wE2, wE3, g0, gS, s10, s11, s1S, s20, s21, s2S, kl0, kl1, kl2, kl3, sp0, sp1, sp2, sp3, cn1, cn2, cn3, cn4, cn5, cn6, jJa, lk0, lk1, jmS, jmN, s4_0, s4_1, s4_2, s4_3, s4_4, sw0, sw1, cKs, cKn, true_and, and_true, List.map_cons, List.map_nil, Nat.reduceAdd, Nat.zero_add, Int.reduceAdd, Nat.reduceEqDiff, reduceIte, Classical.not_not, b_Md_rosters, ce]
                (repeat' (first | omega | (with_reducible exact True.intro) | exact ⟨by omega, by omega⟩ | (with_reducible exact Or.inr trivial) | (with_reducible exact Or.inl trivial) | (with_reducible assumption) | (with_reducible exact Same.refl) | (with_reducible rfl) | (with_reducible refine And.intro ?_ ?_) | (with_reducible intro _)))
              | succ r' ihk =>
                intro k b K l5 l6 hkl hK hab hval
                obtain ⟨k1, k2, k3⟩ := keep K hK
                have e27 := k1.1.1
                have hkl' : k < l.length := by omega
                have hsk := getD_mem hkl'
                have eK : K 125 (k : Int) = ((l.getD k 0 : Nat) : Int) := k1.1.2.1 k hkl'
                have hsm := sumN_s (fun j => a (l.getD j 0)) k
                have hsl : sumN (fun j => a (l.getD j 0)) (k + 1) ≤ vm a (fun _ => 1) := by
                  have e1 : vm a (fun _ => 1) = sumN (fun j => a (l.getD j 0)) l.length := by
                    unfold vm
                    rw [sumN_list (f := fun s => a s * 1) hnd hl3 (fun s hs hn => by
                      have : a s = 0 := Classical.byContradiction (fun h0 => hn ((ha0 s hs).2.2 h0))
                      simp only [this, Nat.zero_mul]), sumL_idx]
                    simp only [Nat.mul_one]
                  rw [e1]; exact sumN_mono (by omega)
                have hpre := sumN_mul (w := fun j => a (l.getD j 0)) (c := fun j => stp' okf nxf (fun _ => 1) (l.getD j 0) 32) (b := 32) k (fun j _ => by
                  have := stp'_le (ok := okf) (nx := nxf) (g := fun _ => 1) (s := l.getD j 0) 1 (fun _ => Nat.le_refl _) 32
                  show stp' okf nxf (fun _ => 1) (l.getD j 0) 32 ≤ 32
                  omega)
                have hps : ∀ g, sumN (fun j => a (l.getD j 0) * stp' okf nxf g (l.getD j 0) 32) (k + 1) = sumN (fun j => a (l.getD j 0) * stp' okf nxf g (l.getD j 0) 32) k + a (l.getD k 0) * stp' okf nxf g (l.getD k 0) 32 := fun g => rfl
                generalize hsk' : l.getD k 0 = sk at hsk eK hps hsm
                have hsk3 := hl3 sk hsk
                have a167 : ∀ (b : Nat → Nat) (K : AM) (l6 : Option AV), Same [131, 132] M1 K → (∀ x : Nat, x < 3125 → K 131 x = a x ∧ K 132 x = b x ∧ (b x ≠ 0 → x ∈ l)) → (∀ g, vm b g = sumN (fun j => a (l.getD j 0) * stp' okf nxf g (l.getD j 0) 32) k + a sk * stp' okf nxf g sk 32) → AW G d mi_Md_rosters Q 167 [some (vr 117), some (vi sd'), some (vi n), some (vi hr), some (vi k), some (vi sk), l6] [] K := by
                  intro b K l6 h1 h2 h3
                  have := ihk (k + 1) b K (some (vi sk)) l6 (by omega) h1 h2 (fun g => by rw [h3, hps])
                  refine AW.run ck_Md_rosters [55] 10 167 ?_
                  simp only [wR, wB, wE0, wE1, wE2, wE3, g0, gS, s10, s11, s1S, s20, s21, s2S, kl0, kl1, kl2, kl3, sp0, sp1, sp2, sp3, cn1, cn2, cn3, cn4, cn5, cn6, jJa, lk0, lk1, jmS, jmN, s4_0, s4_1, s4_2, s4_3, s4_4, sw0, sw1, cKs, cKn, true_and, and_true, List.map_cons, List.map_nil, Nat.reduceAdd, Nat.zero_add, Int.reduceAdd, Nat.reduceEqDiff, reduceIte, Classical.not_not, b_Md_rosters, ce]
                  (repeat' (first | omega | (with_reducible exact True.intro) | exact ⟨by omega, by omega⟩ | (with_reducible exact Or.inr trivial) | (with_reducible exact Or.inl trivial) | (with_reducible assumption) | (with_reducible exact Same.refl) | (with_reducible rfl) | (with_reducible refine And.intro ?_ ?_) | (with_reducible intro _)))
                have l76 : ∀ (r' set : Nat) (b : Nat → Nat) (K : AM), set + r' = 32 → Same [131, 132] M1 K → (∀ x : Nat, x < 3125 → K 131 x = a x ∧ K 132 x = b x ∧ (b x ≠ 0 → x ∈ l)) → (∀ g, vm b g = sumN (fun j => a (l.getD j 0) * stp' okf nxf g (l.getD j 0) 32) k + a sk * stp' okf nxf g sk set) → AW G d mi_Md_rosters Q 76 [some (vr 117), some (vi sd'), some (vi n), some (vi hr), some (vi k), some (vi sk), some (vi set)] [] K := by
                  intro r'
                  induction r' with
                  | zero =>
                    intro set b K hset h1 h2 h3
                    have := a167 b K (some (vi set)) h1 h2 (by rw [show set = 32 by omega] at h3; exact h3)
                    refine AW.run ck_Md_rosters [167, 161] 10 76 ?_
                    simp only [wR, wB, wE0, wE1, wE2, wE3, g0, gS, s10, s11, s1S, s20, s21, s2S, kl0, kl1, kl2, kl3, sp0, sp1, sp2, sp3, cn1, cn2, cn3, cn4, cn5, cn6, jJa, lk0, lk1, jmS, jmN, s4_0, s4_1, s4_2, s4_3, s4_4, sw0, sw1, cKs, cKn, true_and, and_true, List.map_cons, List.map_nil, Nat.reduceAdd, Nat.zero_add, Int.reduceAdd, Nat.reduceEqDiff, reduceIte, Classical.not_not, b_Md_rosters, shMd]
                    (repeat' (first | omega | (with_reducible exact True.intro) | exact ⟨by omega, by omega⟩ | (with_reducible exact Or.inr trivial) | (with_reducible exact Or.inl trivial) | (with_reducible assumption) | (with_reducible exact Same.refl) | (with_reducible rfl) | (with_reducible refine And.intro ?_ ?_) | (with_reducible intro _)))
                  | succ r' ihr =>
                    intro set b K hset h1 h2 h3
                    obtain ⟨e131, e132, _⟩ := h2 sk hsk3
                    obtain ⟨e126, e129⟩ := hrow K h1 sk hsk set (by omega)
                    have hst : ∀ g, stp' okf nxf g sk (set + 1) = stp' okf nxf g sk set + (if okf sk set = true then g (nxf sk set) else 0) := fun g => rfl
                    by_cases qz : a sk = 0
                    · have := a167 b K (some (vi set)) h1 h2 (fun g => by rw [h3, qz, Nat.zero_mul, Nat.zero_mul])
                      refine AW.run ck_Md_rosters [167, 161] 10 76 ?_
                      simp only [wR, wB, wE0, wE1, wE2, wE3, g0, gS, s10, s11, s1S, s20, s21, s2S, kl0, kl1, kl2, kl3, sp0, sp1, sp2, sp3, cn1, cn2, cn3, cn4, cn5, cn6, jJa, lk0, lk1, jmS, jmN, s4_0, s4_1, s4_2, s4_3, s4_4, sw0, sw1, cKs, cKn, true_and, and_true, List.map_cons, List.map_nil, Nat.reduceAdd, Nat.zero_add, Int.reduceAdd, Nat.reduceEqDiff, reduceIte, Classical.not_not, b_Md_rosters, shMd, e131, cmp3_le]
                      (repeat' (first | omega | (with_reducible exact True.intro) | exact ⟨by omega, by omega⟩ | (with_reducible exact Or.inr trivial) | (with_reducible exact Or.inl trivial) | (with_reducible assumption) | (with_reducible exact Same.refl) | (with_reducible rfl) | (with_reducible refine And.intro ?_ ?_) | (with_reducible intro _)))
                    · have a161 : ∀ (b : Nat → Nat) (K : AM), Same [131, 132] M1 K → (∀ x : Nat, x < 3125 → K 131 x = a x ∧ K 132 x = b x ∧ (b x ≠ 0 → x ∈ l)) → (∀ g, vm b g = sumN (fun j => a (l.getD j 0) * stp' okf nxf g (l.getD j 0) 32) k + a sk * stp' okf nxf g sk (set + 1)) → AW G d mi_Md_rosters Q 161 [some (vr 117), some (vi sd'), some (vi n), some (vi hr), some (vi k), some (vi sk), some (vi set)] [] K := by
                        intro b K g1 g2 g3
                        have := ihr (set + 1) b K (by omega) g1 g2 g3
                        refine AW.run ck_Md_rosters [76] 10 161 ?_
                        simp only [wR, wB, wE0, wE1, wE2, wE3, g0, gS, s10, s11, s1S, s20, s21, s2S, kl0, kl1, kl2, kl3, sp0, sp1, sp2, sp3, cn1, cn2, cn3, cn4, cn5, cn6, jJa, lk0, lk1, jmS, jmN, s4_0, s4_1, s4_2, s4_3, s4_4, sw0, sw1, cKs, cKn, true_and, and_true, List.map_cons, List.map_nil, Nat.reduceAdd, Nat.zero_add, Int.reduceAdd, Nat.reduceEqDiff, reduceIte, Classical.not_not, b_Md_rosters, ce]
                        (repeat' (first | omega | (with_reducible exact True.intro) | exact ⟨by omega, by omega⟩ | (with_reducible exact Or.inr trivial) | (with_reducible exact Or.inl trivial) | (with_reducible assumption) | (with_reducible exact Same.refl) | (with_reducible rfl) | (with_reducible refine And.intro ?_ ?_) | (with_reducible intro _)))
                      have no : okf sk set = false → AW G d mi_Md_rosters Q 161 [some (vr 117), some (vi sd'), some (vi n), some (vi hr), some (vi k), some (vi sk), some (vi set)] [] K := by
                        intro e
                        refine a161 b K h1 h2 (fun g => ?_)
                        rw [h3, hst, if_neg (by rw [e]; decide), Nat.add_zero]
                      refine AW.run ck_Md_rosters [167, 161] 10 76 ?_
                      simp only [wR, wB, wE0, wE1, wE2, wE3, g0, gS, s10, s11, s1S, s20, s21, s2S, kl0, kl1, kl2, kl3, sp0, sp1, sp2, sp3, cn1, cn2, cn3, cn4, cn5, cn6, jJa, lk0, lk1, jmS, jmN, s4_0, s4_1, s4_2, s4_3, s4_4, sw0, sw1, cKs, cKn, true_and, and_true, List.map_cons, List.map_nil, Nat.reduceAdd, Nat.zero_add, Int.reduceAdd, Nat.reduceEqDiff, reduceIte, Classical.not_not, b_Md_rosters, shMd, e131, e126, cmp3_le]
                      by_cases q : okP σ.h.P (sideS σ.m.sd σ.h.P sd') sk set = true
                      · rw [if_pos q]
                        have e2' := e129 q
                        have hnl : nxf sk set < 3125 := by rw [← hnxf]; exact nxt_lt hok
                        have hs3 : stood σ.h σ.m.sd σ.m.cold sk set ≤ 3 := stood_le
                        simp only [wR, wB, wE0, wE1, wE2, wE3, g0, gS, s10, s11, s1S, s20, s21, s2S, kl0, kl1, kl2, kl3, sp0, sp1, sp2, sp3, cn1, cn2, cn3, cn4, cn5, cn6, jJa, lk0, lk1, jmS, jmN, s4_0, s4_1, s4_2, s4_3, s4_4, sw0, sw1, cKs, cKn, true_and, and_true, List.map_cons, List.map_nil, Nat.reduceAdd, Nat.zero_add, Int.reduceAdd, Nat.reduceEqDiff, reduceIte, Classical.not_not, e2']
                        (repeat' (first | omega | (with_reducible exact True.intro) | exact ⟨by omega, by omega⟩ | (with_reducible exact Or.inr trivial) | (with_reducible exact Or.inl trivial) | (with_reducible assumption) | (with_reducible exact Same.refl) | (with_reducible rfl) | (with_reducible refine And.intro ?_ ?_) | (with_reducible intro _)))
                        refine MS.to (c_Md_isIn (a := stood σ.h σ.m.sd σ.m.cold sk set) (k := sd') (by omega) (by omega)) fun _ => ?_
                        rw [stood_bit hk]
                        by_cases q3 : σ.h.must ≤ hands σ.h σ.m.sd σ.m.cold sk set sd'
                        · rw [if_pos q3]
                          have eo := (hoI sk set q).mp q3
                          have e126' : K 126 (32 * (sk : Int) + set) = (nxf sk set : Int) := by rw [e126, if_pos q]
                          have e132' := (h2 (nxf sk set) hnl).2.1
                          have hb1 := vm_1 (b := b) hnl
                          have hst1 := stp'_le (ok := okf) (nx := nxf) (g := fun _ => 1) (s := sk) 1 (fun _ => Nat.le_refl _) set
                          have hb2 : a sk * stp' okf nxf (fun _ => 1) sk set ≤ 32 * a sk := by rw [Nat.mul_comm]; exact Nat.mul_le_mul_right _ (by omega)
                          have hb3 := h3 (fun _ => 1)
                          have hbb : b (nxf sk set) + a sk < 2 ^ 62 := by
                            have : sumN (fun j => a (l.getD j 0) * stp' okf nxf (fun _ => 1) (l.getD j 0) 32) k ≤ 32 * sumN (fun j => a (l.getD j 0)) k := hpre
                            rw [hsm] at hsl
                            have h32' : (32 : Nat) ^ 9 = 35184372088832 := by decide
                            omega
                          have key := a161 (ud b (nxf sk set) (b (nxf sk set) + a sk)) (up K 132 (nxf sk set) ((b (nxf sk set) : Int) + (a sk : Int))) (h1.up (by simp)) (fun x hx => by
                            rw [up_ne1 (by omega)]
                            refine ⟨(h2 x hx).1, ?_, fun hne => ?_⟩
                            · by_cases ex : x = nxf sk set
                              · subst ex; rw [up_eq, ud_eq]; rfl
                              · rw [up_ne2 (by omega), ud_ne ex]; exact (h2 x hx).2.1
                            · by_cases ex : x = nxf sk set
                              · rw [ex]; exact hcl sk set hsk (by omega) eo
                              · rw [ud_ne ex] at hne; exact (h2 x hx).2.2 hne) (fun g => by
                            rw [vm_add hnl, h3, hst, if_pos eo, Nat.mul_add]; omega)
                          simp only [wR, wB, wE0, wE1, wE2, wE3, g0, gS, s10, s11, s1S, s20, s21, s2S, kl0, kl1, kl2, kl3, sp0, sp1, sp2, sp3, cn1, cn2, cn3, cn4, cn5, cn6, jJa, lk0, lk1, jmS, jmN, s4_0, s4_1, s4_2, s4_3, s4_4, sw0, sw1, cKs, cKn, true_and, and_true, List.map_cons, List.map_nil, Nat.reduceAdd, Nat.zero_add, Int.reduceAdd, Nat.reduceEqDiff, reduceIte, Classical.not_not, b_Md_rosters, shMd, nc1, Int.reduceEq, not_true_eq_false, not_false_eq_true, false_imp_iff, true_imp_iff, and_self, e126', e132', e131]
                          (repeat' (first | omega | (with_reducible exact True.intro) | exact ⟨by omega, by omega⟩ | (with_reducible exact Or.inr trivial) | (with_reducible exact Or.inl trivial) | (with_reducible assumption) | (with_reducible exact Same.refl) | (with_reducible rfl) | (with_reducible refine And.intro ?_ ?_) | (with_reducible intro _)))
                        · rw [if_neg q3]
                          have := no (by
                            cases e : okf sk set with
                            | false => rfl
                            | true => exact absurd ((hoI sk set q).mpr e) q3)
                          simp only [wR, wB, wE0, wE1, wE2, wE3, g0, gS, s10, s11, s1S, s20, s21, s2S, kl0, kl1, kl2, kl3, sp0, sp1, sp2, sp3, cn1, cn2, cn3, cn4, cn5, cn6, jJa, lk0, lk1, jmS, jmN, s4_0, s4_1, s4_2, s4_3, s4_4, sw0, sw1, cKs, cKn, true_and, and_true, List.map_cons, List.map_nil, Nat.reduceAdd, Nat.zero_add, Int.reduceAdd, Nat.reduceEqDiff, reduceIte, Classical.not_not, b_Md_rosters, shMd, nc0, Int.reduceEq, not_true_eq_false, not_false_eq_true, false_imp_iff, true_imp_iff, and_self]
                          (repeat' (first | omega | (with_reducible exact True.intro) | exact ⟨by omega, by omega⟩ | (with_reducible exact Or.inr trivial) | (with_reducible exact Or.inl trivial) | (with_reducible assumption) | (with_reducible exact Same.refl) | (with_reducible rfl) | (with_reducible refine And.intro ?_ ?_) | (with_reducible intro _)))
                      · rw [if_neg q]
                        have := no (by
                          cases e : okf sk set with
                          | false => rfl
                          | true => exact absurd (hoP _ _ e) q)
                        (repeat' (first | omega | (with_reducible exact True.intro) | exact ⟨by omega, by omega⟩ | (with_reducible exact Or.inr trivial) | (with_reducible exact Or.inl trivial) | (with_reducible assumption) | (with_reducible exact Same.refl) | (with_reducible rfl) | (with_reducible refine And.intro ?_ ?_) | (with_reducible intro _)))
                have := l76 32 0 b K (by omega) hK hab (fun g => by rw [hval]; show _ = _ + a sk * 0; omega)
                refine AW.run ck_Md_rosters [76, 173] 10 55 ?_
                simp only [wR, wB, wE0, wE1, wE2, wE3, g0, gS, s10, s11, s1S, s20, s21, s2S, kl0, kl1, kl2, kl3, sp0, sp1, sp2, sp3, cn1, cn2, cn3, cn4, cn5, cn6, jJa, lk0, lk1, jmS, jmN, s4_0, s4_1, s4_2, s4_3, s4_4, sw0, sw1, cKs, cKn, true_and, and_true, List.map_cons, List.map_nil, Nat.reduceAdd, Nat.zero_add, Int.reduceAdd, Nat.reduceEqDiff, reduceIte, Classical.not_not, b_Md_rosters, shMd, e27, eK]
                (repeat' (first | omega | (with_reducible exact True.intro) | exact ⟨by omega, by omega⟩ | (with_reducible exact Or.inr trivial) | (with_reducible exact Or.inl trivial) | (with_reducible assumption) | (with_reducible exact Same.refl) | (with_reducible rfl) | (with_reducible refine And.intro ?_ ?_) | (with_reducible intro _)))
            have := l55 l.length 0 (fun _ => 0) K0 l5 l6 (by omega) hK0 (fun x hx => ⟨(ha0 x hx).1, (ha0 x hx).2.1, fun hne => absurd rfl hne⟩) (fun g => by
              unfold vm
              rw [sumN_0 3125 (fun p _ => by simp)]; rfl)
            refine AW.run ck_Md_rosters [55, 183] 10 47 ?_
            simp only [wR, wB, wE0, wE1, wE2, wE3, g0, gS, s10, s11, s1S, s20, s21, s2S, kl0, kl1, kl2, kl3, sp0, sp1, sp2, sp3, cn1, cn2, cn3, cn4, cn5, cn6, jJa, lk0, lk1, jmS, jmN, s4_0, s4_1, s4_2, s4_3, s4_4, sw0, sw1, cKs, cKn, true_and, and_true, List.map_cons, List.map_nil, Nat.reduceAdd, Nat.zero_add, Int.reduceAdd, Nat.reduceEqDiff, reduceIte, Classical.not_not, b_Md_rosters, shMd]
            (repeat' (first | omega | (with_reducible exact True.intro) | exact ⟨by omega, by omega⟩ | (with_reducible exact Or.inr trivial) | (with_reducible exact Or.inl trivial) | (with_reducible assumption) | (with_reducible exact Same.refl) | (with_reducible rfl) | (with_reducible refine And.intro ?_ ?_) | (with_reducible intro _)))
      refine l47 n 0 (fun s => if s = cod σ.m.st σ.h.P then 1 else 0) M2 _ _ _ (by omega) (b2.mono (by simp)) (fun x hx => ⟨?_, (b1 x hx).2, fun hne => ?_⟩) ?_ ?_
      · rw [(b1 x hx).1]; split <;> rfl
      · by_cases e : x = cod σ.m.st σ.h.P
        · rw [e]; exact hsin
        · exact absurd (if_neg e) hne
      · have e := sumN_upd (f := fun _ => 0) (g := fun s => (if s = cod σ.m.st σ.h.P then 1 else 0) * Wy (fun _ => okf) nxf n 0 s) (j := cod σ.m.st σ.h.P) (n := 3125) hs0 (fun x hx => by simp [hx])
        unfold vm
        rw [sumN_0 3125 (fun _ _ => rfl)] at e
        simp only [if_true, Nat.one_mul, Nat.zero_add, Nat.add_zero] at e
        rw [e]; exact hRR
      · have e := sumN_upd (f := fun _ => 0) (g := fun s => (if s = cod σ.m.st σ.h.P then 1 else 0) * 1) (j := cod σ.m.st σ.h.P) (n := 3125) hs0 (fun x hx => by simp [hx])
        unfold vm
        rw [sumN_0 3125 (fun _ _ => rfl)] at e
        simp only [if_true, Nat.one_mul, Nat.zero_add, Nat.add_zero] at e
        rw [e]; exact Nat.le_refl _
    · rw [if_neg q2] at hQ ⊢
      subst hQ
      (repeat' (first | omega | (with_reducible exact True.intro) | exact ⟨by omega, by omega⟩ | (with_reducible exact Or.inr trivial) | (with_reducible exact Or.inl trivial) | (with_reducible assumption) | (with_reducible exact Same.refl) | (with_reducible rfl) | (with_reducible refine And.intro ?_ ?_) | (with_reducible intro _)))
  · rw [if_neg q] at hQ ⊢
    subst hQ
    (repeat' (first | omega | (with_reducible exact True.intro) | exact ⟨by omega, by omega⟩ | (with_reducible exact Or.inr trivial) | (with_reducible exact Or.inl trivial) | (with_reducible assumption) | (with_reducible exact Same.refl) | (with_reducible rfl) | (with_reducible refine And.intro ?_ ?_) | (with_reducible intro _)))
end RS
