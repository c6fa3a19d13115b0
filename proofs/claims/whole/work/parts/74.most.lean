/-! most, needed: both -/
noncomputable def mostI (C : Nat → Bool) : Nat → Nat
  | 0 => 0
  | k + 1 => if C (k + 1) = true then k + 1 else mostI C k
theorem mostI_le {C : Nat → Bool} {a : Nat} : ∀ k, (∀ j, a < j → j ≤ a + k → C j = false) → mostI C (a + k) = mostI C a
  | 0, _ => rfl
  | k + 1, h => by
    rw [← Nat.add_assoc]
    simp only [mostI]
    rw [if_neg (by rw [h (a + k + 1) (by omega) (by omega)]; decide)]
    exact mostI_le k (fun j h1 h2 => h j h1 (by omega))
theorem mostI_bd (C : Nat → Bool) : ∀ k, mostI C k ≤ k
  | 0 => Nat.le_refl _
  | k + 1 => by
    have := mostI_bd C k
    simp only [mostI]
    split <;> omega
theorem cntP_sub {f g : Nat → Bool} : ∀ n, (∀ p, p < n → f p = true → g p = true) → cntP f n ≤ cntP g n
  | 0, _ => Nat.le_refl _
  | n + 1, h => by
    have ih := cntP_sub n (fun p hp => h p (by omega))
    have := h n (by omega)
    simp only [cntP]
    by_cases q : f n = true
    · rw [if_pos q, if_pos (this q)]; omega
    · rw [if_neg q]; split <;> omega
theorem hands_le {h : Hl} {sd : Nat → Nat} {cold s set side : Nat} (hP : h.P ≤ 5) : hands h sd cold s set side ≤ pop (sideS sd h.P side) := by
  unfold hands sideS
  rw [pop_bits hP]
  refine cntP_sub _ (fun p hp h => ?_)
  rw [Bool.and_eq_true, decide_eq_true_eq] at h
  rw [decide_eq_true_eq]; exact h.1.2
noncomputable def lastB (σ : Sg) (side pe must n : Nat) : Bool := cb (cnH (okH σ.h σ.m.sd σ.m.cold side pe must) (nxt σ.h σ.m.sd σ.m.cold) n (cod σ.m.st σ.h.P))
theorem lastB_no {σ : Sg} {side pe must n : Nat} (hP : σ.h.P ≤ 5) (hn : 1 ≤ n) (hm : pop (sideS σ.m.sd σ.h.P side) < must) : lastB σ side pe must n = false := by
  refine cb_f ?_
  obtain ⟨k, rfl⟩ : ∃ k, n = k + 1 := ⟨n - 1, by omega⟩
  rintro ⟨x, _, x2, _⟩
  have := (okH_P x2).2
  have := hands_le (h := σ.h) (sd := σ.m.sd) (cold := σ.m.cold) (s := cod σ.m.st σ.h.P) (set := x) (side := side) hP
  omega
noncomputable def aMost (σ : Sg) (side n : Int) : Int := if side = 0 ∨ side = 1 then (if 1 ≤ n ∧ n ≤ 20 then (mostI (fun must => lastB σ side.toNat (sideS σ.m.sd σ.h.P side.toNat) must n.toNat) 5 : Int) else -3) else -2
noncomputable def nedB (σ : Sg) (side n : Nat) : Nat := if lastB σ side (sideS σ.m.sd σ.h.P side) σ.h.must n = true then bitsP (fun p => decide (σ.m.sd p = side) && !lastB σ side (sideS σ.m.sd σ.h.P side &&& (31 ^^^ 2 ^ p)) σ.h.must n) σ.h.P else 0
noncomputable def aNeeded (σ : Sg) (side n : Int) : Int := if side = 0 ∨ side = 1 then (if 1 ≤ n ∧ n ≤ 20 then (nedB σ side.toNat n.toNat : Int) else -3) else -2
theorem sub_and {a b c : Nat} (h : sub a c) : sub (a &&& b) c := fun p hp => h p (and_bit.mp hp).1
section MO
variable {G : AG} {d : Nat} {M : AM}
theorem c_H_lastsFor {B side pe must n : Nat} {σ : Sg} (hd : 15 ≤ d) (ok : SgOK B σ) (hM : CM M 25 σ.h.P σ.m) (hS : StOK M σ.h σ.m.sd σ.m.cold (sideS σ.m.sd σ.h.P side)) (hpe : sub pe (sideS σ.m.sd σ.h.P side)) (h32 : pe < 32) :
    MS G d mi_H_lastsFor [vr 0, vi n, vi pe, vi must] M (fun r M' => r = some (vi (if lastB σ side pe must n = true then 1 else 0)) ∧ StOK M' σ.h σ.m.sd σ.m.cold (sideS σ.m.sd σ.h.P side) ∧ Same [33, 43, 44, 45, 46, 47, 48] M M') := by
  refine MS.by ck_H_lastsFor [some (vr 0), some (vi n), some (vi pe), some (vi must), none] fun _ _ => ?_
  refine AW.run ck_H_lastsFor [] 10 0 ?_
  simp only [wR, wB, wE0, wE1, wE2, wE3, g0, gS, s10, s11, s1S, s20, s21, s2S, kl0, kl1, kl2, kl3, sp0, sp1, sp2, sp3, cn1, cn2, cn3, cn4, cn5, cn6, jJa, lk0, lk1, jmS, jmN, s4_0, s4_1, s4_2, s4_3, s4_4, sw0, sw1, cKs, cKn, true_and, and_true, List.map_cons, List.map_nil, Nat.reduceAdd, Nat.zero_add, Int.reduceAdd, Nat.reduceEqDiff, reduceIte, Classical.not_not, b_H_lastsFor, shH]
  refine ⟨by omega, (c_H_longest (d := d - 1) (by omega) ok hM hS hpe h32).mono ?_⟩
  rintro r M1 okM1 ⟨rfl, u0, u1, u2⟩
  simp only [wR, wB, wE0, wE1, wE2, wE3, g0, gS, s10, s11, s1S, s20, s21, s2S, kl0, kl1, kl2, kl3, sp0, sp1, sp2, sp3, cn1, cn2, cn3, cn4, cn5, cn6, jJa, lk0, lk1, jmS, jmN, s4_0, s4_1, s4_2, s4_3, s4_4, sw0, sw1, cKs, cKn, true_and, and_true, List.map_cons, List.map_nil, Nat.reduceAdd, Nat.zero_add, Int.reduceAdd, Nat.reduceEqDiff, reduceIte, Classical.not_not, b_H_lastsFor]
  rcases hldI_S (ok := okH σ.h σ.m.sd σ.m.cold side pe must) (nx := nxt σ.h σ.m.sd σ.m.cold) (cod σ.m.st σ.h.P) with ⟨v, e, hv⟩ | ⟨e, hev⟩
  · rw [e]
    by_cases q : n ≤ v
    · have : lastB σ side pe must n = true := cb_iff.mpr (cnH_le _ _ (n := n) (v - n) (by rw [show n + (v - n) = v by omega]; exact hv.1))
      rw [if_pos this]
      (repeat' (first | omega | (with_reducible exact True.intro) | exact ⟨by omega, by omega⟩ | (with_reducible exact Or.inr trivial) | (with_reducible exact Or.inl trivial) | (with_reducible assumption) | (with_reducible exact Same.refl) | (with_reducible rfl) | (with_reducible refine And.intro ?_ ?_) | (with_reducible intro _)))
    · have : lastB σ side pe must n = false := cb_f (fun h => hv.2 (cnH_le _ _ (n := v + 1) (n - (v + 1)) (by rw [show v + 1 + (n - (v + 1)) = n by omega]; exact h)))
      rw [if_neg (by rw [this]; decide)]
      (repeat' (first | omega | (with_reducible exact True.intro) | exact ⟨by omega, by omega⟩ | (with_reducible exact Or.inr trivial) | (with_reducible exact Or.inl trivial) | (with_reducible assumption) | (with_reducible exact Same.refl) | (with_reducible rfl) | (with_reducible refine And.intro ?_ ?_) | (with_reducible intro _)))
  · rw [e]
    have : lastB σ side pe must n = true := cb_iff.mpr (hev n)
    rw [if_pos this]
    (repeat' (first | omega | (with_reducible exact True.intro) | exact ⟨by omega, by omega⟩ | (with_reducible exact Or.inr trivial) | (with_reducible exact Or.inl trivial) | (with_reducible assumption) | (with_reducible exact Same.refl) | (with_reducible rfl) | (with_reducible refine And.intro ?_ ?_) | (with_reducible intro _)))
theorem c_H_most {side n : Int} {B : Nat} {σ : Sg} (hd : 20 ≤ d) (ok : SgOK B σ) (hR : CR M σ) : MS G d mi_H_most [vr 0, vi side, vi n] M (fun r M' => r = some (vi (aMost σ side n)) ∧ CR M' σ ∧ Hi M M') := by
  obtain ⟨z, hs, hM, hp, hT⟩ := hR.z
  have hok := ok.2.2.1
  have hP := hok.1
  have mok := ok.2.2.2.1.1
  refine MS.by ck_H_most [some (vr 0), some (vi side), some (vi n), none, none] fun _ _ => ?_
  generalize hQ : (fun (r : Option AV) (M' : AM) => r = some (vi (aMost σ side n)) ∧ CR M' σ ∧ Hi M M') = Q
  unfold aMost at hQ
  refine AW.run ck_H_most [10] 10 0 ?_
  simp only [wR, wB, wE0, wE1, wE2, wE3, g0, gS, s10, s11, s1S, s20, s21, s2S, kl0, kl1, kl2, kl3, sp0, sp1, sp2, sp3, cn1, cn2, cn3, cn4, cn5, cn6, jJa, lk0, lk1, jmS, jmN, s4_0, s4_1, s4_2, s4_3, s4_4, sw0, sw1, cKs, cKn, true_and, and_true, List.map_cons, List.map_nil, Nat.reduceAdd, Nat.zero_add, Int.reduceAdd, Nat.reduceEqDiff, reduceIte, Classical.not_not, b_H_most, shH]
  refine ⟨by omega, MS.to c_H_isSide fun _ => ?_⟩
  simp only [wR, wB, wE0, wE1, wE2, wE3, g0, gS, s10, s11, s1S, s20, s21, s2S, kl0, kl1, kl2, kl3, sp0, sp1, sp2, sp3, cn1, cn2, cn3, cn4, cn5, cn6, jJa, lk0, lk1, jmS, jmN, s4_0, s4_1, s4_2, s4_3, s4_4, sw0, sw1, cKs, cKn, true_and, and_true, List.map_cons, List.map_nil, Nat.reduceAdd, Nat.zero_add, Int.reduceAdd, Nat.reduceEqDiff, reduceIte, Classical.not_not, b_H_most, shH]
  by_cases q : side = 0 ∨ side = 1
  · rw [if_pos q] at hQ ⊢
    obtain ⟨k, rfl, hk⟩ := side_n q
    rw [Int.toNat_natCast] at hQ
    (repeat' (first | omega | (with_reducible exact True.intro) | exact ⟨by omega, by omega⟩ | (with_reducible exact Or.inr trivial) | (with_reducible exact Or.inl trivial) | (with_reducible assumption) | (with_reducible exact Same.refl) | (with_reducible rfl) | (with_reducible refine And.intro ?_ ?_) | (with_reducible intro _)))
    by_cases q2 : 1 ≤ n ∧ n ≤ 20
    · rw [if_pos q2] at hQ
      obtain ⟨j, rfl⟩ := Int.eq_ofNat_of_zero_le (show 0 ≤ n by omega)
      rw [Int.toNat_natCast] at hQ
      have hW := sideS_lt (sd := σ.m.sd) (k := k) hP
      have hp5 := pop_le hW
      have hres := mostI_le (C := fun must => lastB σ k (sideS σ.m.sd σ.h.P k) must j) (a := pop (sideS σ.m.sd σ.h.P k)) (5 - pop (sideS σ.m.sd σ.h.P k)) (fun x h1 h2 => lastB_no hP (by omega) h1)
      rw [show pop (sideS σ.m.sd σ.h.P k) + (5 - pop (sideS σ.m.sd σ.h.P k)) = 5 by omega] at hres
      rw [hres] at hQ
      refine AW.run ck_H_most [21, 36] 10 10 ?_
      simp only [wR, wB, wE0, wE1, wE2, wE3, g0, gS, s10, s11, s1S, s20, s21, s2S, kl0, kl1, kl2, kl3, sp0, sp1, sp2, sp3, cn1, cn2, cn3, cn4, cn5, cn6, jJa, lk0, lk1, jmS, jmN, s4_0, s4_1, s4_2, s4_3, s4_4, sw0, sw1, cKs, cKn, true_and, and_true, List.map_cons, List.map_nil, Nat.reduceAdd, Nat.zero_add, Int.reduceAdd, Nat.reduceEqDiff, reduceIte, Classical.not_not, b_H_most, shH]
      (repeat' (first | omega | (with_reducible exact True.intro) | exact ⟨by omega, by omega⟩ | (with_reducible exact Or.inr trivial) | (with_reducible exact Or.inl trivial) | (with_reducible assumption) | (with_reducible exact Same.refl) | (with_reducible rfl) | (with_reducible refine And.intro ?_ ?_) | (with_reducible intro _)))
      refine (c_H_aimAtSide (d := d - 1) (by omega) ok hR hk).mono ?_
      rintro r M1 okM1 ⟨rfl, u1, u2⟩
      have hM1 := hM.eq (u2 _ (by omega)) (u2 _ (by omega))
      simp only [wR, wB, wE0, wE1, wE2, wE3, g0, gS, s10, s11, s1S, s20, s21, s2S, kl0, kl1, kl2, kl3, sp0, sp1, sp2, sp3, cn1, cn2, cn3, cn4, cn5, cn6, jJa, lk0, lk1, jmS, jmN, s4_0, s4_1, s4_2, s4_3, s4_4, sw0, sw1, cKs, cKn, true_and, and_true, List.map_cons, List.map_nil, Nat.reduceAdd, Nat.zero_add, Int.reduceAdd, Nat.reduceEqDiff, reduceIte, Classical.not_not, b_H_most, shH]
      refine ⟨by omega, MS.to (c_JI_bitCount hW) fun _ => ?_⟩
      simp only [wR, wB, wE0, wE1, wE2, wE3, g0, gS, s10, s11, s1S, s20, s21, s2S, kl0, kl1, kl2, kl3, sp0, sp1, sp2, sp3, cn1, cn2, cn3, cn4, cn5, cn6, jJa, lk0, lk1, jmS, jmN, s4_0, s4_1, s4_2, s4_3, s4_4, sw0, sw1, cKs, cKn, true_and, and_true, List.map_cons, List.map_nil, Nat.reduceAdd, Nat.zero_add, Int.reduceAdd, Nat.reduceEqDiff, reduceIte, Classical.not_not, b_H_most, shH]
      have loop : ∀ (x : Nat) (N : AM), mostI (fun must => lastB σ k (sideS σ.m.sd σ.h.P k) must j) (pop (sideS σ.m.sd σ.h.P k)) = mostI (fun must => lastB σ k (sideS σ.m.sd σ.h.P k) must j) x → x ≤ 5 → StOK N σ.h σ.m.sd σ.m.cold (sideS σ.m.sd σ.h.P k) → Same [33, 43, 44, 45, 46, 47, 48] M1 N → AW G d mi_H_most Q 36 [some (vr 0), some (vi k), some (vi j), some (vi (sideS σ.m.sd σ.h.P k)), some (vi x)] [] N := by
        intro x
        induction x with
        | zero =>
          intro N hx hx5 hS hN
          refine AW.run ck_H_most [] 10 36 ?_
          simp only [wR, wB, wE0, wE1, wE2, wE3, g0, gS, s10, s11, s1S, s20, s21, s2S, kl0, kl1, kl2, kl3, sp0, sp1, sp2, sp3, cn1, cn2, cn3, cn4, cn5, cn6, jJa, lk0, lk1, jmS, jmN, s4_0, s4_1, s4_2, s4_3, s4_4, sw0, sw1, cKs, cKn, true_and, and_true, List.map_cons, List.map_nil, Nat.reduceAdd, Nat.zero_add, Int.reduceAdd, Nat.reduceEqDiff, reduceIte, Classical.not_not, b_H_most, nc0]
          have hsc := u2.trans (Scr.watch hN)
          have hcr := hR.aim hsc (fun p _ => (mok.1 p).1) hS
          have hhi := hsc.hi
          rw [hx] at hQ
          subst hQ
          simp only [mostI, nc0]
          (repeat' (first | omega | (with_reducible exact True.intro) | exact ⟨by omega, by omega⟩ | (with_reducible exact Or.inr trivial) | (with_reducible exact Or.inl trivial) | (with_reducible assumption) | (with_reducible exact Same.refl) | (with_reducible rfl) | (with_reducible refine And.intro ?_ ?_) | (with_reducible intro _)))
        | succ x ih =>
          intro N hx hx5 hS hN
          refine AW.run ck_H_most [36] 10 36 ?_
          simp only [wR, wB, wE0, wE1, wE2, wE3, g0, gS, s10, s11, s1S, s20, s21, s2S, kl0, kl1, kl2, kl3, sp0, sp1, sp2, sp3, cn1, cn2, cn3, cn4, cn5, cn6, jJa, lk0, lk1, jmS, jmN, s4_0, s4_1, s4_2, s4_3, s4_4, sw0, sw1, cKs, cKn, true_and, and_true, List.map_cons, List.map_nil, Nat.reduceAdd, Nat.zero_add, Int.reduceAdd, Nat.reduceEqDiff, reduceIte, Classical.not_not, b_H_most, shH]
          (repeat' (first | omega | (with_reducible exact True.intro) | exact ⟨by omega, by omega⟩ | (with_reducible exact Or.inr trivial) | (with_reducible exact Or.inl trivial) | (with_reducible assumption) | (with_reducible exact Same.refl) | (with_reducible rfl) | (with_reducible refine And.intro ?_ ?_) | (with_reducible intro _)))
          refine (c_H_lastsFor (d := d - 1) (by omega) ok (hM1.eq (hN _ (by (first | decide | (simp only [List.mem_cons, List.not_mem_nil, or_false, not_or, not_false_eq_true, and_true]; omega) | (simp [List.mem_cons]; done)))) (hN _ (by (first | decide | (simp only [List.mem_cons, List.not_mem_nil, or_false, not_or, not_false_eq_true, and_true]; omega) | (simp [List.mem_cons]; done))))) hS sub_refl hW).mono ?_
          rintro r N2 okN2 ⟨rfl, v1, v2⟩
          simp only [wR, wB, wE0, wE1, wE2, wE3, g0, gS, s10, s11, s1S, s20, s21, s2S, kl0, kl1, kl2, kl3, sp0, sp1, sp2, sp3, cn1, cn2, cn3, cn4, cn5, cn6, jJa, lk0, lk1, jmS, jmN, s4_0, s4_1, s4_2, s4_3, s4_4, sw0, sw1, cKs, cKn, true_and, and_true, List.map_cons, List.map_nil, Nat.reduceAdd, Nat.zero_add, Int.reduceAdd, Nat.reduceEqDiff, reduceIte, Classical.not_not, b_H_most, shH]
          have hsc := u2.trans (Scr.watch (hN.trans v2))
          have hcr := hR.aim hsc (fun p _ => (mok.1 p).1) v1
          have hhi := hsc.hi
          by_cases qc : lastB σ k (sideS σ.m.sd σ.h.P k) (x + 1) j = true
          · rw [if_pos qc]
            rw [hx] at hQ
            subst hQ
            simp only [mostI]
            rw [if_pos qc]
            (repeat' (first | omega | (with_reducible exact True.intro) | exact ⟨by omega, by omega⟩ | (with_reducible exact Or.inr trivial) | (with_reducible exact Or.inl trivial) | (with_reducible assumption) | (with_reducible exact Same.refl) | (with_reducible rfl) | (with_reducible refine And.intro ?_ ?_) | (with_reducible intro _)))
          · rw [if_neg qc]
            have := ih N2 (by rw [hx]; simp only [mostI]; rw [if_neg qc]) (by omega) v1 (hN.trans v2)
            rw [show (x : Int) = ((x + 1 : Nat) : Int) - 1 by omega] at this
            (repeat' (first | omega | (with_reducible exact True.intro) | exact ⟨by omega, by omega⟩ | (with_reducible exact Or.inr trivial) | (with_reducible exact Or.inl trivial) | (with_reducible assumption) | (with_reducible exact Same.refl) | (with_reducible rfl) | (with_reducible refine And.intro ?_ ?_) | (with_reducible intro _)))
      exact loop _ M1 rfl hp5 u1 Same.refl
    · rw [if_neg q2] at hQ
      have a21 : AW G d mi_H_most Q 21 [some (vr 0), some (vi k), some (vi n), none, none] [] M := by
        refine AW.run ck_H_most [] 10 21 ?_
        simp only [wR, wB, wE0, wE1, wE2, wE3, g0, gS, s10, s11, s1S, s20, s21, s2S, kl0, kl1, kl2, kl3, sp0, sp1, sp2, sp3, cn1, cn2, cn3, cn4, cn5, cn6, jJa, lk0, lk1, jmS, jmN, s4_0, s4_1, s4_2, s4_3, s4_4, sw0, sw1, cKs, cKn, true_and, and_true, List.map_cons, List.map_nil, Nat.reduceAdd, Nat.zero_add, Int.reduceAdd, Nat.reduceEqDiff, reduceIte, Classical.not_not, b_H_most]
        subst hQ
        exact ⟨rfl, hR, Hi.refl⟩
      refine AW.run ck_H_most [21, 24] 10 10 ?_
      simp only [wR, wB, wE0, wE1, wE2, wE3, g0, gS, s10, s11, s1S, s20, s21, s2S, kl0, kl1, kl2, kl3, sp0, sp1, sp2, sp3, cn1, cn2, cn3, cn4, cn5, cn6, jJa, lk0, lk1, jmS, jmN, s4_0, s4_1, s4_2, s4_3, s4_4, sw0, sw1, cKs, cKn, true_and, and_true, List.map_cons, List.map_nil, Nat.reduceAdd, Nat.zero_add, Int.reduceAdd, Nat.reduceEqDiff, reduceIte, Classical.not_not, b_H_most, shH]
      (repeat' (first | omega | (with_reducible exact True.intro) | exact ⟨by omega, by omega⟩ | (with_reducible exact Or.inr trivial) | (with_reducible exact Or.inl trivial) | (with_reducible assumption) | (with_reducible exact Same.refl) | (with_reducible rfl) | (with_reducible refine And.intro ?_ ?_) | (with_reducible intro _)))
  · rw [if_neg q] at hQ ⊢
    subst hQ
    have := Hi.refl (M := M)
    (repeat' (first | omega | (with_reducible exact True.intro) | exact ⟨by omega, by omega⟩ | (with_reducible exact Or.inr trivial) | (with_reducible exact Or.inl trivial) | (with_reducible assumption) | (with_reducible exact Same.refl) | (with_reducible rfl) | (with_reducible refine And.intro ?_ ?_) | (with_reducible intro _)))
theorem MR.lay3 {M N : AM} {σ : Sg} (h : MR M σ) (hs : Same [117, 122, 123, 125, 126, 129, 130, 131, 132] M N) (hf : ∀ y : Int, y ≠ 27 → N 117 y = M 117 y) : MR N σ ∧ Lo M N := ⟨h.eq (hf _ (by omega)) (hf _ (by omega)) (hf _ (by omega)) (fun x hx => hs x (by (first | decide | (simp only [List.mem_cons, List.not_mem_nil, or_false, not_or, not_false_eq_true, and_true]; omega) | (simp [List.mem_cons]; done)))), hs.lo (by intro x hx; simp only [List.mem_cons, List.not_mem_nil, or_false] at hx; omega)⟩
theorem c_Md_most {side n : Int} {B : Nat} {σ : Sg} (hd : 30 ≤ d) (ok : SgOK B σ) (hR : MR M σ) : MS G d mi_Md_most [vr 117, vi side, vi n] M (fun r M' => r = some (vi (aMost σ side n)) ∧ MR M' σ ∧ Lo M M') := by
  have hR' := hR.thr
  have hok := ok.2.2.1
  have hP := hok.1
  have mok := ok.2.2.2.1.1
  refine MS.by ck_Md_most [some (vr 117), some (vi side), some (vi n), none] fun _ _ => ?_
  generalize hQ : (fun (r : Option AV) (M' : AM) => r = some (vi (aMost σ side n)) ∧ MR M' σ ∧ Lo M M') = Q
  refine AW.run ck_Md_most [15] 10 0 ?_
  simp only [wR, wB, wE0, wE1, wE2, wE3, g0, gS, s10, s11, s1S, s20, s21, s2S, kl0, kl1, kl2, kl3, sp0, sp1, sp2, sp3, cn1, cn2, cn3, cn4, cn5, cn6, jJa, lk0, lk1, jmS, jmN, s4_0, s4_1, s4_2, s4_3, s4_4, sw0, sw1, cKs, cKn, true_and, and_true, List.map_cons, List.map_nil, Nat.reduceAdd, Nat.zero_add, Int.reduceAdd, Nat.reduceEqDiff, reduceIte, Classical.not_not, b_Md_most, shMd]
  have hlo : Lo M (up M 117 0 0) := thr_lo
  generalize up M 117 0 0 = N at hR' hlo ⊢
  refine ⟨by omega, MS.to (c_Md_isSide (d := d - 1) (by omega)) fun _ => ?_⟩
  simp only [wR, wB, wE0, wE1, wE2, wE3, g0, gS, s10, s11, s1S, s20, s21, s2S, kl0, kl1, kl2, kl3, sp0, sp1, sp2, sp3, cn1, cn2, cn3, cn4, cn5, cn6, jJa, lk0, lk1, jmS, jmN, s4_0, s4_1, s4_2, s4_3, s4_4, sw0, sw1, cKs, cKn, true_and, and_true, List.map_cons, List.map_nil, Nat.reduceAdd, Nat.zero_add, Int.reduceAdd, Nat.reduceEqDiff, reduceIte, Classical.not_not, b_Md_most, shMd]
  unfold aMost at hQ
  by_cases q : side = 0 ∨ side = 1
  · rw [if_pos q] at hQ ⊢
    obtain ⟨k, rfl, hk⟩ := side_n q
    rw [Int.toNat_natCast] at hQ
    (repeat' (first | omega | (with_reducible exact True.intro) | exact ⟨by omega, by omega⟩ | (with_reducible exact Or.inr trivial) | (with_reducible exact Or.inl trivial) | (with_reducible assumption) | (with_reducible exact Same.refl) | (with_reducible rfl) | (with_reducible refine And.intro ?_ ?_) | (with_reducible intro _)))
    refine AW.run ck_Md_most [30] 10 15 ?_
    simp only [wR, wB, wE0, wE1, wE2, wE3, g0, gS, s10, s11, s1S, s20, s21, s2S, kl0, kl1, kl2, kl3, sp0, sp1, sp2, sp3, cn1, cn2, cn3, cn4, cn5, cn6, jJa, lk0, lk1, jmS, jmN, s4_0, s4_1, s4_2, s4_3, s4_4, sw0, sw1, cKs, cKn, true_and, and_true, List.map_cons, List.map_nil, Nat.reduceAdd, Nat.zero_add, Int.reduceAdd, Nat.reduceEqDiff, reduceIte, Classical.not_not, b_Md_most, shMd]
    refine ⟨by omega, MS.to c_Md_within fun _ => ?_⟩
    simp only [wR, wB, wE0, wE1, wE2, wE3, g0, gS, s10, s11, s1S, s20, s21, s2S, kl0, kl1, kl2, kl3, sp0, sp1, sp2, sp3, cn1, cn2, cn3, cn4, cn5, cn6, jJa, lk0, lk1, jmS, jmN, s4_0, s4_1, s4_2, s4_3, s4_4, sw0, sw1, cKs, cKn, true_and, and_true, List.map_cons, List.map_nil, Nat.reduceAdd, Nat.zero_add, Int.reduceAdd, Nat.reduceEqDiff, reduceIte, Classical.not_not, b_Md_most, shMd]
    by_cases q2 : 1 ≤ n ∧ n ≤ 20
    · rw [if_pos q2] at hQ ⊢
      obtain ⟨j, rfl⟩ := Int.eq_ofNat_of_zero_le (show 0 ≤ n by omega)
      rw [Int.toNat_natCast] at hQ
      have loop : ∀ (x : Nat) (K : AM), mostI (fun must => lastB σ k (sideS σ.m.sd σ.h.P k) must j) 5 = mostI (fun must => lastB σ k (sideS σ.m.sd σ.h.P k) must j) x → x ≤ 5 → MR K σ → Lo M K → AW G d mi_Md_most Q 32 [some (vr 117), some (vi k), some (vi j), some (vi x)] [] K := by
        intro x
        induction x with
        | zero =>
          intro K hx hx5 hK hl
          refine AW.run ck_Md_most [57] 10 32 ?_
          simp only [wR, wB, wE0, wE1, wE2, wE3, g0, gS, s10, s11, s1S, s20, s21, s2S, kl0, kl1, kl2, kl3, sp0, sp1, sp2, sp3, cn1, cn2, cn3, cn4, cn5, cn6, jJa, lk0, lk1, jmS, jmN, s4_0, s4_1, s4_2, s4_3, s4_4, sw0, sw1, cKs, cKn, true_and, and_true, List.map_cons, List.map_nil, Nat.reduceAdd, Nat.zero_add, Int.reduceAdd, Nat.reduceEqDiff, reduceIte, Classical.not_not, b_Md_most, nc0]
          rw [hx] at hQ
          subst hQ
          simp only [mostI, nc0]
          (repeat' (first | omega | (with_reducible exact True.intro) | exact ⟨by omega, by omega⟩ | (with_reducible exact Or.inr trivial) | (with_reducible exact Or.inl trivial) | (with_reducible assumption) | (with_reducible exact Same.refl) | (with_reducible rfl) | (with_reducible refine And.intro ?_ ?_) | (with_reducible intro _)))
          refine AW.run ck_Md_most [] 10 57 ?_
          simp only [wR, wB, wE0, wE1, wE2, wE3, g0, gS, s10, s11, s1S, s20, s21, s2S, kl0, kl1, kl2, kl3, sp0, sp1, sp2, sp3, cn1, cn2, cn3, cn4, cn5, cn6, jJa, lk0, lk1, jmS, jmN, s4_0, s4_1, s4_2, s4_3, s4_4, sw0, sw1, cKs, cKn, true_and, and_true, List.map_cons, List.map_nil, Nat.reduceAdd, Nat.zero_add, Int.reduceAdd, Nat.reduceEqDiff, reduceIte, Classical.not_not, b_Md_most, nc0]
          (repeat' (first | omega | (with_reducible exact True.intro) | exact ⟨by omega, by omega⟩ | (with_reducible exact Or.inr trivial) | (with_reducible exact Or.inl trivial) | (with_reducible assumption) | (with_reducible exact Same.refl) | (with_reducible rfl) | (with_reducible refine And.intro ?_ ?_) | (with_reducible intro _)))
        | succ x ih =>
          intro K hx hx5 hK hl
          obtain ⟨hH, hm, -⟩ := hK.past
          refine AW.run ck_Md_most [32, 57] 10 32 ?_
          simp only [wR, wB, wE0, wE1, wE2, wE3, g0, gS, s10, s11, s1S, s20, s21, s2S, kl0, kl1, kl2, kl3, sp0, sp1, sp2, sp3, cn1, cn2, cn3, cn4, cn5, cn6, jJa, lk0, lk1, jmS, jmN, s4_0, s4_1, s4_2, s4_3, s4_4, sw0, sw1, cKs, cKn, true_and, and_true, List.map_cons, List.map_nil, Nat.reduceAdd, Nat.zero_add, Int.reduceAdd, Nat.reduceEqDiff, reduceIte, Classical.not_not, b_Md_most, shMd]
          (repeat' (first | omega | (with_reducible exact True.intro) | exact ⟨by omega, by omega⟩ | (with_reducible exact Or.inr trivial) | (with_reducible exact Or.inl trivial) | (with_reducible assumption) | (with_reducible exact Same.refl) | (with_reducible rfl) | (with_reducible refine And.intro ?_ ?_) | (with_reducible intro _)))
          refine MS.to (c_Md_sideOf (sd := σ.m.sd) (s := k) hH.2.1 hP (fun p hp => (hm.sd mok p hp).1)) fun _ => ?_
          simp only [wR, wB, wE0, wE1, wE2, wE3, g0, gS, s10, s11, s1S, s20, s21, s2S, kl0, kl1, kl2, kl3, sp0, sp1, sp2, sp3, cn1, cn2, cn3, cn4, cn5, cn6, jJa, lk0, lk1, jmS, jmN, s4_0, s4_1, s4_2, s4_3, s4_4, sw0, sw1, cKs, cKn, true_and, and_true, List.map_cons, List.map_nil, Nat.reduceAdd, Nat.zero_add, Int.reduceAdd, Nat.reduceEqDiff, reduceIte, Classical.not_not, b_Md_most, shMd]
          refine ⟨by omega, (c_Md_canHold (d := d - 1) (side := k) (pe := sideS σ.m.sd σ.h.P k) (must := x + 1) (n := j) (by omega) hok mok hH hm (sideS_lt hP) (by omega)).mono ?_⟩
          rintro r K2 okK2 ⟨rfl, u1, u2⟩
          obtain ⟨c1, c2⟩ := hK.lay3 u1 u2
          have c3 := hl.trans c2
          rw [show cb (cnH (okH σ.h σ.m.sd σ.m.cold k (sideS σ.m.sd σ.h.P k) (x + 1)) (nxt σ.h σ.m.sd σ.m.cold) j (cod σ.m.st σ.h.P)) = lastB σ k (sideS σ.m.sd σ.h.P k) (x + 1) j from rfl]
          simp only [wR, wB, wE0, wE1, wE2, wE3, g0, gS, s10, s11, s1S, s20, s21, s2S, kl0, kl1, kl2, kl3, sp0, sp1, sp2, sp3, cn1, cn2, cn3, cn4, cn5, cn6, jJa, lk0, lk1, jmS, jmN, s4_0, s4_1, s4_2, s4_3, s4_4, sw0, sw1, cKs, cKn, true_and, and_true, List.map_cons, List.map_nil, Nat.reduceAdd, Nat.zero_add, Int.reduceAdd, Nat.reduceEqDiff, reduceIte, Classical.not_not, b_Md_most, shMd]
          by_cases qc : lastB σ k (sideS σ.m.sd σ.h.P k) (x + 1) j = true
          · rw [if_pos qc]
            rw [hx] at hQ
            (repeat' (first | omega | (with_reducible exact True.intro) | exact ⟨by omega, by omega⟩ | (with_reducible exact Or.inr trivial) | (with_reducible exact Or.inl trivial) | (with_reducible assumption) | (with_reducible exact Same.refl) | (with_reducible rfl) | (with_reducible refine And.intro ?_ ?_) | (with_reducible intro _)))
            refine AW.run ck_Md_most [] 10 57 ?_
            simp only [wR, wB, wE0, wE1, wE2, wE3, g0, gS, s10, s11, s1S, s20, s21, s2S, kl0, kl1, kl2, kl3, sp0, sp1, sp2, sp3, cn1, cn2, cn3, cn4, cn5, cn6, jJa, lk0, lk1, jmS, jmN, s4_0, s4_1, s4_2, s4_3, s4_4, sw0, sw1, cKs, cKn, true_and, and_true, List.map_cons, List.map_nil, Nat.reduceAdd, Nat.zero_add, Int.reduceAdd, Nat.reduceEqDiff, reduceIte, Classical.not_not, b_Md_most]
            subst hQ
            simp only [mostI]
            rw [if_pos qc]
            (repeat' (first | omega | (with_reducible exact True.intro) | exact ⟨by omega, by omega⟩ | (with_reducible exact Or.inr trivial) | (with_reducible exact Or.inl trivial) | (with_reducible assumption) | (with_reducible exact Same.refl) | (with_reducible rfl) | (with_reducible refine And.intro ?_ ?_) | (with_reducible intro _)))
          · rw [if_neg qc]
            have := ih K2 (by rw [hx]; simp only [mostI]; rw [if_neg qc]) (by omega) c1 c3
            rw [show (x : Int) = ((x + 1 : Nat) : Int) + -1 by omega] at this
            (repeat' (first | omega | (with_reducible exact True.intro) | exact ⟨by omega, by omega⟩ | (with_reducible exact Or.inr trivial) | (with_reducible exact Or.inl trivial) | (with_reducible assumption) | (with_reducible exact Same.refl) | (with_reducible rfl) | (with_reducible refine And.intro ?_ ?_) | (with_reducible intro _)))
      have := loop 5 N rfl (Nat.le_refl _) hR' hlo
      rw [nc5] at this
      (repeat' (first | omega | (with_reducible exact True.intro) | exact ⟨by omega, by omega⟩ | (with_reducible exact Or.inr trivial) | (with_reducible exact Or.inl trivial) | (with_reducible assumption) | (with_reducible exact Same.refl) | (with_reducible rfl) | (with_reducible refine And.intro ?_ ?_) | (with_reducible intro _)))
      refine AW.run ck_Md_most [32] 10 30 ?_
      simp only [wR, wB, wE0, wE1, wE2, wE3, g0, gS, s10, s11, s1S, s20, s21, s2S, kl0, kl1, kl2, kl3, sp0, sp1, sp2, sp3, cn1, cn2, cn3, cn4, cn5, cn6, jJa, lk0, lk1, jmS, jmN, s4_0, s4_1, s4_2, s4_3, s4_4, sw0, sw1, cKs, cKn, true_and, and_true, List.map_cons, List.map_nil, Nat.reduceAdd, Nat.zero_add, Int.reduceAdd, Nat.reduceEqDiff, reduceIte, Classical.not_not, b_Md_most]
      (repeat' (first | omega | (with_reducible exact True.intro) | exact ⟨by omega, by omega⟩ | (with_reducible exact Or.inr trivial) | (with_reducible exact Or.inl trivial) | (with_reducible assumption) | (with_reducible exact Same.refl) | (with_reducible rfl) | (with_reducible refine And.intro ?_ ?_) | (with_reducible intro _)))
    · rw [if_neg q2] at hQ ⊢
      subst hQ
      (repeat' (first | omega | (with_reducible exact True.intro) | exact ⟨by omega, by omega⟩ | (with_reducible exact Or.inr trivial) | (with_reducible exact Or.inl trivial) | (with_reducible assumption) | (with_reducible exact Same.refl) | (with_reducible rfl) | (with_reducible refine And.intro ?_ ?_) | (with_reducible intro _)))
  · rw [if_neg q] at hQ ⊢
    subst hQ
    (repeat' (first | omega | (with_reducible exact True.intro) | exact ⟨by omega, by omega⟩ | (with_reducible exact Or.inr trivial) | (with_reducible exact Or.inl trivial) | (with_reducible assumption) | (with_reducible exact Same.refl) | (with_reducible rfl) | (with_reducible refine And.intro ?_ ?_) | (with_reducible intro _)))
end MO
