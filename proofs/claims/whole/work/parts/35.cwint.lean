/-! told deeds, winters -/
theorem ush16 (x : Int) : 0 ≤ bUshr x 16 ∧ bUshr x 16 < 65536 := by
  unfold bUshr
  have h := pk_ushr (i3 x) (i3 16) 16 (by decide +kernel)
  generalize ((i3 x).toUInt32 >>> ((i3 16).toUInt32 &&& Int32.toUInt32 31)).toInt32 = w at h ⊢
  have h1 : (i3 x).toBitVec.toNat < 2 ^ 32 := (i3 x).toBitVec.isLt
  have h2 : w.toBitVec.toNat < 65536 := by rw [h]; omega
  have e : w.toInt = (w.toBitVec.toNat : Int) := BitVec.toInt_eq_toNat_of_lt (by omega)
  rw [e]
  omega
def tellD (h : Hl) (v : Nat → Int) : Nat → Nat → Mo → Nat × Int × Mo
  | 0, i, m => (i, 0, m)
  | r + 1, i, m => if whyD h.P m (v i) = 0 then tellD h v r (i + 1) (doD h m (v i)) else (i, whyD h.P m (v i), m)
theorem tellD_le {h : Hl} {v : Nat → Int} : ∀ (r i : Nat) (m : Mo), i ≤ (tellD h v r i m).1 ∧ (tellD h v r i m).1 ≤ i + r ∧ ((tellD h v r i m).2.1 = 0 ↔ (tellD h v r i m).1 = i + r)
  | 0, i, m => by simp [tellD]
  | r + 1, i, m => by
    simp only [tellD]
    split
    · have := tellD_le (h := h) (v := v) r (i + 1) (doD h m (v i))
      omega
    · next q => exact ⟨Nat.le_refl _, by omega, ⟨fun e => absurd e q, fun e => by omega⟩⟩
theorem tellD_ok {h : Hl} {v : Nat → Int} : ∀ (r i : Nat) (m : Mo) (B : Nat), MoB B m → MoB (B + r) (tellD h v r i m).2.2
  | 0, i, m, B, hm => hm
  | r + 1, i, m, B, hm => by
    simp only [tellD]
    split
    · have := tellD_ok (h := h) (v := v) r (i + 1) (doD h m (v i)) (B + 1) (doD_ok hm)
      rwa [show B + (r + 1) = B + 1 + r by omega]
    · exact hm.mono (by omega)
theorem tellD_why {h : Hl} {v : Nat → Int} : ∀ (r i : Nat) (m : Mo), (tellD h v r i m).2.1 ≠ 0 → whyD h.P (tellD h v r i m).2.2 (v (tellD h v r i m).1) = (tellD h v r i m).2.1
  | 0, i, m, e => absurd rfl e
  | r + 1, i, m, e => by
    simp only [tellD] at e ⊢
    split at e
    · next q =>
      rw [if_pos q]
      exact tellD_why r (i + 1) _ e
    · next q => rw [if_neg q]
theorem tellD_0 {h : Hl} {v : Nat → Int} {r i : Nat} {m : Mo} (e : (tellD h v r i m).1 = i) : (tellD h v r i m).2.2 = m := by
  cases r with
  | zero => rfl
  | succ r =>
    simp only [tellD] at e ⊢
    split
    · next q =>
      rw [if_pos q] at e
      have := (tellD_le (h := h) (v := v) r (i + 1) (doD h m (v i))).1
      omega
    · rfl
def lcg (x : Int) : Int := w3 (w3 (1103515245 * x) + 12345)
def drawV (x : Int) : Int := if bUshr (lcg x) 16 % 6 < 4 then bUshr (lcg (lcg x)) 16 % 32 else (if bUshr (lcg x) 16 % 6 = 4 then 40 else 50) + bUshr (lcg (lcg x)) 16 % 5
def winD (h : Hl) : Nat → Int → Nat → Mo → Nat × Mo
  | 0, _, c, m => (c, m)
  | r + 1, x, c, m => if whyD h.P m (drawV x) = 0 then winD h r (lcg (lcg x)) (c + 1) (doD h m (drawV x)) else winD h r (lcg (lcg x)) c m
theorem winD_ok {h : Hl} : ∀ (r : Nat) (x : Int) (c : Nat) (m : Mo) (B : Nat), MoB B m → MoB (B + r) (winD h r x c m).2 ∧ c ≤ (winD h r x c m).1 ∧ (winD h r x c m).1 ≤ c + r ∧ ((winD h r x c m).1 = c → (winD h r x c m).2 = m)
  | 0, x, c, m, B, hm => ⟨hm, Nat.le_refl _, Nat.le_refl _, fun _ => rfl⟩
  | r + 1, x, c, m, B, hm => by
    simp only [winD]
    split
    · obtain ⟨a, b, e, f⟩ := winD_ok (h := h) r (lcg (lcg x)) (c + 1) (doD h m (drawV x)) (B + 1) (doD_ok hm)
      exact ⟨by rwa [show B + (r + 1) = B + 1 + r by omega], by omega, by omega, fun q => by omega⟩
    · obtain ⟨a, b, e, f⟩ := winD_ok (h := h) r (lcg (lcg x)) c m B hm
      exact ⟨a.mono (by omega), by omega, by omega, f⟩
section CG
variable {G : AG} {d : Nat} {M : AM}
theorem c_H_drawn {x : Int} : MS G d mi_H_drawn [vi x] M (fun r M' => r = some (vi (lcg x)) ∧ M' = M) := by
  refine MS.run ck_H_drawn [some (vi x)] [] 10 fun _ _ => ?_
  simp only [wR, wB, wE0, wE1, wE2, wE3, g0, gS, s10, s11, s1S, s20, s21, s2S, kl0, kl1, kl2, kl3, sp0, sp1, sp2, sp3, cn1, cn2, cn3, cn4, cn5, cn6, jJa, lk0, lk1, jmS, jmN, s4_0, s4_1, s4_2, s4_3, s4_4, sw0, sw1, cKs, cKn, true_and, and_true, List.map_cons, List.map_nil, Nat.reduceAdd, Nat.zero_add, Int.reduceAdd, Nat.reduceEqDiff, reduceIte, Classical.not_not, b_H_drawn]
  rfl
theorem c_H_winterDeed {k y : Int} (hy : 0 ≤ y ∧ y < 65536) : MS G d mi_H_winterDeed [vi k, vi y] M (fun r M' => r = some (vi (if k < 4 then y % 32 else (if k = 4 then 40 else 50) + y % 5)) ∧ M' = M) := by
  refine MS.run ck_H_winterDeed [some (vi k), some (vi y)] [] 10 fun _ _ => ?_
  simp only [wR, wB, wE0, wE1, wE2, wE3, g0, gS, s10, s11, s1S, s20, s21, s2S, kl0, kl1, kl2, kl3, sp0, sp1, sp2, sp3, cn1, cn2, cn3, cn4, cn5, cn6, jJa, lk0, lk1, jmS, jmN, s4_0, s4_1, s4_2, s4_3, s4_4, sw0, sw1, cKs, cKn, true_and, and_true, List.map_cons, List.map_nil, Nat.reduceAdd, Nat.zero_add, Int.reduceAdd, Nat.reduceEqDiff, reduceIte, Classical.not_not, b_H_winterDeed]
  (repeat' (first | omega | exact ⟨by omega, by omega⟩ | (with_reducible exact Or.inr trivial) | (with_reducible exact Or.inl trivial) | (with_reducible assumption) | (with_reducible exact Same.refl) | (with_reducible rfl) | (with_reducible refine And.intro ?_ ?_) | (with_reducible intro _)))
  all_goals first | rw [if_pos (by omega)] | rw [if_neg (by omega), if_pos (by omega)] | rw [if_neg (by omega), if_neg (by omega)]
theorem c_H_doAll {z mz tz : Int} {h : Hl} {m : Mo} {n B : Nat} {v : Nat → Int} (hd : 12 ≤ d) (h0 : M 0 3 = z) (hz : isO z 2) (hzz : z = 7 ∨ z = 16) (hm : isO mz 4) (hmm : mz = 25 ∨ mz = 27) (ht : isO tz 11) (htz : 87 ≤ tz ∧ tz ≤ 93) (ok : HlOK h) (hC : CH M z h) (mok : MoB B m) (hB : B + 40 < 1000000000) (hM : CM M mz h.P m) (hn : M tz 0 = n) (hn40 : n ≤ 40) (hv : ∀ k : Nat, k < n → M (tz + 1) k = v k) :
    MS G d mi_H_doAll [vr 0, vr mz, vr tz] M (fun r M' => r = some (vi (tellD h v n 0 m).1) ∧ CM M' mz h.P (tellD h v n 0 m).2.2 ∧ Same [z + 7, z + 8, mz, mz + 1] M M') := by
  refine MS.by ck_H_doAll [some (vr 0), some (vr mz), some (vr tz), none] fun _ _ => ?_
  generalize hQ : (fun (r : Option AV) (M' : AM) => r = some (vi (tellD h v n 0 m).1) ∧ CM M' mz h.P (tellD h v n 0 m).2.2 ∧ Same [z + 7, z + 8, mz, mz + 1] M M') = Q
  have loop : ∀ (r i : Nat) (m' : Mo) (N : AM), i + r = n → MoB (B + i) m' → CM N mz h.P m' → Same [z + 7, z + 8, mz, mz + 1] M N → tellD h v r i m' = tellD h v n 0 m → AW G d mi_H_doAll Q 2 [some (vr 0), some (vr mz), some (vr tz), some (vi i)] [] N := by
    intro r
    induction r with
    | zero =>
      intro i m' N hi hb hc hN he
      refine AW.run ck_H_doAll [2] 10 2 ?_
      simp only [wR, wB, wE0, wE1, wE2, wE3, g0, gS, s10, s11, s1S, s20, s21, s2S, kl0, kl1, kl2, kl3, sp0, sp1, sp2, sp3, cn1, cn2, cn3, cn4, cn5, cn6, jJa, lk0, lk1, jmS, jmN, s4_0, s4_1, s4_2, s4_3, s4_4, sw0, sw1, cKs, cKn, true_and, and_true, List.map_cons, List.map_nil, Nat.reduceAdd, Nat.zero_add, Int.reduceAdd, Nat.reduceEqDiff, reduceIte, Classical.not_not, b_H_doAll, shH, ht, hN.at tz _ (by (first | decide | (simp only [List.mem_cons, List.not_mem_nil, or_false, not_or, not_false_eq_true, and_true]; omega) | (simp [List.mem_cons]; done))), hn]
      subst hQ
      rw [← he]
      simp only [tellD]
      (repeat' (first | omega | exact ⟨by omega, by omega⟩ | (with_reducible exact Or.inr trivial) | (with_reducible exact Or.inl trivial) | (with_reducible assumption) | (with_reducible exact Same.refl) | (with_reducible rfl) | (with_reducible refine And.intro ?_ ?_) | (with_reducible intro _)))
      rw [show n = i by omega]
    | succ r ih =>
      intro i m' N hi hb hc hN he
      refine AW.run ck_H_doAll [2] 10 2 ?_
      simp only [wR, wB, wE0, wE1, wE2, wE3, g0, gS, s10, s11, s1S, s20, s21, s2S, kl0, kl1, kl2, kl3, sp0, sp1, sp2, sp3, cn1, cn2, cn3, cn4, cn5, cn6, jJa, lk0, lk1, jmS, jmN, s4_0, s4_1, s4_2, s4_3, s4_4, sw0, sw1, cKs, cKn, true_and, and_true, List.map_cons, List.map_nil, Nat.reduceAdd, Nat.zero_add, Int.reduceAdd, Nat.reduceEqDiff, reduceIte, Classical.not_not, b_H_doAll, shH, ht, hN.at tz _ (by (first | decide | (simp only [List.mem_cons, List.not_mem_nil, or_false, not_or, not_false_eq_true, and_true]; omega) | (simp [List.mem_cons]; done))), hn]
      (repeat' (first | omega | exact ⟨by omega, by omega⟩ | (with_reducible exact Or.inr trivial) | (with_reducible exact Or.inl trivial) | (with_reducible assumption) | (with_reducible exact Same.refl) | (with_reducible rfl) | (with_reducible refine And.intro ?_ ?_) | (with_reducible intro _)))
      refine MS.to (c_Tr_at ht) fun _ => ?_
      rw [if_pos (by omega), hN.at (tz + 1) _ (by (first | decide | (simp only [List.mem_cons, List.not_mem_nil, or_false, not_or, not_false_eq_true, and_true]; omega) | (simp [List.mem_cons]; done))), hv i (by omega)]
      simp only [wR, wB, wE0, wE1, wE2, wE3, g0, gS, s10, s11, s1S, s20, s21, s2S, kl0, kl1, kl2, kl3, sp0, sp1, sp2, sp3, cn1, cn2, cn3, cn4, cn5, cn6, jJa, lk0, lk1, jmS, jmN, s4_0, s4_1, s4_2, s4_3, s4_4, sw0, sw1, cKs, cKn, true_and, and_true, List.map_cons, List.map_nil, Nat.reduceAdd, Nat.zero_add, Int.reduceAdd, Nat.reduceEqDiff, reduceIte, Classical.not_not, b_H_doAll, shH]
      (repeat' (first | omega | exact ⟨by omega, by omega⟩ | (with_reducible exact Or.inr trivial) | (with_reducible exact Or.inl trivial) | (with_reducible assumption) | (with_reducible exact Same.refl) | (with_reducible rfl) | (with_reducible refine And.intro ?_ ?_) | (with_reducible intro _)))
      have hhb := hb.2
      refine (c_H_tryDeed (d := d - 1) (m := m') (by omega) (by rw [hN.at 0 _ (by (first | decide | (simp only [List.mem_cons, List.not_mem_nil, or_false, not_or, not_false_eq_true, and_true]; omega) | (simp [List.mem_cons]; done)))]; exact h0) hz hm ok (hC.same hN (by (first | decide | (simp only [List.mem_cons, List.not_mem_nil, or_false, not_or, not_false_eq_true, and_true]; omega) | (simp [List.mem_cons]; done))) (by (first | decide | (simp only [List.mem_cons, List.not_mem_nil, or_false, not_or, not_false_eq_true, and_true]; omega) | (simp [List.mem_cons]; done))) (by (first | decide | (simp only [List.mem_cons, List.not_mem_nil, or_false, not_or, not_false_eq_true, and_true]; omega) | (simp [List.mem_cons]; done))) (by (first | decide | (simp only [List.mem_cons, List.not_mem_nil, or_false, not_or, not_false_eq_true, and_true]; omega) | (simp [List.mem_cons]; done))) (by (first | decide | (simp only [List.mem_cons, List.not_mem_nil, or_false, not_or, not_false_eq_true, and_true]; omega) | (simp [List.mem_cons]; done))) (by (first | decide | (simp only [List.mem_cons, List.not_mem_nil, or_false, not_or, not_false_eq_true, and_true]; omega) | (simp [List.mem_cons]; done)))) hb.1 hc (by omega)).mono ?_
      rintro r' M1 okM1 ⟨rfl, t1, t2⟩
      simp only [wR, wB, wE0, wE1, wE2, wE3, g0, gS, s10, s11, s1S, s20, s21, s2S, kl0, kl1, kl2, kl3, sp0, sp1, sp2, sp3, cn1, cn2, cn3, cn4, cn5, cn6, jJa, lk0, lk1, jmS, jmN, s4_0, s4_1, s4_2, s4_3, s4_4, sw0, sw1, cKs, cKn, true_and, and_true, List.map_cons, List.map_nil, Nat.reduceAdd, Nat.zero_add, Int.reduceAdd, Nat.reduceEqDiff, reduceIte, Classical.not_not, b_H_doAll, shH, ce]
      by_cases q : whyD h.P m' (v i) = 0
      · rw [if_pos q] at t1
        (repeat' (first | omega | exact ⟨by omega, by omega⟩ | (with_reducible exact Or.inr trivial) | (with_reducible exact Or.inl trivial) | (with_reducible assumption) | (with_reducible exact Same.refl) | (with_reducible rfl) | (with_reducible refine And.intro ?_ ?_) | (with_reducible intro _)))
        refine ih (i + 1) (doD h m' (v i)) M1 (by omega) (doD_ok hb) t1 (hN.trans t2) ?_
        rw [← he]
        simp only [tellD, if_pos q]
      · rw [if_neg q] at t1
        (repeat' (first | omega | exact ⟨by omega, by omega⟩ | (with_reducible exact Or.inr trivial) | (with_reducible exact Or.inl trivial) | (with_reducible assumption) | (with_reducible exact Same.refl) | (with_reducible rfl) | (with_reducible refine And.intro ?_ ?_) | (with_reducible intro _)))
        subst hQ
        rw [← he]
        simp only [tellD, if_neg q]
        exact ⟨trivial, t1, hN.trans t2⟩
  refine AW.run ck_H_doAll [2] 10 0 ?_
  simp only [wR, wB, wE0, wE1, wE2, wE3, g0, gS, s10, s11, s1S, s20, s21, s2S, kl0, kl1, kl2, kl3, sp0, sp1, sp2, sp3, cn1, cn2, cn3, cn4, cn5, cn6, jJa, lk0, lk1, jmS, jmN, s4_0, s4_1, s4_2, s4_3, s4_4, sw0, sw1, cKs, cKn, true_and, and_true, List.map_cons, List.map_nil, Nat.reduceAdd, Nat.zero_add, Int.reduceAdd, Nat.reduceEqDiff, reduceIte, Classical.not_not, b_H_doAll, shH]
  exact loop n 0 m M (by omega) mok hM Same.refl rfl
def trT (σ : Sg) (t : Int) : Nat × Int × Mo := tellD σ.h (σ.tr t.toNat).2.2 (σ.tr t.toNat).2.1 0 σ.m
def aJudge (σ : Sg) (t what : Int) : Int := if what < 0 ∨ 3 < what then -2 else if aTr σ t = 0 then (if what = 0 then (if (trT σ t).2.1 = 0 then -1 else ((trT σ t).1 : Int)) else if what = 1 then (trT σ t).2.1 else if what = 2 then (sumN (trT σ t).2.2.st σ.h.P : Int) else (sdB (trT σ t).2.2.sd σ.h.P : Int)) else aTr σ t
def aPerform (σ : Sg) (t : Int) : Int := if aTr σ t = 0 then ((trT σ t).1 : Int) else aTr σ t
def sPerform (σ : Sg) (t : Int) : Sg := if aTr σ t = 0 ∧ 0 < (trT σ t).1 then σ.deed (trT σ t).2.2 else σ
theorem CM.tog {M : AM} {z : Int} {P : Nat} {m : Mo} (h : CM M z P m) (hP : P ≤ 5) : M (z + 1) 0 + M (z + 1) 1 + M (z + 1) 2 + M (z + 1) 3 + M (z + 1) 4 = (sumN m.st P : Int) := by
  have h0 := h.2.2.2 0 (by omega)
  have h1 := h.2.2.2 1 (by omega)
  have h2 := h.2.2.2 2 (by omega)
  have h3 := h.2.2.2 3 (by omega)
  have h4 := h.2.2.2 4 (by omega)
  simp only [show ((0 : Nat) : Int) = 0 from rfl, show ((1 : Nat) : Int) = 1 from rfl, show ((2 : Nat) : Int) = 2 from rfl, show ((3 : Nat) : Int) = 3 from rfl, show ((4 : Nat) : Int) = 4 from rfl] at h0 h1 h2 h3 h4
  rw [h0, h1, h2, h3, h4]
  match P, hP with
  | 0, _ => simp [sumN]
  | 1, _ => simp [sumN]
  | 2, _ => simp [sumN]
  | 3, _ => simp [sumN]
  | 4, _ => simp [sumN]
  | 5, _ => simp [sumN]
theorem CM.b5 {M : AM} {z : Int} {P : Nat} {m : Mo} (h : CM M z P m) (ok : MoOK m) : ∀ p : Int, 0 ≤ p → p < 5 → 0 ≤ M (z + 1) p ∧ M (z + 1) p ≤ 4 := by
  intro p h0 h5
  have := h.2.2.2 p.toNat (by omega)
  rw [show ((p.toNat : Nat) : Int) = p by omega] at this
  have hs := (ok.1 p.toNat).2
  rw [this]
  split <;> omega
theorem CR.q {M N : AM} {σ : Sg} {z : Int} (hR : CR M σ) (hz : z = 7 ∨ z = 16) (hs : Same [27, 28, z + 7, z + 8] M N) : CR N σ ∧ Hi M N := by
  have hsc : Scr M N := hs.scr (by intro x hx; simp only [List.mem_cons, List.not_mem_nil, or_false] at hx; omega)
  exact ⟨hR.scr hsc (hR.inv.eq (fun x h1 h2 => hs x (by (first | decide | (simp only [List.mem_cons, List.not_mem_nil, or_false, not_or, not_false_eq_true, and_true]; omega) | (simp [List.mem_cons]; done))))), hsc.hi⟩
theorem c_H_judge {t what : Int} {B : Nat} {σ : Sg} (hd : 20 ≤ d) (hB : B + 40 < 1000000000) (ok : SgOK B σ) (hR : CR M σ) :
    MS G d mi_H_judge [vr 0, vi t, vi what] M (fun r M' => r = some (vi (aJudge σ t what)) ∧ CR M' σ ∧ Hi M M') := by
  obtain ⟨z, hs, hM, hp, hT⟩ := hR.z
  have hz := hs.z
  have hzz := hs.2.2.1
  have mok := ok.2.2.2.1
  have hP := ok.2.2.1.1
  refine MS.by ck_H_judge [some (vr 0), some (vi t), some (vi what), none, none, none, none] fun _ _ => ?_
  unfold aJudge
  by_cases hw : what < 0 ∨ 3 < what
  · rw [if_pos hw]
    have a9 : AW G d mi_H_judge (fun r M' => r = some (vi (-2)) ∧ CR M' σ ∧ Hi M M') 9 [some (vr 0), some (vi t), some (vi what), none, none, none, none] [] M := by
      refine AW.run ck_H_judge [] 10 9 ?_
      simp only [wR, wB, wE0, wE1, wE2, wE3, g0, gS, s10, s11, s1S, s20, s21, s2S, kl0, kl1, kl2, kl3, sp0, sp1, sp2, sp3, cn1, cn2, cn3, cn4, cn5, cn6, jJa, lk0, lk1, jmS, jmN, s4_0, s4_1, s4_2, s4_3, s4_4, sw0, sw1, cKs, cKn, true_and, and_true, List.map_cons, List.map_nil, Nat.reduceAdd, Nat.zero_add, Int.reduceAdd, Nat.reduceEqDiff, reduceIte, Classical.not_not, b_H_judge, shH]
      exact ⟨hR, Hi.refl⟩
    refine AW.run ck_H_judge [9, 12] 10 0 ?_
    simp only [wR, wB, wE0, wE1, wE2, wE3, g0, gS, s10, s11, s1S, s20, s21, s2S, kl0, kl1, kl2, kl3, sp0, sp1, sp2, sp3, cn1, cn2, cn3, cn4, cn5, cn6, jJa, lk0, lk1, jmS, jmN, s4_0, s4_1, s4_2, s4_3, s4_4, sw0, sw1, cKs, cKn, true_and, and_true, List.map_cons, List.map_nil, Nat.reduceAdd, Nat.zero_add, Int.reduceAdd, Nat.reduceEqDiff, reduceIte, Classical.not_not, b_H_judge, shH]
    (repeat' (first | omega | exact ⟨by omega, by omega⟩ | (with_reducible exact Or.inr trivial) | (with_reducible exact Or.inl trivial) | (with_reducible assumption) | (with_reducible exact Same.refl) | (with_reducible rfl) | (with_reducible refine And.intro ?_ ?_) | (with_reducible intro _)))
  · rw [if_neg hw]
    generalize hQ : (fun (r : Option AV) (M' : AM) => r = some (vi (if aTr σ t = 0 then (if what = 0 then (if (trT σ t).2.1 = 0 then -1 else ((trT σ t).1 : Int)) else if what = 1 then (trT σ t).2.1 else if what = 2 then (sumN (trT σ t).2.2.st σ.h.P : Int) else (sdB (trT σ t).2.2.sd σ.h.P : Int)) else aTr σ t)) ∧ CR M' σ ∧ Hi M M') = Q
    have a12 : AW G d mi_H_judge Q 12 [some (vr 0), some (vi t), some (vi what), none, none, none, none] [] M := by
      refine AW.run ck_H_judge [24] 10 12 ?_
      simp only [wR, wB, wE0, wE1, wE2, wE3, g0, gS, s10, s11, s1S, s20, s21, s2S, kl0, kl1, kl2, kl3, sp0, sp1, sp2, sp3, cn1, cn2, cn3, cn4, cn5, cn6, jJa, lk0, lk1, jmS, jmN, s4_0, s4_1, s4_2, s4_3, s4_4, sw0, sw1, cKs, cKn, true_and, and_true, List.map_cons, List.map_nil, Nat.reduceAdd, Nat.zero_add, Int.reduceAdd, Nat.reduceEqDiff, reduceIte, Classical.not_not, b_H_judge, shH]
      refine ⟨by omega, MS.to (c_H_refusedTray (by omega) hT) fun _ => ?_⟩
      simp only [wR, wB, wE0, wE1, wE2, wE3, g0, gS, s10, s11, s1S, s20, s21, s2S, kl0, kl1, kl2, kl3, sp0, sp1, sp2, sp3, cn1, cn2, cn3, cn4, cn5, cn6, jJa, lk0, lk1, jmS, jmN, s4_0, s4_1, s4_2, s4_3, s4_4, sw0, sw1, cKs, cKn, true_and, and_true, List.map_cons, List.map_nil, Nat.reduceAdd, Nat.zero_add, Int.reduceAdd, Nat.reduceEqDiff, reduceIte, Classical.not_not, b_H_judge, shH]
      by_cases q : aTr σ t = 0
      · (repeat' (first | omega | exact ⟨by omega, by omega⟩ | (with_reducible exact Or.inr trivial) | (with_reducible exact Or.inl trivial) | (with_reducible assumption) | (with_reducible exact Same.refl) | (with_reducible rfl) | (with_reducible refine And.intro ?_ ?_) | (with_reducible intro _)))
        obtain ⟨i, rfl, hi, hne⟩ := aTr_0 q
        obtain ⟨t1, t2, t3, t4⟩ := hT i hi
        obtain ⟨t5, t6⟩ := t4 hne
        rw [if_neg hne] at t2
        have ho := tr_O i hi
        have ht40 := (ok.2.2.2.2.2.2.1 i hi).2.2
        have hTT : trT σ i = tellD σ.h (σ.tr i).2.2 (σ.tr i).2.1 0 σ.m := rfl
        have hle := tellD_le (h := σ.h) (v := (σ.tr i).2.2) (σ.tr i).2.1 0 σ.m
        have hwy := tellD_why (h := σ.h) (v := (σ.tr i).2.2) (σ.tr i).2.1 0 σ.m
        have hTok := tellD_ok (h := σ.h) (v := (σ.tr i).2.2) (σ.tr i).2.1 0 σ.m B mok
        rw [← hTT] at hle hwy hTok
        have a70 : ∀ (N : AM) (w : Int), CM N 27 σ.h.P (trT σ i).2.2 → Same [27, 28, z + 7, z + 8] M N → w = (if (trT σ i).2.1 = 0 then 1 else 0) → AW G d mi_H_judge Q 70 [some (vr 0), some (vi i), some (vi what), some (vi (aTr σ i)), some (vr (87 + 2 * (i : Int))), some (vi (trT σ i).1), none] [vi w] N := by
          intro N w hcm hN hw2
          obtain ⟨hcr, hhi⟩ := hR.q hzz hN
          have hl1 := hle.1
          have hl2 := hle.2.1
          have tn : N (87 + 2 * (i : Int) + 1) (trT σ i).1 = M (88 + 2 * (i : Int)) (trT σ i).1 := by
            rw [show 87 + 2 * (i : Int) + 1 = 88 + 2 * (i : Int) by omega, hN.at _ _ (by (first | decide | (simp only [List.mem_cons, List.not_mem_nil, or_false, not_or, not_false_eq_true, and_true]; omega) | (simp [List.mem_cons]; done)))]
          refine AW.run ck_H_judge [] 10 70 ?_
          subst hQ
          rw [if_pos q]
          rcases (show what = 0 ∨ what = 1 ∨ what = 2 ∨ what = 3 by omega) with rfl | rfl | rfl | rfl
          · by_cases q3 : (trT σ i).2.1 = 0
            · rw [if_pos q3] at hw2
              subst hw2
              simp only [wR, wB, wE0, wE1, wE2, wE3, g0, gS, s10, s11, s1S, s20, s21, s2S, kl0, kl1, kl2, kl3, sp0, sp1, sp2, sp3, cn1, cn2, cn3, cn4, cn5, cn6, jJa, lk0, lk1, jmS, jmN, s4_0, s4_1, s4_2, s4_3, s4_4, sw0, sw1, cKs, cKn, true_and, and_true, List.map_cons, List.map_nil, Nat.reduceAdd, Nat.zero_add, Int.reduceAdd, Nat.reduceEqDiff, reduceIte, Classical.not_not, b_H_judge, shH, up_rd, Int.reduceEq, and_false, false_and, and_self, reduceIte, not_true_eq_false, not_false_eq_true, false_imp_iff, true_imp_iff, true_or, or_true, q3]
              exact ⟨hcr, hhi⟩
            · rw [if_neg q3] at hw2
              subst hw2
              rw [if_neg q3]
              simp only [wR, wB, wE0, wE1, wE2, wE3, g0, gS, s10, s11, s1S, s20, s21, s2S, kl0, kl1, kl2, kl3, sp0, sp1, sp2, sp3, cn1, cn2, cn3, cn4, cn5, cn6, jJa, lk0, lk1, jmS, jmN, s4_0, s4_1, s4_2, s4_3, s4_4, sw0, sw1, cKs, cKn, true_and, and_true, List.map_cons, List.map_nil, Nat.reduceAdd, Nat.zero_add, Int.reduceAdd, Nat.reduceEqDiff, reduceIte, Classical.not_not, b_H_judge, shH, up_rd, Int.reduceEq, and_false, false_and, and_self, reduceIte, not_true_eq_false, not_false_eq_true, false_imp_iff, true_imp_iff, true_or, or_true]
              exact ⟨hcr, hhi⟩
          · by_cases q3 : (trT σ i).2.1 = 0
            · rw [if_pos q3] at hw2
              subst hw2
              simp only [wR, wB, wE0, wE1, wE2, wE3, g0, gS, s10, s11, s1S, s20, s21, s2S, kl0, kl1, kl2, kl3, sp0, sp1, sp2, sp3, cn1, cn2, cn3, cn4, cn5, cn6, jJa, lk0, lk1, jmS, jmN, s4_0, s4_1, s4_2, s4_3, s4_4, sw0, sw1, cKs, cKn, true_and, and_true, List.map_cons, List.map_nil, Nat.reduceAdd, Nat.zero_add, Int.reduceAdd, Nat.reduceEqDiff, reduceIte, Classical.not_not, b_H_judge, shH, up_rd, Int.reduceEq, and_false, false_and, and_self, reduceIte, not_true_eq_false, not_false_eq_true, false_imp_iff, true_imp_iff, true_or, or_true, q3]
              exact ⟨hcr, hhi⟩
            · rw [if_neg q3] at hw2
              subst hw2
              simp only [wR, wB, wE0, wE1, wE2, wE3, g0, gS, s10, s11, s1S, s20, s21, s2S, kl0, kl1, kl2, kl3, sp0, sp1, sp2, sp3, cn1, cn2, cn3, cn4, cn5, cn6, jJa, lk0, lk1, jmS, jmN, s4_0, s4_1, s4_2, s4_3, s4_4, sw0, sw1, cKs, cKn, true_and, and_true, List.map_cons, List.map_nil, Nat.reduceAdd, Nat.zero_add, Int.reduceAdd, Nat.reduceEqDiff, reduceIte, Classical.not_not, b_H_judge, shH, up_rd, Int.reduceEq, and_false, false_and, and_self, reduceIte, not_true_eq_false, not_false_eq_true, false_imp_iff, true_imp_iff, true_or, or_true, ho]
              refine ⟨by omega, MS.to (c_Tr_at ho) fun _ => ?_⟩
              have hlt : (trT σ i).1 < (σ.tr i).2.1 := by omega
              rw [if_pos (by omega), tn, t6 _ hlt]
              simp only [wR, wB, wE0, wE1, wE2, wE3, g0, gS, s10, s11, s1S, s20, s21, s2S, kl0, kl1, kl2, kl3, sp0, sp1, sp2, sp3, cn1, cn2, cn3, cn4, cn5, cn6, jJa, lk0, lk1, jmS, jmN, s4_0, s4_1, s4_2, s4_3, s4_4, sw0, sw1, cKs, cKn, true_and, and_true, List.map_cons, List.map_nil, Nat.reduceAdd, Nat.zero_add, Int.reduceAdd, Nat.reduceEqDiff, reduceIte, Classical.not_not, b_H_judge, shH]
              refine ⟨by omega, (c_H_tryDeed (d := d - 1) (by omega) (by rw [hN.at 0 _ (by (first | decide | (simp only [List.mem_cons, List.not_mem_nil, or_false, not_or, not_false_eq_true, and_true]; omega) | (simp [List.mem_cons]; done)))]; exact hs.1) hz o27 ok.2.2.1 (hs.2.2.2.same hN (by (first | decide | (simp only [List.mem_cons, List.not_mem_nil, or_false, not_or, not_false_eq_true, and_true]; omega) | (simp [List.mem_cons]; done))) (by (first | decide | (simp only [List.mem_cons, List.not_mem_nil, or_false, not_or, not_false_eq_true, and_true]; omega) | (simp [List.mem_cons]; done))) (by (first | decide | (simp only [List.mem_cons, List.not_mem_nil, or_false, not_or, not_false_eq_true, and_true]; omega) | (simp [List.mem_cons]; done))) (by (first | decide | (simp only [List.mem_cons, List.not_mem_nil, or_false, not_or, not_false_eq_true, and_true]; omega) | (simp [List.mem_cons]; done))) (by (first | decide | (simp only [List.mem_cons, List.not_mem_nil, or_false, not_or, not_false_eq_true, and_true]; omega) | (simp [List.mem_cons]; done))) (by (first | decide | (simp only [List.mem_cons, List.not_mem_nil, or_false, not_or, not_false_eq_true, and_true]; omega) | (simp [List.mem_cons]; done)))) hTok.1 hcm (by have := hTok.2; omega)).mono ?_⟩
              rintro r' M1 okM1 ⟨rfl, u1, u2⟩
              rw [hwy q3]
              simp only [wR, wB, wE0, wE1, wE2, wE3, g0, gS, s10, s11, s1S, s20, s21, s2S, kl0, kl1, kl2, kl3, sp0, sp1, sp2, sp3, cn1, cn2, cn3, cn4, cn5, cn6, jJa, lk0, lk1, jmS, jmN, s4_0, s4_1, s4_2, s4_3, s4_4, sw0, sw1, cKs, cKn, true_and, and_true, List.map_cons, List.map_nil, Nat.reduceAdd, Nat.zero_add, Int.reduceAdd, Nat.reduceEqDiff, reduceIte, Classical.not_not, b_H_judge, up_rd, Int.reduceEq, and_false, false_and, and_self, reduceIte, not_true_eq_false, not_false_eq_true, false_imp_iff, true_imp_iff, true_or, or_true]
              exact hR.q hzz (hN.trans (u2.mono (by simp)))
          · simp only [wR, wB, wE0, wE1, wE2, wE3, g0, gS, s10, s11, s1S, s20, s21, s2S, kl0, kl1, kl2, kl3, sp0, sp1, sp2, sp3, cn1, cn2, cn3, cn4, cn5, cn6, jJa, lk0, lk1, jmS, jmN, s4_0, s4_1, s4_2, s4_3, s4_4, sw0, sw1, cKs, cKn, true_and, and_true, List.map_cons, List.map_nil, Nat.reduceAdd, Nat.zero_add, Int.reduceAdd, Nat.reduceEqDiff, reduceIte, Classical.not_not, b_H_judge, shH, up_rd, Int.reduceEq, and_false, false_and, and_self, reduceIte, not_true_eq_false, not_false_eq_true, false_imp_iff, true_imp_iff, true_or, or_true]
            refine ⟨by omega, MS.to (c_Mo_together o27 (hcm.b5 hTok.1)) fun _ => ?_⟩
            rw [hcm.tog hP]
            simp only [wR, wB, wE0, wE1, wE2, wE3, g0, gS, s10, s11, s1S, s20, s21, s2S, kl0, kl1, kl2, kl3, sp0, sp1, sp2, sp3, cn1, cn2, cn3, cn4, cn5, cn6, jJa, lk0, lk1, jmS, jmN, s4_0, s4_1, s4_2, s4_3, s4_4, sw0, sw1, cKs, cKn, true_and, and_true, List.map_cons, List.map_nil, Nat.reduceAdd, Nat.zero_add, Int.reduceAdd, Nat.reduceEqDiff, reduceIte, Classical.not_not, b_H_judge, up_rd, Int.reduceEq, and_false, false_and, and_self, reduceIte, not_true_eq_false, not_false_eq_true, false_imp_iff, true_imp_iff, true_or, or_true]
            exact ⟨hcr, hhi⟩
          · simp only [wR, wB, wE0, wE1, wE2, wE3, g0, gS, s10, s11, s1S, s20, s21, s2S, kl0, kl1, kl2, kl3, sp0, sp1, sp2, sp3, cn1, cn2, cn3, cn4, cn5, cn6, jJa, lk0, lk1, jmS, jmN, s4_0, s4_1, s4_2, s4_3, s4_4, sw0, sw1, cKs, cKn, true_and, and_true, List.map_cons, List.map_nil, Nat.reduceAdd, Nat.zero_add, Int.reduceAdd, Nat.reduceEqDiff, reduceIte, Classical.not_not, b_H_judge, shH, up_rd, Int.reduceEq, and_false, false_and, and_self, reduceIte, not_true_eq_false, not_false_eq_true, false_imp_iff, true_imp_iff, true_or, or_true, hcm.1]
            exact ⟨hcr, hhi⟩
        refine AW.run ck_H_judge [70] 10 24 ?_
        simp only [wR, wB, wE0, wE1, wE2, wE3, g0, gS, s10, s11, s1S, s20, s21, s2S, kl0, kl1, kl2, kl3, sp0, sp1, sp2, sp3, cn1, cn2, cn3, cn4, cn5, cn6, jJa, lk0, lk1, jmS, jmN, s4_0, s4_1, s4_2, s4_3, s4_4, sw0, sw1, cKs, cKn, true_and, and_true, List.map_cons, List.map_nil, Nat.reduceAdd, Nat.zero_add, Int.reduceAdd, Nat.reduceEqDiff, reduceIte, Classical.not_not, b_H_judge, shH, shR0, l30, t1, ho]
        (repeat' (first | omega | exact ⟨by omega, by omega⟩ | (with_reducible exact Or.inr trivial) | (with_reducible exact Or.inl trivial) | (with_reducible assumption) | (with_reducible exact Same.refl) | (with_reducible rfl) | (with_reducible refine And.intro ?_ ?_) | (with_reducible intro _)))
        refine MS.to (c_Mo_copy (by omega) o27 o25) fun _ => ?_
        have h27 := moC_CM (z := 27) hM
        have sm : Same [27, 28] M (moC M 27 25) := moC_same
        generalize moC M 27 25 = N at h27 sm ⊢
        simp only [wR, wB, wE0, wE1, wE2, wE3, g0, gS, s10, s11, s1S, s20, s21, s2S, kl0, kl1, kl2, kl3, sp0, sp1, sp2, sp3, cn1, cn2, cn3, cn4, cn5, cn6, jJa, lk0, lk1, jmS, jmN, s4_0, s4_1, s4_2, s4_3, s4_4, sw0, sw1, cKs, cKn, true_and, and_true, List.map_cons, List.map_nil, Nat.reduceAdd, Nat.zero_add, Int.reduceAdd, Nat.reduceEqDiff, reduceIte, Classical.not_not, b_H_judge, shH]
        refine ⟨by omega, (c_H_doAll (d := d - 1) (B := B) (n := (σ.tr i).2.1) (v := (σ.tr i).2.2) (by omega) (by rw [sm.at 0 _ (by (first | decide | (simp only [List.mem_cons, List.not_mem_nil, or_false, not_or, not_false_eq_true, and_true]; omega) | (simp [List.mem_cons]; done)))]; exact hs.1) hz hzz o27 (Or.inr rfl) ho (by omega) ok.2.2.1 (hs.2.2.2.same sm (by (first | decide | (simp only [List.mem_cons, List.not_mem_nil, or_false, not_or, not_false_eq_true, and_true]; omega) | (simp [List.mem_cons]; done))) (by (first | decide | (simp only [List.mem_cons, List.not_mem_nil, or_false, not_or, not_false_eq_true, and_true]; omega) | (simp [List.mem_cons]; done))) (by (first | decide | (simp only [List.mem_cons, List.not_mem_nil, or_false, not_or, not_false_eq_true, and_true]; omega) | (simp [List.mem_cons]; done))) (by (first | decide | (simp only [List.mem_cons, List.not_mem_nil, or_false, not_or, not_false_eq_true, and_true]; omega) | (simp [List.mem_cons]; done))) (by (first | decide | (simp only [List.mem_cons, List.not_mem_nil, or_false, not_or, not_false_eq_true, and_true]; omega) | (simp [List.mem_cons]; done))) (by (first | decide | (simp only [List.mem_cons, List.not_mem_nil, or_false, not_or, not_false_eq_true, and_true]; omega) | (simp [List.mem_cons]; done)))) mok hB h27 (by rw [sm.at _ _ (by (first | decide | (simp only [List.mem_cons, List.not_mem_nil, or_false, not_or, not_false_eq_true, and_true]; omega) | (simp [List.mem_cons]; done)))]; exact t2) ht40 (fun k hk => by rw [show 87 + 2 * (i : Int) + 1 = 88 + 2 * (i : Int) by omega, sm.at _ _ (by (first | decide | (simp only [List.mem_cons, List.not_mem_nil, or_false, not_or, not_false_eq_true, and_true]; omega) | (simp [List.mem_cons]; done)))]; exact t6 k hk)).mono ?_⟩
        rintro r' M1 okM1 ⟨rfl, u1, u2⟩
        have hss : Same [27, 28, z + 7, z + 8] M M1 := (sm.mono (by simp)).trans (u2.mono (by simp))
        rw [← hTT] at u1 ⊢
        have e2 : M1 (87 + 2 * (i : Int)) 0 = ((σ.tr i).2.1 : Int) := by rw [hss.at _ _ (by (first | decide | (simp only [List.mem_cons, List.not_mem_nil, or_false, not_or, not_false_eq_true, and_true]; omega) | (simp [List.mem_cons]; done)))]; exact t2
        simp only [wR, wB, wE0, wE1, wE2, wE3, g0, gS, s10, s11, s1S, s20, s21, s2S, kl0, kl1, kl2, kl3, sp0, sp1, sp2, sp3, cn1, cn2, cn3, cn4, cn5, cn6, jJa, lk0, lk1, jmS, jmN, s4_0, s4_1, s4_2, s4_3, s4_4, sw0, sw1, cKs, cKn, true_and, and_true, List.map_cons, List.map_nil, Nat.reduceAdd, Nat.zero_add, Int.reduceAdd, Nat.reduceEqDiff, reduceIte, Classical.not_not, b_H_judge, shH, ho, e2]
        (repeat' (first | omega | exact ⟨by omega, by omega⟩ | (with_reducible exact Or.inr trivial) | (with_reducible exact Or.inl trivial) | (with_reducible assumption) | (with_reducible exact Same.refl) | (with_reducible rfl) | (with_reducible refine And.intro ?_ ?_) | (with_reducible intro _)))
        · exact a70 M1 0 u1 hss (by rw [if_neg (by omega)])
        · exact a70 M1 1 u1 hss (by rw [if_pos (by omega)])
      · (repeat' (first | omega | exact ⟨by omega, by omega⟩ | (with_reducible exact Or.inr trivial) | (with_reducible exact Or.inl trivial) | (with_reducible assumption) | (with_reducible exact Same.refl) | (with_reducible rfl) | (with_reducible refine And.intro ?_ ?_) | (with_reducible intro _)))
        subst hQ
        rw [if_neg q]
        exact ⟨rfl, hR, Hi.refl⟩
    refine AW.run ck_H_judge [9, 12] 10 0 ?_
    simp only [wR, wB, wE0, wE1, wE2, wE3, g0, gS, s10, s11, s1S, s20, s21, s2S, kl0, kl1, kl2, kl3, sp0, sp1, sp2, sp3, cn1, cn2, cn3, cn4, cn5, cn6, jJa, lk0, lk1, jmS, jmN, s4_0, s4_1, s4_2, s4_3, s4_4, sw0, sw1, cKs, cKn, true_and, and_true, List.map_cons, List.map_nil, Nat.reduceAdd, Nat.zero_add, Int.reduceAdd, Nat.reduceEqDiff, reduceIte, Classical.not_not, b_H_judge, shH]
    (repeat' (first | omega | exact ⟨by omega, by omega⟩ | (with_reducible exact Or.inr trivial) | (with_reducible exact Or.inl trivial) | (with_reducible assumption) | (with_reducible exact Same.refl) | (with_reducible rfl) | (with_reducible refine And.intro ?_ ?_) | (with_reducible intro _)))
end CG
