/-! deeds -/
def Mo.flip (m : Mo) (p : Nat) : Mo := (fun q => if q = p then 1 - m.sd p else m.sd q, m.st, m.cold, m.hrs)
def Mo.soup (m : Mo) (p : Nat) : Mo := (m.sd, fun q => if q = p then 4 else m.st q, m.cold, m.hrs)
def Mo.chill (m : Mo) (c : Nat) : Mo := (m.sd, m.st, c, m.hrs)
/-- why a told deed can't be -/
def whyD (P : Nat) (m : Mo) (v : Int) : Int := if 0 ≤ v ∧ v ≤ 31 then whyS P m.st v else if 40 ≤ v ∧ v ≤ 59 then (if v % 10 < (P : Int) then 0 else 1) else if 60 ≤ v ∧ v ≤ 69 then 0 else 1
def doD (h : Hl) (m : Mo) (v : Int) : Mo := if v < 32 then hourM h m v.toNat else if v < 50 then m.flip (v % 10).toNat else if v < 60 then m.soup (v % 10).toNat else m.chill (v % 10).toNat
theorem MoB.mono {B B' : Nat} {m : Mo} (h : MoB B m) (hb : B ≤ B') : MoB B' m := ⟨h.1, Nat.le_trans h.2 hb⟩
theorem doD_ok {B : Nat} {h : Hl} {m : Mo} {v : Int} (ok : MoB B m) : MoB (B + 1) (doD h m v) := by
  obtain ⟨⟨a, b⟩, c⟩ := ok
  unfold doD
  split
  · exact ⟨⟨fun p => ⟨(a p).1, tired_le _ _ _ _ _ _⟩, b⟩, Nat.succ_le_succ c⟩
  · split
    · refine ⟨⟨fun p => ⟨?_, (a p).2⟩, b⟩, by show m.hrs ≤ B + 1; omega⟩
      show (if p = _ then 1 - m.sd _ else m.sd p) ≤ 1
      have := (a p).1
      split <;> omega
    · split
      · refine ⟨⟨fun p => ⟨(a p).1, ?_⟩, b⟩, by show m.hrs ≤ B + 1; omega⟩
        show (if p = _ then 4 else m.st p) ≤ 4
        have := (a p).2
        split <;> omega
      · refine ⟨⟨a, ?_⟩, by show m.hrs ≤ B + 1; omega⟩
        show (v % 10).toNat ≤ 9
        omega
theorem bits_eq {a b : Nat} (ha : a < 32) (hb : b < 32) (h : ∀ k, k < 5 → a / 2 ^ k % 2 = b / 2 ^ k % 2) : a = b := by
  have h0 := h 0 (by omega)
  have h1 := h 1 (by omega)
  have h2 := h 2 (by omega)
  have h3 := h 3 (by omega)
  have h4 := h 4 (by omega)
  simp at h0 h1 h2 h3 h4
  omega
theorem sdB_flip {m : Mo} {P p : Nat} (hP : P ≤ 5) (hp : p < P) (ok : MoOK m) : bXor ((sdB m.sd P : Nat) : Int) (bShl 1 (p : Int)) = ((sdB (m.flip p).sd P : Nat) : Int) := by
  have h32 : sdB m.sd P < 32 := bitsP32 hP
  have h2p : 2 ^ p < 32 := Nat.pow_lt_pow_right (a := 2) (n := 5) (by omega) (by omega)
  have e2 : bShl 1 (p : Int) = ((2 ^ p : Nat) : Int) := by
    rw [show (1 : Int) = ((1 : Nat) : Int) from rfl, bShl_n (by omega) (by omega), Nat.one_mul]
  rw [e2, bXor_n (by omega) (by omega)]
  congr 1
  have hx : sdB m.sd P ^^^ 2 ^ p < 32 := Nat.xor_lt_two_pow (n := 5) h32 h2p
  refine bits_eq hx (bitsP32 hP) (fun k hk => ?_)
  have key : ∀ (a : Fin 32) (p k : Fin 5), (a.val ^^^ 2 ^ p.val) / 2 ^ k.val % 2 = if k = p then 1 - a.val / 2 ^ k.val % 2 else a.val / 2 ^ k.val % 2 := by decide +kernel
  have := key ⟨_, h32⟩ ⟨p, by omega⟩ ⟨k, hk⟩
  simp only [Fin.mk.injEq] at this
  rw [this]
  unfold sdB
  rw [bitsP_bit, bitsP_bit]
  have hk1 := (ok.1 k).1
  have hp1 := (ok.1 p).1
  have es : (m.flip p).sd k = if k = p then 1 - m.sd p else m.sd k := rfl
  rw [es]
  by_cases q : k = p
  · subst q
    rw [if_pos rfl, if_pos rfl]
    rcases (show m.sd k = 0 ∨ m.sd k = 1 by omega) with q | q <;> simp [q, hp]
  · rw [if_neg q, if_neg q]
section CD
variable {G : AG} {d : Nat} {M : AM}
theorem c_H_isPerson0 {z p : Int} {P : Nat} (h0 : M 0 3 = z) (hz : isO z 2) (hP : M z 2 = P) : MS G d mi_H_isPerson [vr 0, vi p] M (fun r M' => r = some (vi (if 0 ≤ p ∧ p < (P : Int) then 1 else 0)) ∧ M' = M) := by
  refine MS.run ck_H_isPerson [some (vr 0), some (vi p)] [] 10 fun _ _ => ?_
  simp only [wR, wB, wE0, wE1, wE2, wE3, g0, gS, s10, s11, s1S, s20, s21, s2S, kl0, kl1, kl2, kl3, sp0, sp1, sp2, sp3, cn1, cn2, cn3, cn4, cn5, cn6, jJa, lk0, lk1, jmS, jmN, s4_0, s4_1, s4_2, s4_3, s4_4, sw0, sw1, cKs, cKn, true_and, and_true, List.map_cons, List.map_nil, Nat.reduceAdd, Nat.zero_add, Int.reduceAdd, Nat.reduceEqDiff, reduceIte, Classical.not_not, b_H_isPerson, shH, h0, hz, hP]
  (repeat' (first | omega | exact ⟨by omega, by omega⟩ | (with_reducible exact Or.inr trivial) | (with_reducible exact Or.inl trivial) | (with_reducible assumption) | (with_reducible exact Same.refl) | (with_reducible rfl) | (with_reducible refine And.intro ?_ ?_) | (with_reducible intro _)))
  all_goals first | rw [if_pos (by omega)] | rw [if_neg (by omega)]
theorem c_H_isSet0 {z v : Int} {P : Nat} (hd : 1 ≤ d) (h0 : M 0 3 = z) (hz : isO z 2) (hP : M z 2 = P) (hP5 : P ≤ 5) (hv : inI v) : MS G d mi_H_isSet [vr 0, vi v] M (fun r M' => r = some (vi (if 0 ≤ v ∧ v < ((2 ^ P : Nat) : Int) then 1 else 0)) ∧ M' = M) := by
  refine MS.run ck_H_isSet [some (vr 0), some (vi v)] [] 10 fun _ _ => ?_
  simp only [wR, wB, wE0, wE1, wE2, wE3, g0, gS, s10, s11, s1S, s20, s21, s2S, kl0, kl1, kl2, kl3, sp0, sp1, sp2, sp3, cn1, cn2, cn3, cn4, cn5, cn6, jJa, lk0, lk1, jmS, jmN, s4_0, s4_1, s4_2, s4_3, s4_4, sw0, sw1, cKs, cKn, true_and, and_true, List.map_cons, List.map_nil, Nat.reduceAdd, Nat.zero_add, Int.reduceAdd, Nat.reduceEqDiff, reduceIte, Classical.not_not, b_H_isSet, shH, h0, hz]
  refine ⟨by omega, MS.to (c_Ha_everyone hz hP hP5) fun _ => ?_⟩
  have e := set_iff hv hP5
  simp only [wR, wB, wE0, wE1, wE2, wE3, g0, gS, s10, s11, s1S, s20, s21, s2S, kl0, kl1, kl2, kl3, sp0, sp1, sp2, sp3, cn1, cn2, cn3, cn4, cn5, cn6, jJa, lk0, lk1, jmS, jmN, s4_0, s4_1, s4_2, s4_3, s4_4, sw0, sw1, cKs, cKn, true_and, and_true, List.map_cons, List.map_nil, Nat.reduceAdd, Nat.zero_add, Int.reduceAdd, Nat.reduceEqDiff, reduceIte, Classical.not_not, b_H_isSet, e]
  (repeat' (first | omega | exact ⟨by omega, by omega⟩ | (with_reducible exact Or.inr trivial) | (with_reducible exact Or.inl trivial) | (with_reducible assumption) | (with_reducible exact Same.refl) | (with_reducible rfl) | (with_reducible refine And.intro ?_ ?_) | (with_reducible intro _)))
  all_goals first | rw [if_pos (by omega)] | rw [if_neg (by omega)]
theorem c_H_tryDeed {z mz v : Int} {h : Hl} {m : Mo} (hd : 8 ≤ d) (h0 : M 0 3 = z) (hz : isO z 2) (hm : isO mz 4) (ok : HlOK h) (hC : CH M z h) (mok : MoOK m) (hM : CM M mz h.P m) (hh : m.hrs < 1000000000) :
    MS G d mi_H_tryDeed [vr 0, vr mz, vl v] M (fun r M' => r = some (vi (whyD h.P m v)) ∧ CM M' mz h.P (if whyD h.P m v = 0 then doD h m v else m) ∧ Same [z + 7, z + 8, mz, mz + 1] M M') := by
  have hP := ok.1
  have h32 := p2_32 hP
  have sm := sh_Mo hm
  have hmm1 := isO_arT hm sm.1
  refine MS.by ck_H_tryDeed [some (vr 0), some (vr mz), some (vl v), none, none, none] fun _ _ => ?_
  generalize hQ : (fun (r : Option AV) (M' : AM) => r = some (vi (whyD h.P m v)) ∧ CM M' mz h.P (if whyD h.P m v = 0 then doD h m v else m) ∧ Same [z + 7, z + 8, mz, mz + 1] M M') = Q
  have no : whyD h.P m v = 1 → Q (some (vi 1)) M := by
    intro e
    subst hQ
    exact ⟨by rw [e], by rw [if_neg (by omega)]; exact hM, Same.refl⟩
  have a16 : 0 ≤ v → v < 70 → AW G d mi_H_tryDeed Q 16 [some (vr 0), some (vr mz), some (vl v), none, none, none] [] M := by
    intro v0 v1
    obtain ⟨n, rfl⟩ := Int.eq_ofNat_of_zero_le v0
    have ew : w3 (n : Int) = n := w3_id ⟨by omega, by omega⟩
    refine AW.run ck_H_tryDeed [43, 45, 64] 10 16 ?_
    have a43 : whyD h.P m n = 1 → AW G d mi_H_tryDeed Q 43 [some (vr 0), some (vr mz), some (vl n), none, some (vi n), none] [] M := by
      intro e
      refine AW.run ck_H_tryDeed [] 10 43 ?_
      simp only [wR, wB, wE0, wE1, wE2, wE3, g0, gS, s10, s11, s1S, s20, s21, s2S, kl0, kl1, kl2, kl3, sp0, sp1, sp2, sp3, cn1, cn2, cn3, cn4, cn5, cn6, jJa, lk0, lk1, jmS, jmN, s4_0, s4_1, s4_2, s4_3, s4_4, sw0, sw1, cKs, cKn, true_and, and_true, List.map_cons, List.map_nil, Nat.reduceAdd, Nat.zero_add, Int.reduceAdd, Nat.reduceEqDiff, reduceIte, Classical.not_not, b_H_tryDeed]
      exact no e
    simp only [wR, wB, wE0, wE1, wE2, wE3, g0, gS, s10, s11, s1S, s20, s21, s2S, kl0, kl1, kl2, kl3, sp0, sp1, sp2, sp3, cn1, cn2, cn3, cn4, cn5, cn6, jJa, lk0, lk1, jmS, jmN, s4_0, s4_1, s4_2, s4_3, s4_4, sw0, sw1, cKs, cKn, true_and, and_true, List.map_cons, List.map_nil, Nat.reduceAdd, Nat.zero_add, Int.reduceAdd, Nat.reduceEqDiff, reduceIte, Classical.not_not, b_H_tryDeed, shH, ew]
    refine ⟨⟨by omega, by omega⟩, fun hge => ?_, fun hlt => ⟨fun h32' => a43 ?_, fun h32' => ⟨by omega, MS.to (c_H_isSet0 (by omega) h0 hz hC.2.2.1 hP ⟨by omega, by omega⟩) fun _ => ?_⟩⟩⟩
    · have a102 : ∀ k : Nat, k ≤ 9 → n < 60 → (n = 50 + k ∨ n = 40 + k) → AW G d mi_H_tryDeed Q 102 [some (vr 0), some (vr mz), some (vl n), none, some (vi n), none] [vi k] M := by
        intro k hk h60 hnk
        refine AW.run ck_H_tryDeed [] 10 102 ?_
        simp only [wR, wB, wE0, wE1, wE2, wE3, g0, gS, s10, s11, s1S, s20, s21, s2S, kl0, kl1, kl2, kl3, sp0, sp1, sp2, sp3, cn1, cn2, cn3, cn4, cn5, cn6, jJa, lk0, lk1, jmS, jmN, s4_0, s4_1, s4_2, s4_3, s4_4, sw0, sw1, cKs, cKn, true_and, and_true, List.map_cons, List.map_nil, Nat.reduceAdd, Nat.zero_add, Int.reduceAdd, Nat.reduceEqDiff, reduceIte, Classical.not_not, b_H_tryDeed, shH]
        refine ⟨by omega, MS.to (c_H_isPerson0 h0 hz hC.2.2.1) fun _ => ?_⟩
        simp only [wR, wB, wE0, wE1, wE2, wE3, g0, gS, s10, s11, s1S, s20, s21, s2S, kl0, kl1, kl2, kl3, sp0, sp1, sp2, sp3, cn1, cn2, cn3, cn4, cn5, cn6, jJa, lk0, lk1, jmS, jmN, s4_0, s4_1, s4_2, s4_3, s4_4, sw0, sw1, cKs, cKn, true_and, and_true, List.map_cons, List.map_nil, Nat.reduceAdd, Nat.zero_add, Int.reduceAdd, Nat.reduceEqDiff, reduceIte, Classical.not_not, b_H_tryDeed, shH, hm, sm, hM.1]
        have em : (n : Int) % 10 = k := by omega
        by_cases q : k < h.P
        · have ey : whyD h.P m n = 0 := by
            unfold whyD
            rw [if_neg (by omega), if_pos (by omega), if_pos (by omega)]
          rw [if_pos (by omega)]
          rw [sdB_flip hP q mok]
          subst hQ
          rw [ey, if_pos rfl]
          unfold doD
          rw [if_neg (by omega), em, Int.toNat_natCast]
          (repeat' (first | omega | exact ⟨by omega, by omega⟩ | (with_reducible exact Or.inr trivial) | (with_reducible exact Or.inl trivial) | (with_reducible assumption) | (with_reducible exact Same.refl) | (with_reducible rfl) | (with_reducible refine And.intro ?_ ?_) | (with_reducible intro _)))
          · rw [if_pos (by omega)]
            refine ⟨?_, ?_, ?_, ?_⟩
            · rw [up_eq]
            · rw [up_ne2 (by omega)]; exact hM.2.1
            · rw [up_ne2 (by omega)]; exact hM.2.2.1
            · intro p hp
              rw [up_ne1 (by omega)]; exact hM.2.2.2 p hp
          · exact Same.refl.up (by simp)
          · rw [if_neg (by omega), if_pos (by omega)]
            refine ⟨?_, ?_, ?_, ?_⟩
            · rw [up_ne1 (by omega)]; exact hM.1
            · rw [up_ne1 (by omega)]; exact hM.2.1
            · rw [up_ne1 (by omega)]; exact hM.2.2.1
            · intro p hp
              have es : (m.soup k).st p = if p = k then 4 else m.st p := rfl
              rw [es]
              by_cases qp : p = k
              · subst qp
                rw [up_eq, if_pos q, if_pos rfl]; rfl
              · rw [up_ne2 (by omega), if_neg qp]; exact hM.2.2.2 p hp
          · exact Same.refl.up (by simp)
        · rw [if_neg (by omega)]
          (repeat' (first | omega | exact ⟨by omega, by omega⟩ | (with_reducible exact Or.inr trivial) | (with_reducible exact Or.inl trivial) | (with_reducible assumption) | (with_reducible exact Same.refl) | (with_reducible rfl) | (with_reducible refine And.intro ?_ ?_) | (with_reducible intro _)))
          refine no ?_
          unfold whyD
          rw [if_neg (by omega), if_pos (by omega), if_neg (by omega)]
      refine AW.run ck_H_tryDeed [102] 10 64 ?_
      simp only [wR, wB, wE0, wE1, wE2, wE3, g0, gS, s10, s11, s1S, s20, s21, s2S, kl0, kl1, kl2, kl3, sp0, sp1, sp2, sp3, cn1, cn2, cn3, cn4, cn5, cn6, jJa, lk0, lk1, jmS, jmN, s4_0, s4_1, s4_2, s4_3, s4_4, sw0, sw1, cKs, cKn, true_and, and_true, List.map_cons, List.map_nil, Nat.reduceAdd, Nat.zero_add, Int.reduceAdd, Nat.reduceEqDiff, reduceIte, Classical.not_not, b_H_tryDeed, shH, hm]
      (repeat' (first | omega | exact ⟨by omega, by omega⟩ | (with_reducible exact Or.inr trivial) | (with_reducible exact Or.inl trivial) | (with_reducible assumption) | (with_reducible exact Same.refl) | (with_reducible rfl) | (with_reducible refine And.intro ?_ ?_) | (with_reducible intro _)))
      · have := a102 (n - 40) (by omega) (by omega) (by omega)
        rwa [show ((n - 40 : Nat) : Int) = (n : Int) - 40 by omega] at this
      · have := a102 (n - 50) (by omega) (by omega) (by omega)
        rwa [show ((n - 50 : Nat) : Int) = (n : Int) - 50 by omega] at this
      · have ey : whyD h.P m n = 0 := by
          unfold whyD
          rw [if_neg (by omega), if_neg (by omega), if_pos (by omega)]
        subst hQ
        rw [ey, if_pos rfl]
        refine ⟨rfl, ?_, Same.refl.up (by simp)⟩
        unfold doD
        rw [if_neg (by omega), if_neg (by omega), if_neg (by omega)]
        refine ⟨?_, ?_, ?_, ?_⟩
        · rw [up_ne2 (by omega)]; exact hM.1
        · rw [up_eq]
          show (n : Int) - 60 = (((n : Int) % 10).toNat : Int)
          omega
        · rw [up_ne2 (by omega)]; exact hM.2.2.1
        · intro p hp
          rw [up_ne1 (by omega)]; exact hM.2.2.2 p hp
    · unfold whyD
      rw [if_neg (by omega), if_neg (by omega), if_neg (by omega)]
    · simp only [wR, wB, wE0, wE1, wE2, wE3, g0, gS, s10, s11, s1S, s20, s21, s2S, kl0, kl1, kl2, kl3, sp0, sp1, sp2, sp3, cn1, cn2, cn3, cn4, cn5, cn6, jJa, lk0, lk1, jmS, jmN, s4_0, s4_1, s4_2, s4_3, s4_4, sw0, sw1, cKs, cKn, true_and, and_true, List.map_cons, List.map_nil, Nat.reduceAdd, Nat.zero_add, Int.reduceAdd, Nat.reduceEqDiff, reduceIte, Classical.not_not, b_H_tryDeed, shH]
      by_cases q : (n : Int) < ((2 ^ h.P : Nat) : Int)
      · rw [if_pos ⟨by omega, q⟩]
        (repeat' (first | omega | exact ⟨by omega, by omega⟩ | (with_reducible exact Or.inr trivial) | (with_reducible exact Or.inl trivial) | (with_reducible assumption) | (with_reducible exact Same.refl) | (with_reducible rfl) | (with_reducible refine And.intro ?_ ?_) | (with_reducible intro _)))
        refine AW.run ck_H_tryDeed [] 10 45 ?_
        simp only [wR, wB, wE0, wE1, wE2, wE3, g0, gS, s10, s11, s1S, s20, s21, s2S, kl0, kl1, kl2, kl3, sp0, sp1, sp2, sp3, cn1, cn2, cn3, cn4, cn5, cn6, jJa, lk0, lk1, jmS, jmN, s4_0, s4_1, s4_2, s4_3, s4_4, sw0, sw1, cKs, cKn, true_and, and_true, List.map_cons, List.map_nil, Nat.reduceAdd, Nat.zero_add, Int.reduceAdd, Nat.reduceEqDiff, reduceIte, Classical.not_not, b_H_tryDeed, shH, h0, hz, hm]
        refine ⟨by omega, (c_Ha_tire (by omega) hz hm ok hC mok hM (by omega) hh).mono ?_⟩
        rintro r M' okM' ⟨rfl, t1, t2, t3⟩
        simp only [wR, wB, wE0, wE1, wE2, wE3, g0, gS, s10, s11, s1S, s20, s21, s2S, kl0, kl1, kl2, kl3, sp0, sp1, sp2, sp3, cn1, cn2, cn3, cn4, cn5, cn6, jJa, lk0, lk1, jmS, jmN, s4_0, s4_1, s4_2, s4_3, s4_4, sw0, sw1, cKs, cKn, true_and, and_true, List.map_cons, List.map_nil, Nat.reduceAdd, Nat.zero_add, Int.reduceAdd, Nat.reduceEqDiff, reduceIte, Classical.not_not, b_H_tryDeed]
        have ey : whyD h.P m n = if n &&& (31 ^^^ ablM h.P m.st) = 0 then 0 else 2 := by
          unfold whyD whyS
          rw [if_pos (by omega), if_pos (by omega), Int.toNat_natCast]
        subst hQ
        by_cases q2 : n &&& (31 ^^^ ablM h.P m.st) = 0
        · rw [if_pos q2] at ey ⊢
          (repeat' (first | omega | exact ⟨by omega, by omega⟩ | (with_reducible exact Or.inr trivial) | (with_reducible exact Or.inl trivial) | (with_reducible assumption) | (with_reducible exact Same.refl) | (with_reducible rfl) | (with_reducible refine And.intro ?_ ?_) | (with_reducible intro _)))
          · rw [ey]
          · rw [if_pos ey]
            unfold doD
            rw [if_pos (by omega), Int.toNat_natCast]
            exact t1 q2
        · rw [if_neg q2] at ey ⊢
          (repeat' (first | omega | exact ⟨by omega, by omega⟩ | (with_reducible exact Or.inr trivial) | (with_reducible exact Or.inl trivial) | (with_reducible assumption) | (with_reducible exact Same.refl) | (with_reducible rfl) | (with_reducible refine And.intro ?_ ?_) | (with_reducible intro _)))
          · rw [ey]
          · rw [if_neg (by omega), t2 q2]
            exact hM
      · rw [if_neg (by omega)]
        (repeat' (first | omega | exact ⟨by omega, by omega⟩ | (with_reducible exact Or.inr trivial) | (with_reducible exact Or.inl trivial) | (with_reducible assumption) | (with_reducible exact Same.refl) | (with_reducible rfl) | (with_reducible refine And.intro ?_ ?_) | (with_reducible intro _)))
        refine a43 ?_
        unfold whyD whyS
        rw [if_pos (by omega), if_neg (by omega)]
  refine AW.run ck_H_tryDeed [14, 16] 10 0 ?_
  simp only [wR, wB, wE0, wE1, wE2, wE3, g0, gS, s10, s11, s1S, s20, s21, s2S, kl0, kl1, kl2, kl3, sp0, sp1, sp2, sp3, cn1, cn2, cn3, cn4, cn5, cn6, jJa, lk0, lk1, jmS, jmN, s4_0, s4_1, s4_2, s4_3, s4_4, sw0, sw1, cKs, cKn, true_and, and_true, List.map_cons, List.map_nil, Nat.reduceAdd, Nat.zero_add, Int.reduceAdd, Nat.reduceEqDiff, reduceIte, Classical.not_not, b_H_tryDeed, cmp3_lt, cmp3_le, cmp3_ge]
  have a14 : whyD h.P m v = 1 → AW G d mi_H_tryDeed Q 14 [some (vr 0), some (vr mz), some (vl v), none, none, none] [] M := by
    intro e
    refine AW.run ck_H_tryDeed [] 10 14 ?_
    simp only [wR, wB, wE0, wE1, wE2, wE3, g0, gS, s10, s11, s1S, s20, s21, s2S, kl0, kl1, kl2, kl3, sp0, sp1, sp2, sp3, cn1, cn2, cn3, cn4, cn5, cn6, jJa, lk0, lk1, jmS, jmN, s4_0, s4_1, s4_2, s4_3, s4_4, sw0, sw1, cKs, cKn, true_and, and_true, List.map_cons, List.map_nil, Nat.reduceAdd, Nat.zero_add, Int.reduceAdd, Nat.reduceEqDiff, reduceIte, Classical.not_not, b_H_tryDeed]
    exact no e
  (repeat' (first | omega | exact ⟨by omega, by omega⟩ | (with_reducible exact Or.inr trivial) | (with_reducible exact Or.inl trivial) | (with_reducible assumption) | (with_reducible exact Same.refl) | (with_reducible rfl) | (with_reducible refine And.intro ?_ ?_) | (with_reducible intro _)))
  all_goals first
    | exact a16 (by omega) (by omega)
    | (refine a14 ?_
       unfold whyD
       rw [if_neg (by omega), if_neg (by omega), if_neg (by omega)])
end CD
