/-! seen, seenBy, surely of the class -/
def aSeen (σ : Sg) (t : Int) : Int := if aRN σ t 8 (-1) 5 = 0 then (Wy (okSn σ.h (σ.tr t.toNat).2.2) (nxt σ.h σ.m.sd σ.m.cold) (σ.tr t.toNat).2.1 0 (cod σ.m.st σ.h.P) : Int) else aRN σ t 8 (-1) 5
noncomputable def aSeenBy (σ : Sg) (t i : Int) : Int := if aRN σ t 8 (-1) 5 = 0 then (if i < 0 then -3 else sbI (okSn σ.h (σ.tr t.toNat).2.2) (nxt σ.h σ.m.sd σ.m.cold) (cod σ.m.st σ.h.P) (σ.tr t.toNat).2.1 i.toNat) else aRN σ t 8 (-1) 5
def aSurely (σ : Sg) (t : Int) : Int := if aRN σ t 8 (-1) 5 = 0 then (surI (okSn σ.h (σ.tr t.toNat).2.2) (nxt σ.h σ.m.sd σ.m.cold) σ.h.P (cod σ.m.st σ.h.P) (σ.tr t.toNat).2.1 : Int) else aRN σ t 8 (-1) 5
def andL (F : FS) : Nat → Nat
  | 0 => 31
  | i + 1 => andL F i &&& F.hd (F.l.getD i 0)
theorem andL_bit {F : FS} {p : Nat} (hp : p < 5) : ∀ i, (andL F i / 2 ^ p % 2 = 1 ↔ ∀ j, j < i → bit' (F.hd (F.l.getD j 0)) p)
  | 0 => by
    have key : ∀ p : Fin 5, 31 / 2 ^ p.val % 2 = 1 := by decide
    exact ⟨fun _ j hj => absurd hj (by omega), fun _ => key ⟨p, hp⟩⟩
  | i + 1 => by
    simp only [andL]
    rw [and_bit, andL_bit hp i]
    constructor
    · rintro ⟨a, b⟩ j hj
      by_cases e : j = i
      · subst e; exact b
      · exact a j (by omega)
    · intro a
      exact ⟨fun j hj => a j (by omega), a i (by omega)⟩
theorem andL_lt {F : FS} : ∀ i, andL F i < 32
  | 0 => by simp [andL]
  | i + 1 => Nat.lt_of_le_of_lt Nat.and_le_left (andL_lt i)
section SN
variable {G : AG} {d : Nat} {M : AM}
theorem c_Ro_setAt {okI : Nat → Nat → Nat → Bool} {nx : Nat → Nat → Nat} {N s0 n i : Nat} (hN : N ≤ 32) (ho : ∀ i s y, N ≤ y → y < 32 → okI i s y = false) (hn : n ≤ 8) (hn1 : 1 ≤ n) (hx : ∀ s y, nx s y < 3125) (h0 : s0 < 3125) (hL : LkD M okI nx N s0 n) : MS G d mi_Ro_setAt [vr 56, vi i] M (fun r M' => r = some (vi (sbI okI nx s0 n i)) ∧ M' = M) := by
  obtain ⟨⟨a, b, hT⟩, h4, hc⟩ := hL
  have hz := hT.2.2.1
  obtain ⟨oa, ob⟩ := hz.o
  obtain ⟨s1, s2, s3⟩ := sh_Fr oa
  have k1 := hT.1
  have k2 := hT.2.2.2.1.1
  have hlen := len_lt hT.2.2.2.1.2.2.2.2.1 hT.2.2.2.1.2.2.2.2.2.1
  have hW : (lkH okI nx N s0 n).val (fun _ => 1) = Wy okI nx n 0 s0 := by
    have := lkH_Wy (nx := nx) (s0 := s0) hN ho n 0
    rw [Nat.zero_add] at this
    exact this
  have hnil := val_nil (F := lkH okI nx N s0 n) hT.2.2.2.1.2.2.2.2.2.2
  rw [hW] at hnil
  have hlt := lkH_lt (okI := okI) (nx := nx) (N := N) h0 hx
  refine MS.by ck_Ro_setAt [some (vr 56), some (vi i), none, none] fun _ _ => ?_
  generalize hQ : (fun (r : Option AV) (M' : AM) => r = some (vi (sbI okI nx s0 n i)) ∧ M' = M) = Q
  have a22 : sbI okI nx s0 n i = -1 → AW G d mi_Ro_setAt Q 22 [some (vr 56), some (vi i), none, none] [] M := by
    intro e
    refine AW.run ck_Ro_setAt [] 10 22 ?_
    simp only [wR, wB, wE0, wE1, wE2, wE3, g0, gS, s10, s11, s1S, s20, s21, s2S, kl0, kl1, kl2, kl3, sp0, sp1, sp2, sp3, cn1, cn2, cn3, cn4, cn5, cn6, jJa, lk0, lk1, jmS, jmN, s4_0, s4_1, s4_2, s4_3, s4_4, sw0, sw1, cKs, cKn, true_and, and_true, List.map_cons, List.map_nil, Nat.reduceAdd, Nat.zero_add, Int.reduceAdd, Nat.reduceEqDiff, reduceIte, Classical.not_not, b_Ro_setAt]
    subst hQ
    rw [e]
    exact ⟨rfl, rfl⟩
  refine AW.run ck_Ro_setAt [22, 24] 10 0 ?_
  simp only [wR, wB, wE0, wE1, wE2, wE3, g0, gS, s10, s11, s1S, s20, s21, s2S, kl0, kl1, kl2, kl3, sp0, sp1, sp2, sp3, cn1, cn2, cn3, cn4, cn5, cn6, jJa, lk0, lk1, jmS, jmN, s4_0, s4_1, s4_2, s4_3, s4_4, sw0, sw1, cKs, cKn, true_and, and_true, List.map_cons, List.map_nil, Nat.reduceAdd, Nat.zero_add, Int.reduceAdd, Nat.reduceEqDiff, reduceIte, Classical.not_not, b_Ro_setAt, shRo, k1, oa, k2, h4]
  by_cases q : Wy okI nx n 0 s0 = 0
  · have e0 := hnil.mpr q
    have := a22 (by unfold sbI; rw [if_pos (Or.inl q)])
    rw [e0]
    simp only [wR, wB, wE0, wE1, wE2, wE3, g0, gS, s10, s11, s1S, s20, s21, s2S, kl0, kl1, kl2, kl3, sp0, sp1, sp2, sp3, cn1, cn2, cn3, cn4, cn5, cn6, jJa, lk0, lk1, jmS, jmN, s4_0, s4_1, s4_2, s4_3, s4_4, sw0, sw1, cKs, cKn, true_and, and_true, List.map_cons, List.map_nil, Nat.reduceAdd, Nat.zero_add, Int.reduceAdd, Nat.reduceEqDiff, reduceIte, Classical.not_not, nc0, Int.reduceEq, not_true_eq_false, not_false_eq_true, false_imp_iff, true_imp_iff, and_self]
    (repeat' (first | omega | (with_reducible exact True.intro) | exact ⟨by omega, by omega⟩ | (with_reducible exact Or.inr trivial) | (with_reducible exact Or.inl trivial) | (with_reducible assumption) | (with_reducible exact Same.refl) | (with_reducible rfl) | (with_reducible refine And.intro ?_ ?_) | (with_reducible intro _)))
  · have hpos : (lkH okI nx N s0 n).l.length ≠ 0 := fun e => q (hnil.mp e)
    by_cases q2 : n ≤ i
    · have := a22 (by unfold sbI; rw [if_pos (Or.inr q2)])
      (repeat' (first | omega | (with_reducible exact True.intro) | exact ⟨by omega, by omega⟩ | (with_reducible exact Or.inr trivial) | (with_reducible exact Or.inl trivial) | (with_reducible assumption) | (with_reducible exact Same.refl) | (with_reducible rfl) | (with_reducible refine And.intro ?_ ?_) | (with_reducible intro _)))
    · obtain ⟨c, t, hch⟩ := Chl_ex (okI := okI) (nx := nx) (s0 := s0) (n := n) (by omega)
      have er := sbI_c hch (by omega) (show i < n by omega)
      obtain ⟨⟨p, p1, p2, p3⟩, hcm⟩ := lkH_chain hN ho hch n (Nat.le_refl _)
      have hp0 : p = 0 := by
        rcases Nat.eq_zero_or_pos p with e | e
        · exact e
        · have := p3 0 e
          rw [Nat.sub_self] at this
          exact absurd this (by show ¬ (1 : Nat) = 0; omega)
      subst hp0
      obtain ⟨g1, -, g3⟩ := hT.2.2.2.1.at p1
      rw [p2] at g1 g3
      have hcl : ∀ k, k ≤ n → c k < 3125 := by
        intro k hk
        obtain ⟨⟨p, p1, p2, _⟩, _⟩ := lkH_chain hN ho hch k hk
        rw [← p2]
        exact hlt k _ (getD_mem p1)
      have e66 : ∀ j, j < n → M 66 ((j : Int) * 3125 + (c (j + 1) : Int)) = ((c j * 32 + t j : Nat) : Int) := by
        intro j hj
        obtain ⟨⟨p, p1, p2, _⟩, _⟩ := lkH_chain hN ho hch (j + 1) (by omega)
        have := hc j hj (c (j + 1)) (by rw [← p2]; exact getD_mem p1)
        rw [this, hcm j hj]
      rw [er] at hQ
      have loop : ∀ (r k : Nat), k = i + r → k < n → AW G d mi_Ro_setAt Q 41 [some (vr 56), some (vi i), some (vi (c (k + 1))), some (vi k)] [] M := by
        intro r
        induction r with
        | zero =>
          intro k hk hkn
          obtain rfl : k = i := by omega
          have e := e66 k hkn
          have := hcl (k + 1) (by omega)
          have := (hch.2 k hkn).1
          refine AW.run ck_Ro_setAt [41] 10 41 ?_
          simp only [wR, wB, wE0, wE1, wE2, wE3, g0, gS, s10, s11, s1S, s20, s21, s2S, kl0, kl1, kl2, kl3, sp0, sp1, sp2, sp3, cn1, cn2, cn3, cn4, cn5, cn6, jJa, lk0, lk1, jmS, jmN, s4_0, s4_1, s4_2, s4_3, s4_4, sw0, sw1, cKs, cKn, true_and, and_true, List.map_cons, List.map_nil, Nat.reduceAdd, Nat.zero_add, Int.reduceAdd, Nat.reduceEqDiff, reduceIte, Classical.not_not, b_Ro_setAt, shRo, e]
          subst hQ
          (repeat' (first | omega | (with_reducible exact True.intro) | exact ⟨by omega, by omega⟩ | (with_reducible exact Or.inr trivial) | (with_reducible exact Or.inl trivial) | (with_reducible assumption) | (with_reducible exact Same.refl) | (with_reducible rfl) | (with_reducible refine And.intro ?_ ?_) | (with_reducible intro _)))
          rw [show ((c k * 32 + t k : Nat) : Int) % 32 = (t k : Int) by omega]
        | succ r ih =>
          intro k hk hkn
          have e := e66 k hkn
          have := hcl (k + 1) (by omega)
          have := hcl k (by omega)
          have := (hch.2 k hkn).1
          have key := ih (k - 1) (by omega) (by omega)
          rw [show k - 1 + 1 = k by omega, show ((k - 1 : Nat) : Int) = (k : Int) - 1 by omega] at key
          refine AW.run ck_Ro_setAt [41, 69] 10 41 ?_
          simp only [wR, wB, wE0, wE1, wE2, wE3, g0, gS, s10, s11, s1S, s20, s21, s2S, kl0, kl1, kl2, kl3, sp0, sp1, sp2, sp3, cn1, cn2, cn3, cn4, cn5, cn6, jJa, lk0, lk1, jmS, jmN, s4_0, s4_1, s4_2, s4_3, s4_4, sw0, sw1, cKs, cKn, true_and, and_true, List.map_cons, List.map_nil, Nat.reduceAdd, Nat.zero_add, Int.reduceAdd, Nat.reduceEqDiff, reduceIte, Classical.not_not, b_Ro_setAt, shRo, e]
          rw [show ((c k * 32 + t k : Nat) : Int) / 32 = (c k : Int) by omega]
          (repeat' (first | omega | (with_reducible exact True.intro) | exact ⟨by omega, by omega⟩ | (with_reducible exact Or.inr trivial) | (with_reducible exact Or.inl trivial) | (with_reducible assumption) | (with_reducible exact Same.refl) | (with_reducible rfl) | (with_reducible refine And.intro ?_ ?_) | (with_reducible intro _)))
      have := loop (n - 1 - i) (n - 1) (by omega) (by omega)
      rw [show n - 1 + 1 = n by omega, show ((n - 1 : Nat) : Int) = (n : Int) - 1 by omega] at this
      have a24 : AW G d mi_Ro_setAt Q 24 [some (vr 56), some (vi i), none, none] [] M := by
        have g1' : M (a + 1) 0 = (c n : Int) := g1
        refine AW.run ck_Ro_setAt [41] 10 24 ?_
        simp only [wR, wB, wE0, wE1, wE2, wE3, g0, gS, s10, s11, s1S, s20, s21, s2S, kl0, kl1, kl2, kl3, sp0, sp1, sp2, sp3, cn1, cn2, cn3, cn4, cn5, cn6, jJa, lk0, lk1, jmS, jmN, s4_0, s4_1, s4_2, s4_3, s4_4, sw0, sw1, cKs, cKn, true_and, and_true, List.map_cons, List.map_nil, Nat.reduceAdd, Nat.zero_add, Int.reduceAdd, Nat.reduceEqDiff, reduceIte, Classical.not_not, b_Ro_setAt, shRo, k1, oa, s1, g1', h4]
        (repeat' (first | omega | (with_reducible exact True.intro) | exact ⟨by omega, by omega⟩ | (with_reducible exact Or.inr trivial) | (with_reducible exact Or.inl trivial) | (with_reducible assumption) | (with_reducible exact Same.refl) | (with_reducible rfl) | (with_reducible refine And.intro ?_ ?_) | (with_reducible intro _)))
      (repeat' (first | omega | (with_reducible exact True.intro) | exact ⟨by omega, by omega⟩ | (with_reducible exact Or.inr trivial) | (with_reducible exact Or.inl trivial) | (with_reducible assumption) | (with_reducible exact Same.refl) | (with_reducible rfl) | (with_reducible refine And.intro ?_ ?_) | (with_reducible intro _)))
theorem c_Ro_heldInAll {okI : Nat → Nat → Nat → Bool} {nx : Nat → Nat → Nat} {P s0 n : Nat} (hP : P ≤ 5) (ho : ∀ i s y, 2 ^ P ≤ y → y < 32 → okI i s y = false) (hL : LkD M okI nx (2 ^ P) s0 n) : MS G d mi_Ro_heldInAll [vr 56] M (fun r M' => r = some (vi (surI okI nx P s0 n)) ∧ M' = M) := by
  obtain ⟨⟨a, b, hT⟩, h4, hc⟩ := hL
  have hN := p2_32 hP
  have hz := hT.2.2.1
  obtain ⟨oa, ob⟩ := hz.o
  obtain ⟨s1, s2, s3⟩ := sh_Fr oa
  have k1 := hT.1
  have k2 := hT.2.2.2.1.1
  have hlen := len_lt hT.2.2.2.1.2.2.2.2.1 hT.2.2.2.1.2.2.2.2.2.1
  have hW : (lkH okI nx (2 ^ P) s0 n).val (fun _ => 1) = Wy okI nx n 0 s0 := by
    have := lkH_Wy (nx := nx) (s0 := s0) hN ho n 0
    rw [Nat.zero_add] at this
    exact this
  have hnil := val_nil (F := lkH okI nx (2 ^ P) s0 n) hT.2.2.2.1.2.2.2.2.2.2
  rw [hW] at hnil
  have hF32 := lkH_32 (okI := okI) (nx := nx) (s0 := s0) hN n
  refine MS.by ck_Ro_heldInAll [some (vr 56), none, none] fun _ _ => ?_
  generalize hQ : (fun (r : Option AV) (M' : AM) => r = some (vi (surI okI nx P s0 n)) ∧ M' = M) = Q
  by_cases q : Wy okI nx n 0 s0 = 0
  · have e0 := hnil.mpr q
    rw [e0] at k2
    refine AW.run ck_Ro_heldInAll [12] 10 0 ?_
    simp only [wR, wB, wE0, wE1, wE2, wE3, g0, gS, s10, s11, s1S, s20, s21, s2S, kl0, kl1, kl2, kl3, sp0, sp1, sp2, sp3, cn1, cn2, cn3, cn4, cn5, cn6, jJa, lk0, lk1, jmS, jmN, s4_0, s4_1, s4_2, s4_3, s4_4, sw0, sw1, cKs, cKn, true_and, and_true, List.map_cons, List.map_nil, Nat.reduceAdd, Nat.zero_add, Int.reduceAdd, Nat.reduceEqDiff, reduceIte, Classical.not_not, b_Ro_heldInAll, shRo, k1, oa, k2, nc0, Int.reduceEq, not_true_eq_false, not_false_eq_true, false_imp_iff, true_imp_iff, and_self]
    subst hQ
    unfold surI
    rw [if_pos q]
    (repeat' (first | omega | (with_reducible exact True.intro) | exact ⟨by omega, by omega⟩ | (with_reducible exact Or.inr trivial) | (with_reducible exact Or.inl trivial) | (with_reducible assumption) | (with_reducible exact Same.refl) | (with_reducible rfl) | (with_reducible refine And.intro ?_ ?_) | (with_reducible intro _)))
    all_goals rfl
  · have hpos : (lkH okI nx (2 ^ P) s0 n).l.length ≠ 0 := fun e => q (hnil.mp e)
    have eS : surI okI nx P s0 n = andL (lkH okI nx (2 ^ P) s0 n) (lkH okI nx (2 ^ P) s0 n).l.length := by
      unfold surI
      rw [if_neg q]
      refine bits_eq (bitsP32 hP) (andL_lt _) (fun p hp => ?_)
      have hbit := andL_bit (F := lkH okI nx (2 ^ P) s0 n) hp (lkH okI nx (2 ^ P) s0 n).l.length
      have hrc := rcB_Wy (nx := nx) (s0 := s0) (p := p) hN ho n 0
      rw [Nat.zero_add] at hrc
      have hiff : (∀ j, j < (lkH okI nx (2 ^ P) s0 n).l.length → bit' ((lkH okI nx (2 ^ P) s0 n).hd ((lkH okI nx (2 ^ P) s0 n).l.getD j 0)) p) ↔ Wy (okB okI p) nx n 0 s0 = 0 := by
        constructor
        · intro hall
          rcases Nat.eq_zero_or_pos (Wy (okB okI p) nx n 0 s0) with e | e
          · exact e
          · obtain ⟨x, hx, _⟩ := hrc.mpr e
            have hm := rcB_mem n x hx
            obtain ⟨j, hj, ej⟩ := mem_getD hm
            have := hall j hj
            rw [ej] at this
            exact absurd this ((lkH_hd n x hm).mpr hx)
        · intro e j hj
          refine Classical.byContradiction (fun hb => ?_)
          have hm := getD_mem hj
          have h9 := hrc.mp ⟨_, (lkH_hd n _ hm).mp hb, (Nat.zero_lt_one : 0 < 1)⟩
          rw [e] at h9
          exact absurd h9 (Nat.lt_irrefl 0)
      rw [hiff] at hbit
      rw [bitsP_bit]
      by_cases hpP : p < P
      · by_cases qw : Wy (okB okI p) nx n 0 s0 = 0
        · rw [if_pos ⟨hpP, by simpa using qw⟩, hbit.mpr qw]
        · rw [if_neg (by simp [qw])]
          rcases Nat.mod_two_eq_zero_or_one (andL (lkH okI nx (2 ^ P) s0 n) (lkH okI nx (2 ^ P) s0 n).l.length / 2 ^ p) with e | e
          · exact e.symm
          · exact absurd (hbit.mp e) qw
      · rw [if_neg (fun h => hpP h.1)]
        have hcong : Wy (okB okI p) nx n 0 s0 = Wy okI nx n 0 s0 := Wy_congr (fun i s y hy => by
          cases eo : okI i s y with
          | false => unfold okB; rw [eo]; rfl
          | true =>
            refine okB_iff.mpr ⟨eo, ?_⟩
            have hyP : y < 2 ^ P := by
              rcases Nat.lt_or_ge y (2 ^ P) with q' | q'
              · exact q'
              · rw [ho i s y q' hy] at eo; cases eo
            have : (2 : Nat) ^ P ≤ 2 ^ p := Nat.pow_le_pow_right (by omega) (by omega)
            unfold bit'
            rw [Nat.div_eq_of_lt (by omega)]
            decide) n 0 s0
        rcases Nat.mod_two_eq_zero_or_one (andL (lkH okI nx (2 ^ P) s0 n) (lkH okI nx (2 ^ P) s0 n).l.length / 2 ^ p) with e | e
        · exact e.symm
        · exact absurd (by rw [← hcong]; exact hbit.mp e) q
    rw [eS] at hQ
    generalize hFF : lkH okI nx (2 ^ P) s0 n = F at hT k2 hlen hF32 hpos hQ
    have loop : ∀ (r k : Nat), k + r = F.l.length → AW G d mi_Ro_heldInAll Q 17 [some (vr 56), some (vi (andL F k)), some (vi k)] [] M := by
      intro r
      induction r with
      | zero =>
        intro k hk
        obtain rfl : k = F.l.length := by omega
        refine AW.run ck_Ro_heldInAll [17] 10 17 ?_
        simp only [wR, wB, wE0, wE1, wE2, wE3, g0, gS, s10, s11, s1S, s20, s21, s2S, kl0, kl1, kl2, kl3, sp0, sp1, sp2, sp3, cn1, cn2, cn3, cn4, cn5, cn6, jJa, lk0, lk1, jmS, jmN, s4_0, s4_1, s4_2, s4_3, s4_4, sw0, sw1, cKs, cKn, true_and, and_true, List.map_cons, List.map_nil, Nat.reduceAdd, Nat.zero_add, Int.reduceAdd, Nat.reduceEqDiff, reduceIte, Classical.not_not, b_Ro_heldInAll, shRo, k1, oa, k2, s1, s3]
        subst hQ
        (repeat' (first | omega | (with_reducible exact True.intro) | exact ⟨by omega, by omega⟩ | (with_reducible exact Or.inr trivial) | (with_reducible exact Or.inl trivial) | (with_reducible assumption) | (with_reducible exact Same.refl) | (with_reducible rfl) | (with_reducible refine And.intro ?_ ?_) | (with_reducible intro _)))
      | succ r ih =>
        intro k hk
        have hkl : k < F.l.length := by omega
        obtain ⟨g1, g2, g3⟩ := hT.2.2.2.1.at hkl
        have hm := getD_mem hkl
        have g4 := hT.2.2.2.1.2.2.2.1 _ hm
        have hal := andL_lt (F := F) k
        have := ih (k + 1) (by omega)
        have e2 : andL F (k + 1) = andL F k &&& F.hd (F.l.getD k 0) := rfl
        rw [e2] at this
        refine AW.run ck_Ro_heldInAll [17, 55] 10 17 ?_
        simp only [wR, wB, wE0, wE1, wE2, wE3, g0, gS, s10, s11, s1S, s20, s21, s2S, kl0, kl1, kl2, kl3, sp0, sp1, sp2, sp3, cn1, cn2, cn3, cn4, cn5, cn6, jJa, lk0, lk1, jmS, jmN, s4_0, s4_1, s4_2, s4_3, s4_4, sw0, sw1, cKs, cKn, true_and, and_true, List.map_cons, List.map_nil, Nat.reduceAdd, Nat.zero_add, Int.reduceAdd, Nat.reduceEqDiff, reduceIte, Classical.not_not, b_Ro_heldInAll, shRo, k1, oa, k2, s1, s3, g1, g4, bAnd_n (show andL F k < 2 ^ 31 by omega), ce]
        (repeat' (first | omega | (with_reducible exact True.intro) | exact ⟨by omega, by omega⟩ | (with_reducible exact Or.inr trivial) | (with_reducible exact Or.inl trivial) | (with_reducible assumption) | (with_reducible exact Same.refl) | (with_reducible rfl) | (with_reducible refine And.intro ?_ ?_) | (with_reducible intro _)))
    have := loop F.l.length 0 (by omega)
    refine AW.run ck_Ro_heldInAll [12] 10 0 ?_
    simp only [wR, wB, wE0, wE1, wE2, wE3, g0, gS, s10, s11, s1S, s20, s21, s2S, kl0, kl1, kl2, kl3, sp0, sp1, sp2, sp3, cn1, cn2, cn3, cn4, cn5, cn6, jJa, lk0, lk1, jmS, jmN, s4_0, s4_1, s4_2, s4_3, s4_4, sw0, sw1, cKs, cKn, true_and, and_true, List.map_cons, List.map_nil, Nat.reduceAdd, Nat.zero_add, Int.reduceAdd, Nat.reduceEqDiff, reduceIte, Classical.not_not, b_Ro_heldInAll, shRo, k1, oa, k2]
    (repeat' (first | omega | (with_reducible exact True.intro) | exact ⟨by omega, by omega⟩ | (with_reducible exact Or.inr trivial) | (with_reducible exact Or.inl trivial) | (with_reducible assumption) | (with_reducible exact Same.refl) | (with_reducible rfl) | (with_reducible refine And.intro ?_ ?_) | (with_reducible intro _)))
    refine AW.run ck_Ro_heldInAll [17] 10 12 ?_
    simp only [wR, wB, wE0, wE1, wE2, wE3, g0, gS, s10, s11, s1S, s20, s21, s2S, kl0, kl1, kl2, kl3, sp0, sp1, sp2, sp3, cn1, cn2, cn3, cn4, cn5, cn6, jJa, lk0, lk1, jmS, jmN, s4_0, s4_1, s4_2, s4_3, s4_4, sw0, sw1, cKs, cKn, true_and, and_true, List.map_cons, List.map_nil, Nat.reduceAdd, Nat.zero_add, Int.reduceAdd, Nat.reduceEqDiff, reduceIte, Classical.not_not, b_Ro_heldInAll]
    exact this
theorem c_H_look {j B : Nat} {σ : Sg} (hd : 15 ≤ d) (ok : SgOK B σ) (hR : CR M σ) (hj : j < 4) (hne : (σ.tr j).1 ≠ -1) (h1 : 1 ≤ (σ.tr j).2.1) (h8 : (σ.tr j).2.1 ≤ 8) : MS G d mi_H_look [vr 0, vi j] M (fun r M' => r = none ∧ LkD M' (okSn σ.h (σ.tr j).2.2) (nxt σ.h σ.m.sd σ.m.cold) (2 ^ σ.h.P) (cod σ.m.st σ.h.P) (σ.tr j).2.1 ∧ CR M' σ ∧ Hi M M') := by
  obtain ⟨z, hs, hM, hp, hT⟩ := hR.z
  have hok := ok.2.2.1
  have hP := hok.1
  have mok := ok.2.2.2.1.1
  have hz := hs.z
  have hzz := hs.2.2.1
  have ho := tr_O j hj
  refine MS.run ck_H_look [some (vr 0), some (vi j)] [] 10 fun _ _ => ?_
  simp only [wR, wB, wE0, wE1, wE2, wE3, g0, gS, s10, s11, s1S, s20, s21, s2S, kl0, kl1, kl2, kl3, sp0, sp1, sp2, sp3, cn1, cn2, cn3, cn4, cn5, cn6, jJa, lk0, lk1, jmS, jmN, s4_0, s4_1, s4_2, s4_3, s4_4, sw0, sw1, cKs, cKn, true_and, and_true, List.map_cons, List.map_nil, Nat.reduceAdd, Nat.zero_add, Int.reduceAdd, Nat.reduceEqDiff, reduceIte, Classical.not_not, b_H_look, shH, hs.1, hz]
  refine ⟨by omega, MS.to (c_Ha_everyone hz hs.2.2.2.2.2.1 hP) fun _ => ?_⟩
  simp only [wR, wB, wE0, wE1, wE2, wE3, g0, gS, s10, s11, s1S, s20, s21, s2S, kl0, kl1, kl2, kl3, sp0, sp1, sp2, sp3, cn1, cn2, cn3, cn4, cn5, cn6, jJa, lk0, lk1, jmS, jmN, s4_0, s4_1, s4_2, s4_3, s4_4, sw0, sw1, cKs, cKn, true_and, and_true, List.map_cons, List.map_nil, Nat.reduceAdd, Nat.zero_add, Int.reduceAdd, Nat.reduceEqDiff, reduceIte, Classical.not_not, b_H_look, shH]
  refine ⟨by omega, (c_St_aim (d := d - 1) (by omega) hz hok mok hs.2.2.2 hM hR.inv (all_lt hP)).mono ?_⟩
  rintro r M1 okM1 ⟨rfl, u1, u2'⟩
  have u2 : Scr M M1 := u2'.scr (by intro x hx; simp only [List.mem_cons, List.not_mem_nil, or_false] at hx; omega)
  simp only [wR, wB, wE0, wE1, wE2, wE3, g0, gS, s10, s11, s1S, s20, s21, s2S, kl0, kl1, kl2, kl3, sp0, sp1, sp2, sp3, cn1, cn2, cn3, cn4, cn5, cn6, jJa, lk0, lk1, jmS, jmN, s4_0, s4_1, s4_2, s4_3, s4_4, sw0, sw1, cKs, cKn, true_and, and_true, List.map_cons, List.map_nil, Nat.reduceAdd, Nat.zero_add, Int.reduceAdd, Nat.reduceEqDiff, reduceIte, Classical.not_not, b_H_look, shH]
  refine ⟨by omega, MS.to (c_H_nowCode (d := d - 1) (by omega) (CR.cz hs u2) (hM.eq (u2 _ (by omega)) (u2 _ (by omega))) hP mok) fun _ => ?_⟩
  obtain ⟨t1, t2, t3, t4⟩ := (hT j hj).eq (N := M1) (u2 _ (by omega)) (u2 _ (by omega)) (u2 _ (by omega))
  obtain ⟨t5, t6⟩ := t4 hne
  rw [if_neg hne] at t2
  simp only [wR, wB, wE0, wE1, wE2, wE3, g0, gS, s10, s11, s1S, s20, s21, s2S, kl0, kl1, kl2, kl3, sp0, sp1, sp2, sp3, cn1, cn2, cn3, cn4, cn5, cn6, jJa, lk0, lk1, jmS, jmN, s4_0, s4_1, s4_2, s4_3, s4_4, sw0, sw1, cKs, cKn, true_and, and_true, List.map_cons, List.map_nil, Nat.reduceAdd, Nat.zero_add, Int.reduceAdd, Nat.reduceEqDiff, reduceIte, Classical.not_not, b_H_look, shH, shR0, l30, t1, ho]
  (repeat' (first | omega | (with_reducible exact True.intro) | exact ⟨by omega, by omega⟩ | (with_reducible exact Or.inr trivial) | (with_reducible exact Or.inl trivial) | (with_reducible assumption) | (with_reducible exact Same.refl) | (with_reducible rfl) | (with_reducible refine And.intro ?_ ?_) | (with_reducible intro _)))
  refine (c_Ro_look (d := d - 1) (told := (σ.tr j).2.2) (by omega) hok u1 (hR.rw.eq (fun x hx => u2 x (by omega))) (cod_5P (fun p => (mok.1 p).2)) ho (by omega) t2 h1 h8 (fun i hi => by rw [show (87 : Int) + 2 * j + 1 = 88 + 2 * j by omega]; exact t6 i hi)).mono ?_
  rintro r N okN ⟨rfl, v1, v2, v3⟩
  obtain ⟨c1, c2⟩ := hR.rows mok u2 v3 v2 (by obtain ⟨⟨a, b, hh⟩, _⟩ := v1; exact hh.inv)
  simp only [wR, wB, wE0, wE1, wE2, wE3, g0, gS, s10, s11, s1S, s20, s21, s2S, kl0, kl1, kl2, kl3, sp0, sp1, sp2, sp3, cn1, cn2, cn3, cn4, cn5, cn6, jJa, lk0, lk1, jmS, jmN, s4_0, s4_1, s4_2, s4_3, s4_4, sw0, sw1, cKs, cKn, true_and, and_true, List.map_cons, List.map_nil, Nat.reduceAdd, Nat.zero_add, Int.reduceAdd, Nat.reduceEqDiff, reduceIte, Classical.not_not, b_H_look]
  exact ⟨v1, c1, c2⟩
theorem seen_bd {okI : Nat → Nat → Nat → Bool} {nx : Nat → Nat → Nat} {N s0 n : Nat} (hN : N ≤ 32) (hn : n ≤ 8) : (lkH okI nx N s0 n).val (fun _ => 1) < 2 ^ 62 := by
  have := lkH_bd (okI := okI) (nx := nx) (s0 := s0) hN n
  have h7 : (32 : Nat) ^ n ≤ 32 ^ 8 := Nat.pow_le_pow_right (by omega) hn
  omega
theorem c_H_seen {t : Int} {B : Nat} {σ : Sg} (hd : 20 ≤ d) (ok : SgOK B σ) (hR : CR M σ) : MS G d mi_H_seen [vr 0, vi t] M (fun r M' => r = some (vl (aSeen σ t)) ∧ CR M' σ ∧ Hi M M') := by
  have hP := ok.2.2.1.1
  have h32 := p2_32 hP
  refine MS.by ck_H_seen [some (vr 0), some (vi t), none] fun _ _ => ?_
  generalize hQ : (fun (r : Option AV) (M' : AM) => r = some (vl (aSeen σ t)) ∧ CR M' σ ∧ Hi M M') = Q
  unfold aSeen at hQ
  refine AW.run ck_H_seen [17] 10 0 ?_
  simp only [wR, wB, wE0, wE1, wE2, wE3, g0, gS, s10, s11, s1S, s20, s21, s2S, kl0, kl1, kl2, kl3, sp0, sp1, sp2, sp3, cn1, cn2, cn3, cn4, cn5, cn6, jJa, lk0, lk1, jmS, jmN, s4_0, s4_1, s4_2, s4_3, s4_4, sw0, sw1, cKs, cKn, true_and, and_true, List.map_cons, List.map_nil, Nat.reduceAdd, Nat.zero_add, Int.reduceAdd, Nat.reduceEqDiff, reduceIte, Classical.not_not, b_H_seen, shH]
  refine ⟨by omega, MS.to (c_H_refusedNumbers (d := d - 1) (by omega) ok hR) fun _ => ?_⟩
  simp only [wR, wB, wE0, wE1, wE2, wE3, g0, gS, s10, s11, s1S, s20, s21, s2S, kl0, kl1, kl2, kl3, sp0, sp1, sp2, sp3, cn1, cn2, cn3, cn4, cn5, cn6, jJa, lk0, lk1, jmS, jmN, s4_0, s4_1, s4_2, s4_3, s4_4, sw0, sw1, cKs, cKn, true_and, and_true, List.map_cons, List.map_nil, Nat.reduceAdd, Nat.zero_add, Int.reduceAdd, Nat.reduceEqDiff, reduceIte, Classical.not_not, b_H_seen, shH]
  by_cases q : aRN σ t 8 (-1) 5 = 0
  · rw [if_pos q] at hQ
    obtain ⟨j, rfl, hj, hne, h1, h8, -⟩ := aRN_0 q
    rw [Int.toNat_natCast] at hQ
    (repeat' (first | omega | (with_reducible exact True.intro) | exact ⟨by omega, by omega⟩ | (with_reducible exact Or.inr trivial) | (with_reducible exact Or.inl trivial) | (with_reducible assumption) | (with_reducible exact Same.refl) | (with_reducible rfl) | (with_reducible refine And.intro ?_ ?_) | (with_reducible intro _)))
    refine AW.run ck_H_seen [] 10 17 ?_
    simp only [wR, wB, wE0, wE1, wE2, wE3, g0, gS, s10, s11, s1S, s20, s21, s2S, kl0, kl1, kl2, kl3, sp0, sp1, sp2, sp3, cn1, cn2, cn3, cn4, cn5, cn6, jJa, lk0, lk1, jmS, jmN, s4_0, s4_1, s4_2, s4_3, s4_4, sw0, sw1, cKs, cKn, true_and, and_true, List.map_cons, List.map_nil, Nat.reduceAdd, Nat.zero_add, Int.reduceAdd, Nat.reduceEqDiff, reduceIte, Classical.not_not, b_H_seen, shH]
    refine ⟨by omega, (c_H_look (d := d - 1) (by omega) ok hR hj hne h1 (by omega)).mono ?_⟩
    rintro r N okN ⟨rfl, ⟨⟨a, b, hT⟩, h4, hc⟩, c1, c2⟩
    simp only [wR, wB, wE0, wE1, wE2, wE3, g0, gS, s10, s11, s1S, s20, s21, s2S, kl0, kl1, kl2, kl3, sp0, sp1, sp2, sp3, cn1, cn2, cn3, cn4, cn5, cn6, jJa, lk0, lk1, jmS, jmN, s4_0, s4_1, s4_2, s4_3, s4_4, sw0, sw1, cKs, cKn, true_and, and_true, List.map_cons, List.map_nil, Nat.reduceAdd, Nat.zero_add, Int.reduceAdd, Nat.reduceEqDiff, reduceIte, Classical.not_not, b_H_seen, shH]
    refine ⟨by omega, MS.to (c_Ro_total hT (seen_bd h32 (by omega))) fun _ => ?_⟩
    have hW := lkH_Wy (okI := okSn σ.h (σ.tr j).2.2) (nx := nxt σ.h σ.m.sd σ.m.cold) (s0 := cod σ.m.st σ.h.P) h32 (okSn_out hP) (σ.tr j).2.1 0
    rw [Nat.zero_add] at hW
    have hW' : (lkH (okSn σ.h (σ.tr j).2.2) (nxt σ.h σ.m.sd σ.m.cold) (2 ^ σ.h.P) (cod σ.m.st σ.h.P) (σ.tr j).2.1).val (fun _ => 1) = Wy (okSn σ.h (σ.tr j).2.2) (nxt σ.h σ.m.sd σ.m.cold) (σ.tr j).2.1 0 (cod σ.m.st σ.h.P) := hW
    rw [hW']
    simp only [wR, wB, wE0, wE1, wE2, wE3, g0, gS, s10, s11, s1S, s20, s21, s2S, kl0, kl1, kl2, kl3, sp0, sp1, sp2, sp3, cn1, cn2, cn3, cn4, cn5, cn6, jJa, lk0, lk1, jmS, jmN, s4_0, s4_1, s4_2, s4_3, s4_4, sw0, sw1, cKs, cKn, true_and, and_true, List.map_cons, List.map_nil, Nat.reduceAdd, Nat.zero_add, Int.reduceAdd, Nat.reduceEqDiff, reduceIte, Classical.not_not, b_H_seen]
    subst hQ
    exact ⟨rfl, c1, c2⟩
  · rw [if_neg q] at hQ
    subst hQ
    have := Hi.refl (M := M)
    (repeat' (first | omega | (with_reducible exact True.intro) | exact ⟨by omega, by omega⟩ | (with_reducible exact Or.inr trivial) | (with_reducible exact Or.inl trivial) | (with_reducible assumption) | (with_reducible exact Same.refl) | (with_reducible rfl) | (with_reducible refine And.intro ?_ ?_) | (with_reducible intro _)))
theorem c_H_seenBy {t i : Int} {B : Nat} {σ : Sg} (hd : 20 ≤ d) (ok : SgOK B σ) (hR : CR M σ) : MS G d mi_H_seenBy [vr 0, vi t, vi i] M (fun r M' => r = some (vi (aSeenBy σ t i)) ∧ CR M' σ ∧ Hi M M') := by
  have hok := ok.2.2.1
  have hP := hok.1
  have h32 := p2_32 hP
  have mok := ok.2.2.2.1.1
  refine MS.by ck_H_seenBy [some (vr 0), some (vi t), some (vi i), none] fun _ _ => ?_
  generalize hQ : (fun (r : Option AV) (M' : AM) => r = some (vi (aSeenBy σ t i)) ∧ CR M' σ ∧ Hi M M') = Q
  unfold aSeenBy at hQ
  refine AW.run ck_H_seenBy [16] 10 0 ?_
  simp only [wR, wB, wE0, wE1, wE2, wE3, g0, gS, s10, s11, s1S, s20, s21, s2S, kl0, kl1, kl2, kl3, sp0, sp1, sp2, sp3, cn1, cn2, cn3, cn4, cn5, cn6, jJa, lk0, lk1, jmS, jmN, s4_0, s4_1, s4_2, s4_3, s4_4, sw0, sw1, cKs, cKn, true_and, and_true, List.map_cons, List.map_nil, Nat.reduceAdd, Nat.zero_add, Int.reduceAdd, Nat.reduceEqDiff, reduceIte, Classical.not_not, b_H_seenBy, shH]
  refine ⟨by omega, MS.to (c_H_refusedNumbers (d := d - 1) (by omega) ok hR) fun _ => ?_⟩
  simp only [wR, wB, wE0, wE1, wE2, wE3, g0, gS, s10, s11, s1S, s20, s21, s2S, kl0, kl1, kl2, kl3, sp0, sp1, sp2, sp3, cn1, cn2, cn3, cn4, cn5, cn6, jJa, lk0, lk1, jmS, jmN, s4_0, s4_1, s4_2, s4_3, s4_4, sw0, sw1, cKs, cKn, true_and, and_true, List.map_cons, List.map_nil, Nat.reduceAdd, Nat.zero_add, Int.reduceAdd, Nat.reduceEqDiff, reduceIte, Classical.not_not, b_H_seenBy, shH]
  by_cases q : aRN σ t 8 (-1) 5 = 0
  · rw [if_pos q] at hQ
    obtain ⟨j, rfl, hj, hne, h1, h8, -⟩ := aRN_0 q
    rw [Int.toNat_natCast] at hQ
    (repeat' (first | omega | (with_reducible exact True.intro) | exact ⟨by omega, by omega⟩ | (with_reducible exact Or.inr trivial) | (with_reducible exact Or.inl trivial) | (with_reducible assumption) | (with_reducible exact Same.refl) | (with_reducible rfl) | (with_reducible refine And.intro ?_ ?_) | (with_reducible intro _)))
    refine AW.run ck_H_seenBy [] 10 16 ?_
    simp only [wR, wB, wE0, wE1, wE2, wE3, g0, gS, s10, s11, s1S, s20, s21, s2S, kl0, kl1, kl2, kl3, sp0, sp1, sp2, sp3, cn1, cn2, cn3, cn4, cn5, cn6, jJa, lk0, lk1, jmS, jmN, s4_0, s4_1, s4_2, s4_3, s4_4, sw0, sw1, cKs, cKn, true_and, and_true, List.map_cons, List.map_nil, Nat.reduceAdd, Nat.zero_add, Int.reduceAdd, Nat.reduceEqDiff, reduceIte, Classical.not_not, b_H_seenBy, shH]
    by_cases q2 : i < 0
    · rw [if_pos q2] at hQ
      subst hQ
      have := Hi.refl (M := M)
      (repeat' (first | omega | (with_reducible exact True.intro) | exact ⟨by omega, by omega⟩ | (with_reducible exact Or.inr trivial) | (with_reducible exact Or.inl trivial) | (with_reducible assumption) | (with_reducible exact Same.refl) | (with_reducible rfl) | (with_reducible refine And.intro ?_ ?_) | (with_reducible intro _)))
    · rw [if_neg q2] at hQ
      obtain ⟨k, rfl⟩ := Int.eq_ofNat_of_zero_le (show 0 ≤ i by omega)
      rw [Int.toNat_natCast] at hQ
      (repeat' (first | omega | (with_reducible exact True.intro) | exact ⟨by omega, by omega⟩ | (with_reducible exact Or.inr trivial) | (with_reducible exact Or.inl trivial) | (with_reducible assumption) | (with_reducible exact Same.refl) | (with_reducible rfl) | (with_reducible refine And.intro ?_ ?_) | (with_reducible intro _)))
      refine (c_H_look (d := d - 1) (by omega) ok hR hj hne h1 (by omega)).mono ?_
      rintro r N okN ⟨rfl, hL, c1, c2⟩
      simp only [wR, wB, wE0, wE1, wE2, wE3, g0, gS, s10, s11, s1S, s20, s21, s2S, kl0, kl1, kl2, kl3, sp0, sp1, sp2, sp3, cn1, cn2, cn3, cn4, cn5, cn6, jJa, lk0, lk1, jmS, jmN, s4_0, s4_1, s4_2, s4_3, s4_4, sw0, sw1, cKs, cKn, true_and, and_true, List.map_cons, List.map_nil, Nat.reduceAdd, Nat.zero_add, Int.reduceAdd, Nat.reduceEqDiff, reduceIte, Classical.not_not, b_H_seenBy, shH]
      refine ⟨by omega, MS.to (c_Ro_setAt h32 (okSn_out hP) (by omega) h1 (fun s y => nxt_lt hok) (cod_100k hok mok) hL) fun _ => ?_⟩
      simp only [wR, wB, wE0, wE1, wE2, wE3, g0, gS, s10, s11, s1S, s20, s21, s2S, kl0, kl1, kl2, kl3, sp0, sp1, sp2, sp3, cn1, cn2, cn3, cn4, cn5, cn6, jJa, lk0, lk1, jmS, jmN, s4_0, s4_1, s4_2, s4_3, s4_4, sw0, sw1, cKs, cKn, true_and, and_true, List.map_cons, List.map_nil, Nat.reduceAdd, Nat.zero_add, Int.reduceAdd, Nat.reduceEqDiff, reduceIte, Classical.not_not, b_H_seenBy]
      subst hQ
      exact ⟨rfl, c1, c2⟩
  · rw [if_neg q] at hQ
    subst hQ
    have := Hi.refl (M := M)
    (repeat' (first | omega | (with_reducible exact True.intro) | exact ⟨by omega, by omega⟩ | (with_reducible exact Or.inr trivial) | (with_reducible exact Or.inl trivial) | (with_reducible assumption) | (with_reducible exact Same.refl) | (with_reducible rfl) | (with_reducible refine And.intro ?_ ?_) | (with_reducible intro _)))
theorem c_H_surely {t : Int} {B : Nat} {σ : Sg} (hd : 20 ≤ d) (ok : SgOK B σ) (hR : CR M σ) : MS G d mi_H_surely [vr 0, vi t] M (fun r M' => r = some (vi (aSurely σ t)) ∧ CR M' σ ∧ Hi M M') := by
  have hP := ok.2.2.1.1
  refine MS.by ck_H_surely [some (vr 0), some (vi t), none] fun _ _ => ?_
  generalize hQ : (fun (r : Option AV) (M' : AM) => r = some (vi (aSurely σ t)) ∧ CR M' σ ∧ Hi M M') = Q
  unfold aSurely at hQ
  refine AW.run ck_H_surely [16] 10 0 ?_
  simp only [wR, wB, wE0, wE1, wE2, wE3, g0, gS, s10, s11, s1S, s20, s21, s2S, kl0, kl1, kl2, kl3, sp0, sp1, sp2, sp3, cn1, cn2, cn3, cn4, cn5, cn6, jJa, lk0, lk1, jmS, jmN, s4_0, s4_1, s4_2, s4_3, s4_4, sw0, sw1, cKs, cKn, true_and, and_true, List.map_cons, List.map_nil, Nat.reduceAdd, Nat.zero_add, Int.reduceAdd, Nat.reduceEqDiff, reduceIte, Classical.not_not, b_H_surely, shH]
  refine ⟨by omega, MS.to (c_H_refusedNumbers (d := d - 1) (by omega) ok hR) fun _ => ?_⟩
  simp only [wR, wB, wE0, wE1, wE2, wE3, g0, gS, s10, s11, s1S, s20, s21, s2S, kl0, kl1, kl2, kl3, sp0, sp1, sp2, sp3, cn1, cn2, cn3, cn4, cn5, cn6, jJa, lk0, lk1, jmS, jmN, s4_0, s4_1, s4_2, s4_3, s4_4, sw0, sw1, cKs, cKn, true_and, and_true, List.map_cons, List.map_nil, Nat.reduceAdd, Nat.zero_add, Int.reduceAdd, Nat.reduceEqDiff, reduceIte, Classical.not_not, b_H_surely, shH]
  by_cases q : aRN σ t 8 (-1) 5 = 0
  · rw [if_pos q] at hQ
    obtain ⟨j, rfl, hj, hne, h1, h8, -⟩ := aRN_0 q
    rw [Int.toNat_natCast] at hQ
    (repeat' (first | omega | (with_reducible exact True.intro) | exact ⟨by omega, by omega⟩ | (with_reducible exact Or.inr trivial) | (with_reducible exact Or.inl trivial) | (with_reducible assumption) | (with_reducible exact Same.refl) | (with_reducible rfl) | (with_reducible refine And.intro ?_ ?_) | (with_reducible intro _)))
    refine AW.run ck_H_surely [] 10 16 ?_
    simp only [wR, wB, wE0, wE1, wE2, wE3, g0, gS, s10, s11, s1S, s20, s21, s2S, kl0, kl1, kl2, kl3, sp0, sp1, sp2, sp3, cn1, cn2, cn3, cn4, cn5, cn6, jJa, lk0, lk1, jmS, jmN, s4_0, s4_1, s4_2, s4_3, s4_4, sw0, sw1, cKs, cKn, true_and, and_true, List.map_cons, List.map_nil, Nat.reduceAdd, Nat.zero_add, Int.reduceAdd, Nat.reduceEqDiff, reduceIte, Classical.not_not, b_H_surely, shH]
    refine ⟨by omega, (c_H_look (d := d - 1) (by omega) ok hR hj hne h1 (by omega)).mono ?_⟩
    rintro r N okN ⟨rfl, hL, c1, c2⟩
    simp only [wR, wB, wE0, wE1, wE2, wE3, g0, gS, s10, s11, s1S, s20, s21, s2S, kl0, kl1, kl2, kl3, sp0, sp1, sp2, sp3, cn1, cn2, cn3, cn4, cn5, cn6, jJa, lk0, lk1, jmS, jmN, s4_0, s4_1, s4_2, s4_3, s4_4, sw0, sw1, cKs, cKn, true_and, and_true, List.map_cons, List.map_nil, Nat.reduceAdd, Nat.zero_add, Int.reduceAdd, Nat.reduceEqDiff, reduceIte, Classical.not_not, b_H_surely, shH]
    refine ⟨by omega, MS.to (c_Ro_heldInAll hP (okSn_out hP) hL) fun _ => ?_⟩
    simp only [wR, wB, wE0, wE1, wE2, wE3, g0, gS, s10, s11, s1S, s20, s21, s2S, kl0, kl1, kl2, kl3, sp0, sp1, sp2, sp3, cn1, cn2, cn3, cn4, cn5, cn6, jJa, lk0, lk1, jmS, jmN, s4_0, s4_1, s4_2, s4_3, s4_4, sw0, sw1, cKs, cKn, true_and, and_true, List.map_cons, List.map_nil, Nat.reduceAdd, Nat.zero_add, Int.reduceAdd, Nat.reduceEqDiff, reduceIte, Classical.not_not, b_H_surely]
    subst hQ
    exact ⟨rfl, c1, c2⟩
  · rw [if_neg q] at hQ
    subst hQ
    have := Hi.refl (M := M)
    (repeat' (first | omega | (with_reducible exact True.intro) | exact ⟨by omega, by omega⟩ | (with_reducible exact Or.inr trivial) | (with_reducible exact Or.inl trivial) | (with_reducible assumption) | (with_reducible exact Same.refl) | (with_reducible rfl) | (with_reducible refine And.intro ?_ ?_) | (with_reducible intro _)))
end SN
