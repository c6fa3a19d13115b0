/-! chance, mean: the model -/
section LY2
variable {G : AG} {d : Nat} {M : AM}
set_option maxRecDepth 20000 in
theorem c_Md_laysLikely {h : Hl} {m : Mo} {j n : Nat} {sdI : Int} {told : Nat → Nat} {cf : Nat → Nat → Bool} (hd : 10 ≤ d) (hok : HlOK h) (mok : MoOK m) (hH : MH (M 118) h) (hm : MRow (fun y => M 118 (19 + y)) h.P m) (hj : j < 4) (hn : n ≤ 6) (hn1 : M 136 j = n) (ht : ∀ i : Nat, i < n → M 137 (40 * (j : Int) + (i : Int)) = told i ∧ told i < 2 ^ h.P) (hcf : (sdI = -1 ∧ ∀ i s, cf i s = true) ∨ (∃ k : Nat, k ≤ 1 ∧ sdI = k ∧ ∀ i s, cf i s = decide (h.must ≤ hands h m.sd m.cold s (tset h.P told i s) k))) :
    MS G d mi_Md_laysLikely [vr 117, vi j, vi sdI] M (fun r M' => r = some (vi ((10 ^ n : Nat) : Int)) ∧ (∃ a : Nat → Nat, (∀ s : Nat, s < 3125 → M' 131 s = a s ∧ (a s ≠ 0 → s < 5 ^ h.P)) ∧ (∀ g, vm a g = Ex h.P cf (toF h m.sd m.cold told) g n 0 (cod m.st h.P)) ∧ vm a (fun _ => 1) ≤ 10 ^ n) ∧ Same [122, 123, 131, 132] M M') := by
  have hP := hok.1
  have h5 := p5 hP
  have h32 := p2_32 hP
  have hs0 := cod_100k hok mok
  have hs05 : cod m.st h.P < 5 ^ h.P := cod_5P (fun p => (mok.1 p).2)
  have hnx : ∀ s y, nxt h m.sd m.cold s y < 5 ^ h.P := fun s y => codT_lt _ 0 (fun p _ _ => tired_le _ _ _ _ _ _)
  refine MS.by ck_Md_laysLikely [some (vr 117), some (vi j), some (vi sdI), none, none, none, none, none, none] fun _ _ => ?_
  generalize htf : toF h m.sd m.cold told = tf
  have htf' : ∀ i s, nxt h m.sd m.cold s (tset h.P told i s) = tf i s := fun i s => by rw [← htf]; rfl
  have htfl : ∀ i s, tf i s < 5 ^ h.P := fun i s => by rw [← htf']; exact hnx _ _
  generalize hQ : (fun (r : Option AV) (M' : AM) => r = some (vi ((10 ^ n : Nat) : Int)) ∧ (∃ a : Nat → Nat, (∀ s : Nat, s < 3125 → M' 131 s = a s ∧ (a s ≠ 0 → s < 5 ^ h.P)) ∧ (∀ g, vm a g = Ex h.P cf tf g n 0 (cod m.st h.P)) ∧ vm a (fun _ => 1) ≤ 10 ^ n) ∧ Same [122, 123, 131, 132] M M') = Q
  have keep : ∀ K : AM, Same [122, 123, 131, 132] M K → K 118 = M 118 ∧ K 136 = M 136 ∧ K 137 = M 137 := fun K hK => ⟨hK 118 (by (first | decide | (simp only [List.mem_cons, List.not_mem_nil, or_false, not_or, not_false_eq_true, and_true]; omega) | (simp [List.mem_cons]; done))), hK 136 (by (first | decide | (simp only [List.mem_cons, List.not_mem_nil, or_false, not_or, not_false_eq_true, and_true]; omega) | (simp [List.mem_cons]; done))), hK 137 (by (first | decide | (simp only [List.mem_cons, List.not_mem_nil, or_false, not_or, not_false_eq_true, and_true]; omega) | (simp [List.mem_cons]; done)))⟩
  have l9 : ∀ (r k : Nat) (a : Nat → Nat) (K : AM) (l5 l6 l7 l8 : Option AV), k + r = n → Same [122, 123, 131, 132] M K → (∀ x : Nat, x < 3125 → K 131 x = a x ∧ K 132 x = 0 ∧ (a x ≠ 0 → x < 5 ^ h.P)) → (∀ g, vm a (Ex h.P cf tf g r k) = Ex h.P cf tf g n 0 (cod m.st h.P)) → vm a (fun _ => 1) ≤ 10 ^ k → AW G d mi_Md_laysLikely Q 9 [some (vr 117), some (vi j), some (vi sdI), some (vi ((10 ^ k : Nat) : Int)), some (vi k), l5, l6, l7, l8] [] K := by
    as_aux_lemma =>
      intro r
      induction r with
      | zero =>
        intro k a K l5 l6 l7 l8 hkn hK ha hv hb
        obtain ⟨k1, k2, k3⟩ := keep K hK
        obtain rfl : k = n := by omega
        have e136 : K 136 (j : Int) = k := by rw [k2]; exact hn1
        refine AW.run ck_Md_laysLikely [23] 10 9 ?_
        simp only [wR, wB, wE0, wE1, wE2, wE3, g0, gS, s10, s11, s1S, s20, s21, s2S, kl0, kl1, kl2, kl3, sp0, sp1, sp2, sp3, cn1, cn2, cn3, cn4, cn5, cn6, jJa, lk0, lk1, jmS, jmN, s4_0, s4_1, s4_2, s4_3, s4_4, sw0, sw1, cKs, cKn, true_and, and_true, List.map_cons, List.map_nil, Nat.reduceAdd, Nat.zero_add, Int.reduceAdd, Nat.reduceEqDiff, reduceIte, Classical.not_not, b_Md_laysLikely, shMd, e136]
        subst hQ
        (repeat' (first | omega | (with_reducible exact True.intro) | exact ⟨by omega, by omega⟩ | (with_reducible exact Or.inr trivial) | (with_reducible exact Or.inl trivial) | (with_reducible assumption) | (with_reducible exact Same.refl) | (with_reducible rfl) | (with_reducible refine And.intro ?_ ?_) | (with_reducible intro _)))
        exact ⟨a, fun s hs => ⟨(ha s hs).1, (ha s hs).2.2⟩, hv, hb⟩
      | succ r ihh =>
        intro hr a K0 l5 l6 l7 l8 hkn hK0 ha0 hv hb
        have h10 : (10 : Nat) ^ hr ≤ 10 ^ 6 := Nat.pow_le_pow_right (by omega) (by omega)
        have h11 : (10 : Nat) ^ (hr + 1) ≤ 10 ^ 7 := Nat.pow_le_pow_right (by omega) (by omega)
        have htk := (ht hr (by omega)).2
        have etold : ∀ K : AM, Same [122, 123, 131, 132] M K → K 137 (40 * (j : Int) + (hr : Int)) = told hr := fun K hK => by rw [(keep K hK).2.2]; exact (ht hr (by omega)).1
        have hf10 : ∀ s, fst' h.P cf tf hr (fun _ => 1) s ≤ 10 := fun s => by
          have := fst'_le (P := h.P) (c := cf) (t := tf) (i := hr) (s := s) (b := 1) (g := fun _ => 1) (by omega) (fun _ => Nat.le_refl _)
          omega
        have l23 : ∀ (r' s : Nat) (b : Nat → Nat) (K : AM) (l6 l7 l8 : Option AV), s + r' = 3125 → Same [122, 123, 131, 132] M K → (∀ x : Nat, x < 3125 → K 131 x = a x ∧ K 132 x = b x ∧ (b x ≠ 0 → x < 5 ^ h.P)) → (∀ g, vm b g = sumN (fun x => a x * fst' h.P cf tf hr g x) s) → AW G d mi_Md_laysLikely Q 23 [some (vr 117), some (vi j), some (vi sdI), some (vi ((10 ^ hr : Nat) : Int)), some (vi hr), some (vi s), l6, l7, l8] [] K := by
          intro r'
          induction r' with
          | zero =>
            intro s b K l6 l7 l8 hs hK hab hval
            have hs' : s = 3125 := by omega
            have hg : ∀ g, vm b g = vm a (fst' h.P cf tf hr g) := fun g => by rw [hval, hs']; rfl
            have e10 : ((10 ^ hr : Nat) : Int) * 10 = ((10 ^ (hr + 1) : Nat) : Int) := by rw [Nat.pow_succ]; omega
            refine AW.run ck_Md_laysLikely [9, 47, 67] 10 23 ?_
            simp only [wR, wB, wE0, wE1, wE2, wE3, g0, gS, s10, s11, s1S, s20, s21, s2S, kl0, kl1, kl2, kl3, sp0, sp1, sp2, sp3, cn1, cn2, cn3, cn4, cn5, cn6, jJa, lk0, lk1, jmS, jmN, s4_0, s4_1, s4_2, s4_3, s4_4, sw0, sw1, cKs, cKn, true_and, and_true, List.map_cons, List.map_nil, Nat.reduceAdd, Nat.zero_add, Int.reduceAdd, Nat.reduceEqDiff, reduceIte, Classical.not_not, b_Md_laysLikely, shMd]
            (repeat' (first | omega | (with_reducible exact True.intro) | exact ⟨by omega, by omega⟩ | (with_reducible exact Or.inr trivial) | (with_reducible exact Or.inl trivial) | (with_reducible assumption) | (with_reducible exact Same.refl) | (with_reducible rfl) | (with_reducible refine And.intro ?_ ?_) | (with_reducible intro _)))
            refine c_Md_isThen.mono ?_
            rintro r'' K2 okK2 ⟨rfl, i1, i2⟩
            have := ihh (hr + 1) b K2 (some (vi s)) l6 l7 l8 (by omega) (hK.trans (i2.mono (by simp))) (fun x hx => ⟨by rw [(i1 x hx).1]; exact (hab x hx).2.1, (i1 x hx).2, (hab x hx).2.2⟩) (fun g => by rw [hg]; exact hv g) (by
              rw [hg, Nat.pow_succ]
              have h1 := vm_le (b := a) (g := fst' h.P cf tf hr (fun _ => 1)) (c := 10) hf10
              omega)
            simp only [wR, wB, wE0, wE1, wE2, wE3, g0, gS, s10, s11, s1S, s20, s21, s2S, kl0, kl1, kl2, kl3, sp0, sp1, sp2, sp3, cn1, cn2, cn3, cn4, cn5, cn6, jJa, lk0, lk1, jmS, jmN, s4_0, s4_1, s4_2, s4_3, s4_4, sw0, sw1, cKs, cKn, true_and, and_true, List.map_cons, List.map_nil, Nat.reduceAdd, Nat.zero_add, Int.reduceAdd, Nat.reduceEqDiff, reduceIte, Classical.not_not, b_Md_laysLikely, e10, ce]
            (repeat' (first | omega | (with_reducible exact True.intro) | exact ⟨by omega, by omega⟩ | (with_reducible exact Or.inr trivial) | (with_reducible exact Or.inl trivial) | (with_reducible assumption) | (with_reducible exact Same.refl) | (with_reducible rfl) | (with_reducible refine And.intro ?_ ?_) | (with_reducible intro _)))
          | succ r' ihs =>
            intro s b K l6 l7 l8 hs hK hab hval
            obtain ⟨k1, k2, k3⟩ := keep K hK
            have hs3 : s < 3125 := by omega
            obtain ⟨e131, e132, _⟩ := hab s hs3
            have hps : ∀ g, sumN (fun x => a x * fst' h.P cf tf hr g x) (s + 1) = sumN (fun x => a x * fst' h.P cf tf hr g x) s + a s * fst' h.P cf tf hr g s := fun g => rfl
            have hbd : sumN (fun x => a x * fst' h.P cf tf hr (fun _ => 1) x) s + 10 * a s ≤ 10 * vm a (fun _ => 1) := by
              have h1 := sumN_mul (w := a) (c := fst' h.P cf tf hr (fun _ => 1)) (b := 10) s (fun x _ => hf10 x)
              have h3 : sumN a (s + 1) ≤ vm a (fun _ => 1) := by rw [vm_one]; exact sumN_mono (by omega)
              rw [sumN_s] at h3
              omega
            have a201 : ∀ (b : Nat → Nat) (K : AM) (l6 l7 l8 : Option AV), Same [122, 123, 131, 132] M K → (∀ x : Nat, x < 3125 → K 131 x = a x ∧ K 132 x = b x ∧ (b x ≠ 0 → x < 5 ^ h.P)) → (∀ g, vm b g = sumN (fun x => a x * fst' h.P cf tf hr g x) s + a s * fst' h.P cf tf hr g s) → AW G d mi_Md_laysLikely Q 201 [some (vr 117), some (vi j), some (vi sdI), some (vi ((10 ^ hr : Nat) : Int)), some (vi hr), some (vi s), l6, l7, l8] [] K := by
              intro b K l6 l7 l8 q1 q2 q3
              have := ihs (s + 1) b K l6 l7 l8 (by omega) q1 q2 (fun g => by rw [q3, hps])
              refine AW.run ck_Md_laysLikely [23] 10 201 ?_
              simp only [wR, wB, wE0, wE1, wE2, wE3, g0, gS, s10, s11, s1S, s20, s21, s2S, kl0, kl1, kl2, kl3, sp0, sp1, sp2, sp3, cn1, cn2, cn3, cn4, cn5, cn6, jJa, lk0, lk1, jmS, jmN, s4_0, s4_1, s4_2, s4_3, s4_4, sw0, sw1, cKs, cKn, true_and, and_true, List.map_cons, List.map_nil, Nat.reduceAdd, Nat.zero_add, Int.reduceAdd, Nat.reduceEqDiff, reduceIte, Classical.not_not, b_Md_laysLikely, ce]
              (repeat' (first | omega | (with_reducible exact True.intro) | exact ⟨by omega, by omega⟩ | (with_reducible exact Or.inr trivial) | (with_reducible exact Or.inl trivial) | (with_reducible assumption) | (with_reducible exact Same.refl) | (with_reducible rfl) | (with_reducible refine And.intro ?_ ?_) | (with_reducible intro _)))
            by_cases qz : a s = 0
            · have := a201 b K (some (vi 0)) l7 l8 hK hab (fun g => by rw [hval, qz, Nat.zero_mul, Nat.add_zero])
              rw [qz] at e131
              refine AW.run ck_Md_laysLikely [201, 207, 47, 105] 10 23 ?_
              simp only [wR, wB, wE0, wE1, wE2, wE3, g0, gS, s10, s11, s1S, s20, s21, s2S, kl0, kl1, kl2, kl3, sp0, sp1, sp2, sp3, cn1, cn2, cn3, cn4, cn5, cn6, jJa, lk0, lk1, jmS, jmN, s4_0, s4_1, s4_2, s4_3, s4_4, sw0, sw1, cKs, cKn, true_and, and_true, List.map_cons, List.map_nil, Nat.reduceAdd, Nat.zero_add, Int.reduceAdd, Nat.reduceEqDiff, reduceIte, Classical.not_not, b_Md_laysLikely, shMd, e131, nc0, cmp3_eq, Int.reduceEq, not_true_eq_false, not_false_eq_true, false_imp_iff, true_imp_iff, and_self]
              (repeat' (first | omega | (with_reducible exact True.intro) | exact ⟨by omega, by omega⟩ | (with_reducible exact Or.inr trivial) | (with_reducible exact Or.inl trivial) | (with_reducible assumption) | (with_reducible exact Same.refl) | (with_reducible rfl) | (with_reducible refine And.intro ?_ ?_) | (with_reducible intro _)))
            · have hab' : ablS h.P s < 32 := bitsP32 hP
              have htl : told hr < 32 := by omega
              have hts : tset h.P told hr s < 32 := Nat.lt_of_le_of_lt Nat.and_le_left htl
              have hno : cf hr s = false → ∀ (K2 : AM) (l7 l8 : Option AV), Same [122, 123] K K2 → AW G d mi_Md_laysLikely Q 201 [some (vr 117), some (vi j), some (vi sdI), some (vi ((10 ^ hr : Nat) : Int)), some (vi hr), some (vi s), some (vi (tset h.P told hr s)), l7, l8] [] K2 := by
                intro e K2 l7 l8 hK2
                refine a201 b K2 _ l7 l8 (hK.trans (hK2.mono (by simp))) (fun x hx => by rw [hK2.at 131 _ (by (first | decide | (simp only [List.mem_cons, List.not_mem_nil, or_false, not_or, not_false_eq_true, and_true]; omega) | (simp [List.mem_cons]; done))), hK2.at 132 _ (by (first | decide | (simp only [List.mem_cons, List.not_mem_nil, or_false, not_or, not_false_eq_true, and_true]; omega) | (simp [List.mem_cons]; done)))]; exact hab x hx) (fun g => ?_)
                rw [hval]
                unfold fst'
                rw [if_neg (by rw [e]; decide), Nat.mul_zero, Nat.add_zero]
              have a105 : cf hr s = true → ∀ (K2 : AM) (l7 l8 : Option AV), Same [122, 123] K K2 → AW G d mi_Md_laysLikely Q 105 [some (vr 117), some (vi j), some (vi sdI), some (vi ((10 ^ hr : Nat) : Int)), some (vi hr), some (vi s), some (vi (tset h.P told hr s)), l7, l8] [] K2 := by
                intro ec K2 l7 l8 hK2
                have hKK2 := hK.trans (hK2.mono (by simp))
                have k118 : K2 118 = M 118 := (keep K2 hKK2).1
                have n29 : K2 118 29 = m.cold := by rw [k118]; exact hm.2.1
                have hto5 := htfl hr s
                have efst : ∀ g, fst' h.P cf tf hr g s = (10 - h.P) * g (tf hr s) + sumN (fun p => g (drp (tf hr s) p)) h.P := fun g => by unfold fst'; rw [if_pos ec]; rfl
                generalize hto : tf hr s = to at hto5 efst
                have l125 : ∀ (r' p : Nat) (b : Nat → Nat) (K : AM), p + r' = h.P → Same [122, 123, 131, 132] M K → (∀ x : Nat, x < 3125 → K 131 x = a x ∧ K 132 x = b x ∧ (b x ≠ 0 → x < 5 ^ h.P)) → (∀ g, vm b g = sumN (fun x => a x * fst' h.P cf tf hr g x) s + a s * sumN (fun p => g (drp to p)) p) → AW G d mi_Md_laysLikely Q 125 [some (vr 117), some (vi j), some (vi sdI), some (vi ((10 ^ hr : Nat) : Int)), some (vi hr), some (vi s), some (vi (tset h.P told hr s)), some (vi to), some (vi p)] [] K := by
                  intro r'
                  induction r' with
                  | zero =>
                    intro p b K hp q1 q2 q3
                    obtain rfl : p = h.P := by omega
                    have k118 : K 118 = M 118 := (keep K q1).1
                    have e1 : K 118 1 = h.P := by rw [k118]; exact hH.2.1
                    obtain ⟨f131, _, _⟩ := q2 s hs3
                    have f132 := (q2 to (by omega)).2.1
                    have em : (a s : Int) * ((10 : Int) - (h.P : Int)) = ((a s * (10 - h.P) : Nat) : Int) := by rw [Int.natCast_mul]; congr 1; omega
                    have hmx : a s * (10 - h.P) ≤ a s * 10 := Nat.mul_le_mul_left _ (by omega)
                    have hq1 : vm b (fun _ => 1) = sumN (fun x => a x * fst' h.P cf tf hr (fun _ => 1) x) s + a s * sumN (fun _ => 1) h.P := q3 (fun _ => 1)
                    have hs1 : sumN (fun _ => 1) h.P ≤ 1 * h.P := sumN_le 1 h.P (fun _ _ => Nat.le_refl _)
                    have hle : a s * sumN (fun _ => 1) h.P ≤ a s * 10 := Nat.mul_le_mul_left _ (by omega)
                    have hb1 := vm_1 (b := b) (t := to) (by omega)
                    have := a201 (ud b to (b to + a s * (10 - h.P))) (up K 132 to ((b to : Int) + ((a s * (10 - h.P) : Nat) : Int))) (some (vi (tset h.P told hr s))) (some (vi to)) (some (vi h.P)) (q1.up (by simp)) (fun x hx => by
                      rw [up_ne1 (by omega)]
                      refine ⟨(q2 x hx).1, ?_, fun hne => ?_⟩
                      · by_cases ex : x = to
                        · subst ex; rw [up_eq, ud_eq]; rfl
                        · rw [up_ne2 (by omega), ud_ne ex]; exact (q2 x hx).2.1
                      · by_cases ex : x = to
                        · rw [ex]; exact hto5
                        · rw [ud_ne ex] at hne; exact (q2 x hx).2.2 hne) (fun g => by
                      rw [vm_add (by omega), q3, efst, Nat.mul_add, ← Nat.mul_assoc]; omega)
                    refine AW.run ck_Md_laysLikely [201, 125] 10 125 ?_
                    simp only [wR, wB, wE0, wE1, wE2, wE3, g0, gS, s10, s11, s1S, s20, s21, s2S, kl0, kl1, kl2, kl3, sp0, sp1, sp2, sp3, cn1, cn2, cn3, cn4, cn5, cn6, jJa, lk0, lk1, jmS, jmN, s4_0, s4_1, s4_2, s4_3, s4_4, sw0, sw1, cKs, cKn, true_and, and_true, List.map_cons, List.map_nil, Nat.reduceAdd, Nat.zero_add, Int.reduceAdd, Nat.reduceEqDiff, reduceIte, Classical.not_not, b_Md_laysLikely, shMd, e1, f131, f132, em]
                    (repeat' (first | omega | (with_reducible exact True.intro) | exact ⟨by omega, by omega⟩ | (with_reducible exact Or.inr trivial) | (with_reducible exact Or.inl trivial) | (with_reducible assumption) | (with_reducible exact Same.refl) | (with_reducible rfl) | (with_reducible refine And.intro ?_ ?_) | (with_reducible intro _)))
                  | succ r' ihp =>
                    intro p b K hp q1 q2 q3
                    have k118 : K 118 = M 118 := (keep K q1).1
                    have e1 : K 118 1 = h.P := by rw [k118]; exact hH.2.1
                    obtain ⟨f131, _, _⟩ := q2 s hs3
                    have hdl := drp_le (s := to) (p := p)
                    have hdrl : drp to p < 5 ^ h.P := Nat.lt_of_le_of_lt (Nat.sub_le _ _) hto5
                    have f132 := (q2 (drp to p) (by omega)).2.1
                    have hp5 : (5 : Nat) ^ p ≤ 5 ^ 4 := Nat.pow_le_pow_right (by omega) (by omega)
                    have hdg := dig_lt to p
                    have emm : ((5 ^ p : Nat) : Int) * (dig to p : Int) = ((dig to p * 5 ^ p : Nat) : Int) := by rw [Int.natCast_mul, Int.mul_comm]
                    have er : (to : Int) - ((dig to p * 5 ^ p : Nat) : Int) = (drp to p : Int) := by
                      unfold drp
                      omega
                    have hq1 : vm b (fun _ => 1) = sumN (fun x => a x * fst' h.P cf tf hr (fun _ => 1) x) s + a s * sumN (fun _ => 1) p := q3 (fun _ => 1)
                    have hs1 : sumN (fun _ => 1) p ≤ 1 * p := sumN_le 1 p (fun _ _ => Nat.le_refl _)
                    have hle : a s * sumN (fun _ => 1) p ≤ a s * 10 := Nat.mul_le_mul_left _ (by omega)
                    have hb1 := vm_1 (b := b) (t := drp to p) (by omega)
                    have := ihp (p + 1) (ud b (drp to p) (b (drp to p) + a s)) (up K 132 (drp to p) ((b (drp to p) : Int) + (a s : Int))) (by omega) (q1.up (by simp)) (fun x hx => by
                      rw [up_ne1 (by omega)]
                      refine ⟨(q2 x hx).1, ?_, fun hne => ?_⟩
                      · by_cases ex : x = drp to p
                        · subst ex; rw [up_eq, ud_eq]; rfl
                        · rw [up_ne2 (by omega), ud_ne ex]; exact (q2 x hx).2.1
                      · by_cases ex : x = drp to p
                        · rw [ex]; exact hdrl
                        · rw [ud_ne ex] at hne; exact (q2 x hx).2.2 hne) (fun g => by
                      rw [vm_add (by omega), q3, sumN_s, Nat.mul_add]; omega)
                    refine AW.run ck_Md_laysLikely [173, 125] 10 125 ?_
                    simp only [wR, wB, wE0, wE1, wE2, wE3, g0, gS, s10, s11, s1S, s20, s21, s2S, kl0, kl1, kl2, kl3, sp0, sp1, sp2, sp3, cn1, cn2, cn3, cn4, cn5, cn6, jJa, lk0, lk1, jmS, jmN, s4_0, s4_1, s4_2, s4_3, s4_4, sw0, sw1, cKs, cKn, true_and, and_true, List.map_cons, List.map_nil, Nat.reduceAdd, Nat.zero_add, Int.reduceAdd, Nat.reduceEqDiff, reduceIte, Classical.not_not, b_Md_laysLikely, shMd, e1]
                    (repeat' (first | omega | (with_reducible exact True.intro) | exact ⟨by omega, by omega⟩ | (with_reducible exact Or.inr trivial) | (with_reducible exact Or.inl trivial) | (with_reducible assumption) | (with_reducible exact Same.refl) | (with_reducible rfl) | (with_reducible refine And.intro ?_ ?_) | (with_reducible intro _)))
                    refine MS.to (c_Md_placeOf (show p ≤ 5 by omega)) fun _ => ?_
                    simp only [wR, wB, wE0, wE1, wE2, wE3, g0, gS, s10, s11, s1S, s20, s21, s2S, kl0, kl1, kl2, kl3, sp0, sp1, sp2, sp3, cn1, cn2, cn3, cn4, cn5, cn6, jJa, lk0, lk1, jmS, jmN, s4_0, s4_1, s4_2, s4_3, s4_4, sw0, sw1, cKs, cKn, true_and, and_true, List.map_cons, List.map_nil, Nat.reduceAdd, Nat.zero_add, Int.reduceAdd, Nat.reduceEqDiff, reduceIte, Classical.not_not, b_Md_laysLikely, shMd]
                    refine ⟨by omega, MS.to (c_Md_strengthIn (d := d - 1) (by omega) (show p ≤ 5 by omega)) fun _ => ?_⟩
                    simp only [wR, wB, wE0, wE1, wE2, wE3, g0, gS, s10, s11, s1S, s20, s21, s2S, kl0, kl1, kl2, kl3, sp0, sp1, sp2, sp3, cn1, cn2, cn3, cn4, cn5, cn6, jJa, lk0, lk1, jmS, jmN, s4_0, s4_1, s4_2, s4_3, s4_4, sw0, sw1, cKs, cKn, true_and, and_true, List.map_cons, List.map_nil, Nat.reduceAdd, Nat.zero_add, Int.reduceAdd, Nat.reduceEqDiff, reduceIte, Classical.not_not, b_Md_laysLikely, shMd, emm, er, f132, f131, ce]
                    (repeat' (first | omega | (with_reducible exact True.intro) | exact ⟨by omega, by omega⟩ | (with_reducible exact Or.inr trivial) | (with_reducible exact Or.inl trivial) | (with_reducible assumption) | (with_reducible exact Same.refl) | (with_reducible rfl) | (with_reducible refine And.intro ?_ ?_) | (with_reducible intro _)))
                refine AW.run ck_Md_laysLikely [125] 10 105 ?_
                simp only [wR, wB, wE0, wE1, wE2, wE3, g0, gS, s10, s11, s1S, s20, s21, s2S, kl0, kl1, kl2, kl3, sp0, sp1, sp2, sp3, cn1, cn2, cn3, cn4, cn5, cn6, jJa, lk0, lk1, jmS, jmN, s4_0, s4_1, s4_2, s4_3, s4_4, sw0, sw1, cKs, cKn, true_and, and_true, List.map_cons, List.map_nil, Nat.reduceAdd, Nat.zero_add, Int.reduceAdd, Nat.reduceEqDiff, reduceIte, Classical.not_not, b_Md_laysLikely, shMd, n29]
                (repeat' (first | omega | (with_reducible exact True.intro) | exact ⟨by omega, by omega⟩ | (with_reducible exact Or.inr trivial) | (with_reducible exact Or.inl trivial) | (with_reducible assumption) | (with_reducible exact Same.refl) | (with_reducible rfl) | (with_reducible refine And.intro ?_ ?_) | (with_reducible intro _)))
                refine (c_Md_hourTo (d := d - 1) (sd := m.sd) (s := s) (set := tset h.P told hr s) (by omega) hok (by rw [k118]; exact hH) (by rw [k118]; exact hm.sd mok) (by omega) hts mok.2).mono ?_
                rintro r'' K3 okK3 ⟨rfl, w3'⟩
                rw [htf', hto]
                have := l125 h.P 0 b K3 (by omega) (hKK2.trans (w3'.mono (by simp))) (fun x hx => by rw [w3'.at 131 _ (by (first | decide | (simp only [List.mem_cons, List.not_mem_nil, or_false, not_or, not_false_eq_true, and_true]; omega) | (simp [List.mem_cons]; done))), hK2.at 131 _ (by (first | decide | (simp only [List.mem_cons, List.not_mem_nil, or_false, not_or, not_false_eq_true, and_true]; omega) | (simp [List.mem_cons]; done))), w3'.at 132 _ (by (first | decide | (simp only [List.mem_cons, List.not_mem_nil, or_false, not_or, not_false_eq_true, and_true]; omega) | (simp [List.mem_cons]; done))), hK2.at 132 _ (by (first | decide | (simp only [List.mem_cons, List.not_mem_nil, or_false, not_or, not_false_eq_true, and_true]; omega) | (simp [List.mem_cons]; done)))]; exact hab x hx) (fun g => by rw [hval]; show _ = _ + a s * 0; omega)
                simp only [wR, wB, wE0, wE1, wE2, wE3, g0, gS, s10, s11, s1S, s20, s21, s2S, kl0, kl1, kl2, kl3, sp0, sp1, sp2, sp3, cn1, cn2, cn3, cn4, cn5, cn6, jJa, lk0, lk1, jmS, jmN, s4_0, s4_1, s4_2, s4_3, s4_4, sw0, sw1, cKs, cKn, true_and, and_true, List.map_cons, List.map_nil, Nat.reduceAdd, Nat.zero_add, Int.reduceAdd, Nat.reduceEqDiff, reduceIte, Classical.not_not, b_Md_laysLikely]
                (repeat' (first | omega | (with_reducible exact True.intro) | exact ⟨by omega, by omega⟩ | (with_reducible exact Or.inr trivial) | (with_reducible exact Or.inl trivial) | (with_reducible assumption) | (with_reducible exact Same.refl) | (with_reducible rfl) | (with_reducible refine And.intro ?_ ?_) | (with_reducible intro _)))
              have e137 := etold K hK
              have a47 : AW G d mi_Md_laysLikely Q 47 [some (vr 117), some (vi j), some (vi sdI), some (vi ((10 ^ hr : Nat) : Int)), some (vi hr), some (vi s), l6, l7, l8] [] K := by
                refine AW.run ck_Md_laysLikely [201, 105] 10 47 ?_
                simp only [wR, wB, wE0, wE1, wE2, wE3, g0, gS, s10, s11, s1S, s20, s21, s2S, kl0, kl1, kl2, kl3, sp0, sp1, sp2, sp3, cn1, cn2, cn3, cn4, cn5, cn6, jJa, lk0, lk1, jmS, jmN, s4_0, s4_1, s4_2, s4_3, s4_4, sw0, sw1, cKs, cKn, true_and, and_true, List.map_cons, List.map_nil, Nat.reduceAdd, Nat.zero_add, Int.reduceAdd, Nat.reduceEqDiff, reduceIte, Classical.not_not, b_Md_laysLikely, shMd, e137]
                (repeat' (first | omega | (with_reducible exact True.intro) | exact ⟨by omega, by omega⟩ | (with_reducible exact Or.inr trivial) | (with_reducible exact Or.inl trivial) | (with_reducible assumption) | (with_reducible exact Same.refl) | (with_reducible rfl) | (with_reducible refine And.intro ?_ ?_) | (with_reducible intro _)))
                refine MS.to (c_Md_ableIn (d := d - 1) (by omega) (by rw [k1]; exact hH.2.1) hP) fun _ => ?_
                rw [show bitsP (fun p => decide (0 < dig s p)) h.P = ablS h.P s from rfl]
                simp only [wR, wB, wE0, wE1, wE2, wE3, g0, gS, s10, s11, s1S, s20, s21, s2S, kl0, kl1, kl2, kl3, sp0, sp1, sp2, sp3, cn1, cn2, cn3, cn4, cn5, cn6, jJa, lk0, lk1, jmS, jmN, s4_0, s4_1, s4_2, s4_3, s4_4, sw0, sw1, cKs, cKn, true_and, and_true, List.map_cons, List.map_nil, Nat.reduceAdd, Nat.zero_add, Int.reduceAdd, Nat.reduceEqDiff, reduceIte, Classical.not_not, b_Md_laysLikely, shMd, bAnd_n (show told hr < 2 ^ 31 by omega)]
                rw [show told hr &&& ablS h.P s = tset h.P told hr s from rfl]
                simp only [wR, wB, wE0, wE1, wE2, wE3, g0, gS, s10, s11, s1S, s20, s21, s2S, kl0, kl1, kl2, kl3, sp0, sp1, sp2, sp3, cn1, cn2, cn3, cn4, cn5, cn6, jJa, lk0, lk1, jmS, jmN, s4_0, s4_1, s4_2, s4_3, s4_4, sw0, sw1, cKs, cKn, true_and, and_true, List.map_cons, List.map_nil, Nat.reduceAdd, Nat.zero_add, Int.reduceAdd, Nat.reduceEqDiff, reduceIte, Classical.not_not, e131, cmp3_eq]
                rcases hcf with ⟨rfl, hall⟩ | ⟨k, hk, rfl, hall⟩
                · have := a105 (hall hr s) K l7 l8 Same.refl
                  (repeat' (first | omega | (with_reducible exact True.intro) | exact ⟨by omega, by omega⟩ | (with_reducible exact Or.inr trivial) | (with_reducible exact Or.inl trivial) | (with_reducible assumption) | (with_reducible exact Same.refl) | (with_reducible rfl) | (with_reducible refine And.intro ?_ ?_) | (with_reducible intro _)))
                · have hst3 : stood h m.sd m.cold s (tset h.P told hr s) ≤ 3 := stood_le
                  (repeat' (first | omega | (with_reducible exact True.intro) | exact ⟨by omega, by omega⟩ | (with_reducible exact Or.inr trivial) | (with_reducible exact Or.inl trivial) | (with_reducible assumption) | (with_reducible exact Same.refl) | (with_reducible rfl) | (with_reducible refine And.intro ?_ ?_) | (with_reducible intro _)))
                  refine (c_Md_standing (d := d - 1) (cold := m.cold) (sd := m.sd) (s := s) (set := tset h.P told hr s) (by omega) hok (by rw [k1]; exact hH) (by rw [k1]; exact hm.sd mok) hts (by rw [k1]; exact hm.2.1) mok.2).mono ?_
                  rintro r'' K2 okK2 ⟨rfl, w2⟩
                  simp only [wR, wB, wE0, wE1, wE2, wE3, g0, gS, s10, s11, s1S, s20, s21, s2S, kl0, kl1, kl2, kl3, sp0, sp1, sp2, sp3, cn1, cn2, cn3, cn4, cn5, cn6, jJa, lk0, lk1, jmS, jmN, s4_0, s4_1, s4_2, s4_3, s4_4, sw0, sw1, cKs, cKn, true_and, and_true, List.map_cons, List.map_nil, Nat.reduceAdd, Nat.zero_add, Int.reduceAdd, Nat.reduceEqDiff, reduceIte, Classical.not_not, b_Md_laysLikely, shMd]
                  refine ⟨by omega, MS.to (c_Md_isIn (a := stood h m.sd m.cold s (tset h.P told hr s)) (k := k) (by omega) (by omega)) fun _ => ?_⟩
                  rw [stood_bit hk]
                  by_cases q3 : h.must ≤ hands h m.sd m.cold s (tset h.P told hr s) k
                  · rw [if_pos q3]
                    have := a105 (by rw [hall, decide_eq_true_eq]; exact q3) K2 l7 l8 w2
                    simp only [wR, wB, wE0, wE1, wE2, wE3, g0, gS, s10, s11, s1S, s20, s21, s2S, kl0, kl1, kl2, kl3, sp0, sp1, sp2, sp3, cn1, cn2, cn3, cn4, cn5, cn6, jJa, lk0, lk1, jmS, jmN, s4_0, s4_1, s4_2, s4_3, s4_4, sw0, sw1, cKs, cKn, true_and, and_true, List.map_cons, List.map_nil, Nat.reduceAdd, Nat.zero_add, Int.reduceAdd, Nat.reduceEqDiff, reduceIte, Classical.not_not, b_Md_laysLikely, shMd, nc1, Int.reduceEq, not_true_eq_false, not_false_eq_true, false_imp_iff, true_imp_iff, and_self]
                    (repeat' (first | omega | (with_reducible exact True.intro) | exact ⟨by omega, by omega⟩ | (with_reducible exact Or.inr trivial) | (with_reducible exact Or.inl trivial) | (with_reducible assumption) | (with_reducible exact Same.refl) | (with_reducible rfl) | (with_reducible refine And.intro ?_ ?_) | (with_reducible intro _)))
                  · rw [if_neg q3]
                    have := hno (by rw [hall, decide_eq_false_iff_not]; exact q3) K2 l7 l8 w2
                    simp only [wR, wB, wE0, wE1, wE2, wE3, g0, gS, s10, s11, s1S, s20, s21, s2S, kl0, kl1, kl2, kl3, sp0, sp1, sp2, sp3, cn1, cn2, cn3, cn4, cn5, cn6, jJa, lk0, lk1, jmS, jmN, s4_0, s4_1, s4_2, s4_3, s4_4, sw0, sw1, cKs, cKn, true_and, and_true, List.map_cons, List.map_nil, Nat.reduceAdd, Nat.zero_add, Int.reduceAdd, Nat.reduceEqDiff, reduceIte, Classical.not_not, b_Md_laysLikely, shMd, nc0, Int.reduceEq, not_true_eq_false, not_false_eq_true, false_imp_iff, true_imp_iff, and_self]
                    (repeat' (first | omega | (with_reducible exact True.intro) | exact ⟨by omega, by omega⟩ | (with_reducible exact Or.inr trivial) | (with_reducible exact Or.inl trivial) | (with_reducible assumption) | (with_reducible exact Same.refl) | (with_reducible rfl) | (with_reducible refine And.intro ?_ ?_) | (with_reducible intro _)))
              refine AW.run ck_Md_laysLikely [201, 207, 47, 105] 10 23 ?_
              simp only [wR, wB, wE0, wE1, wE2, wE3, g0, gS, s10, s11, s1S, s20, s21, s2S, kl0, kl1, kl2, kl3, sp0, sp1, sp2, sp3, cn1, cn2, cn3, cn4, cn5, cn6, jJa, lk0, lk1, jmS, jmN, s4_0, s4_1, s4_2, s4_3, s4_4, sw0, sw1, cKs, cKn, true_and, and_true, List.map_cons, List.map_nil, Nat.reduceAdd, Nat.zero_add, Int.reduceAdd, Nat.reduceEqDiff, reduceIte, Classical.not_not, b_Md_laysLikely, shMd, e131, cmp3_eq]
              (repeat' (first | omega | (with_reducible exact True.intro) | exact ⟨by omega, by omega⟩ | (with_reducible exact Or.inr trivial) | (with_reducible exact Or.inl trivial) | (with_reducible assumption) | (with_reducible exact Same.refl) | (with_reducible rfl) | (with_reducible refine And.intro ?_ ?_) | (with_reducible intro _)))
        have := l23 3125 0 (fun _ => 0) K0 l6 l7 l8 (by omega) hK0 (fun x hx => ⟨(ha0 x hx).1, (ha0 x hx).2.1, fun hne => absurd rfl hne⟩) (fun g => by
          unfold vm
          rw [sumN_0 3125 (fun p _ => by simp)]; rfl)
        have e136 : K0 136 (j : Int) = n := by rw [(keep K0 hK0).2.1]; exact hn1
        refine AW.run ck_Md_laysLikely [23, 222] 10 9 ?_
        simp only [wR, wB, wE0, wE1, wE2, wE3, g0, gS, s10, s11, s1S, s20, s21, s2S, kl0, kl1, kl2, kl3, sp0, sp1, sp2, sp3, cn1, cn2, cn3, cn4, cn5, cn6, jJa, lk0, lk1, jmS, jmN, s4_0, s4_1, s4_2, s4_3, s4_4, sw0, sw1, cKs, cKn, true_and, and_true, List.map_cons, List.map_nil, Nat.reduceAdd, Nat.zero_add, Int.reduceAdd, Nat.reduceEqDiff, reduceIte, Classical.not_not, b_Md_laysLikely, shMd, e136]
        (repeat' (first | omega | (with_reducible exact True.intro) | exact ⟨by omega, by omega⟩ | (with_reducible exact Or.inr trivial) | (with_reducible exact Or.inl trivial) | (with_reducible assumption) | (with_reducible exact Same.refl) | (with_reducible rfl) | (with_reducible refine And.intro ?_ ?_) | (with_reducible intro _)))
  refine AW.run ck_Md_laysLikely [9] 10 0 ?_
  simp only [wR, wB, wE0, wE1, wE2, wE3, g0, gS, s10, s11, s1S, s20, s21, s2S, kl0, kl1, kl2, kl3, sp0, sp1, sp2, sp3, cn1, cn2, cn3, cn4, cn5, cn6, jJa, lk0, lk1, jmS, jmN, s4_0, s4_1, s4_2, s4_3, s4_4, sw0, sw1, cKs, cKn, true_and, and_true, List.map_cons, List.map_nil, Nat.reduceAdd, Nat.zero_add, Int.reduceAdd, Nat.reduceEqDiff, reduceIte, Classical.not_not, b_Md_laysLikely, shMd]
  refine ⟨by omega, (c_Md_beginsMany (d := d - 1) (P := h.P) (st := m.st) hH.2.1 hP (hm.st mok) (by omega)).mono ?_⟩
  rintro r1 M2 okM2 ⟨rfl, b1, b2⟩
  simp only [wR, wB, wE0, wE1, wE2, wE3, g0, gS, s10, s11, s1S, s20, s21, s2S, kl0, kl1, kl2, kl3, sp0, sp1, sp2, sp3, cn1, cn2, cn3, cn4, cn5, cn6, jJa, lk0, lk1, jmS, jmN, s4_0, s4_1, s4_2, s4_3, s4_4, sw0, sw1, cKs, cKn, true_and, and_true, List.map_cons, List.map_nil, Nat.reduceAdd, Nat.zero_add, Int.reduceAdd, Nat.reduceEqDiff, reduceIte, Classical.not_not, b_Md_laysLikely, shMd]
  have hvm : ∀ g : Nat → Nat, vm (fun s => if s = cod m.st h.P then 1 else 0) g = g (cod m.st h.P) := fun g => by
    have e := sumN_upd (f := fun _ => 0) (g := fun s => (if s = cod m.st h.P then 1 else 0) * g s) (j := cod m.st h.P) (n := 3125) hs0 (fun x hx => by simp [hx])
    unfold vm
    rw [sumN_0 3125 (fun _ _ => rfl)] at e
    simp only [if_true, Nat.one_mul, Nat.zero_add, Nat.add_zero] at e
    exact e
  have := l9 n 0 (fun s => if s = cod m.st h.P then 1 else 0) M2 none none none none (by omega) (b2.mono (by simp)) (fun x hx => ⟨?_, (b1 x hx).2, fun hne => ?_⟩) (fun g => by rw [hvm]) (by rw [hvm]; exact Nat.le_refl _)
  · exact this
  · rw [(b1 x hx).1]; split <;> rfl
  · by_cases e : x = cod m.st h.P
    · rw [e]; exact hs05
    · exact absurd (if_neg e) hne
end LY2
