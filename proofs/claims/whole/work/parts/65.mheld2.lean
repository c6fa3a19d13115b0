section MH3
variable {G : AG} {d : Nat} {M : AM}
theorem hbZ_max {ok : Nat → Nat → Bool} {nx : Nat → Nat → Nat} {f : Nat → Nat} {s n : Nat} : (if (mst ok nx f s n : Int) < hbZ ok nx f s n then hbZ ok nx f s n else (mst ok nx f s n : Int)) = (mst ok nx f s (n + 1) : Int) := by
  simp only [mst]
  unfold hbZ
  by_cases q : ok s n = true
  · rw [if_pos q]
    split <;> omega
  · rw [if_neg q]
    have : hbN ok nx f s n = 0 := by unfold hbN; rw [if_neg q]
    rw [this]
    split <;> omega
theorem mst_le {ok : Nat → Nat → Bool} {nx : Nat → Nat → Nat} {f : Nat → Nat} {s : Nat} {l : List Nat} (hc : ∀ t set, t ∈ l → set < 32 → ok t set = true → nx t set ∈ l) (hs : s ∈ l) (hF : ∀ s, s ∈ l → f s ≤ 268435456) (hE : ∀ s, s ∈ l → f s ≠ 268435456 → f s < 3125) : ∀ n, n ≤ 32 → mst ok nx f s n ≤ 268435456
  | 0, _ => by simp [mst]
  | n + 1, hn => by
    have ih := mst_le hc hs hF hE n (by omega)
    simp only [mst]
    have : hbN ok nx f s n ≤ 268435456 := by
      unfold hbN
      by_cases q : ok s n = true
      · rw [if_pos q]
        have ht := hc s n hs (by omega) q
        have := hE _ ht
        split <;> omega
      · rw [if_neg q]; omega
    omega
set_option maxRecDepth 20000 in
theorem c_Md_laysHeld {h : Hl} {m : Mo} {side pe : Nat} (hd : 20 ≤ d) (hok : HlOK h) (mok : MoOK m) (hH : MH (M 118) h) (hm : MRow (fun y => M 118 (19 + y)) h.P m) (hpe : pe < 32) (hside : side ≤ 1) :
    MS G d mi_Md_laysHeld [vr 117, vi side, vi pe] M (fun r M' => r = none ∧ (∃ l f, LSt M' h m.sd m.cold pe (cod m.st h.P) l ∧ farM M' l f ∧ HvF (okH h m.sd m.cold side pe h.must) (nxt h m.sd m.cold) l f) ∧ Same [117, 122, 123, 125, 126, 127, 129, 130] M M' ∧ ∀ y : Int, y ≠ 27 → M' 117 y = M 117 y) := by
  have hP := hok.1
  have hs0 := cod_100k hok mok
  refine MS.by ck_Md_laysHeld [some (vr 117), some (vi side), some (vi pe), none, none, none, none, none] fun _ _ => ?_
  generalize hQ : (fun (r : Option AV) (M' : AM) => r = none ∧ (∃ l f, LSt M' h m.sd m.cold pe (cod m.st h.P) l ∧ farM M' l f ∧ HvF (okH h m.sd m.cold side pe h.must) (nxt h m.sd m.cold) l f) ∧ Same [117, 122, 123, 125, 126, 127, 129, 130] M M' ∧ ∀ y : Int, y ≠ 27 → M' 117 y = M 117 y) = Q
  refine AW.run ck_Md_laysHeld [7] 10 0 ?_
  simp only [wR, wB, wE0, wE1, wE2, wE3, g0, gS, s10, s11, s1S, s20, s21, s2S, kl0, kl1, kl2, kl3, sp0, sp1, sp2, sp3, cn1, cn2, cn3, cn4, cn5, cn6, jJa, lk0, lk1, jmS, jmN, s4_0, s4_1, s4_2, s4_3, s4_4, sw0, sw1, cKs, cKn, true_and, and_true, List.map_cons, List.map_nil, Nat.reduceAdd, Nat.zero_add, Int.reduceAdd, Nat.reduceEqDiff, reduceIte, Classical.not_not, b_Md_laysHeld, shMd]
  refine ⟨by omega, (c_Md_laysStands (d := d - 1) (by omega) hok mok hH hm hpe).mono ?_⟩
  rintro r0 M1 okM1 ⟨rfl, ⟨l, L0⟩, u1, u2⟩
  simp only [wR, wB, wE0, wE1, wE2, wE3, g0, gS, s10, s11, s1S, s20, s21, s2S, kl0, kl1, kl2, kl3, sp0, sp1, sp2, sp3, cn1, cn2, cn3, cn4, cn5, cn6, jJa, lk0, lk1, jmS, jmN, s4_0, s4_1, s4_2, s4_3, s4_4, sw0, sw1, cKs, cKn, true_and, and_true, List.map_cons, List.map_nil, Nat.reduceAdd, Nat.zero_add, Int.reduceAdd, Nat.reduceEqDiff, reduceIte, Classical.not_not, b_Md_laysHeld, shMd]
  have hnd := L0.1.2.2.2.1
  have hl3 := L0.1.2.2.2.2
  have hlen := len_lt hnd hl3
  have hcl : ∀ t set, t ∈ l → set < 32 → okH h m.sd m.cold side pe h.must t set = true → nxt h m.sd m.cold t set ∈ l := fun t set a b c => L0.cl t set a b (okH_P c).1
  generalize hokf : okH h m.sd m.cold side pe h.must = okf at hQ hcl
  generalize hnxf : nxt h m.sd m.cold = nxf at hQ hcl
  -- what stays: the lists, all but far
  have keep : ∀ K : AM, Same [127] M1 K → LSt K h m.sd m.cold pe (cod m.st h.P) l ∧ Same [117, 122, 123, 125, 126, 127, 129, 130] M K ∧ (∀ y : Int, y ≠ 27 → K 117 y = M 117 y) ∧ K 118 = M 118 := by
    intro K hK
    refine ⟨L0.far (hK.at 117 _ (by (first | decide | (simp only [List.mem_cons, List.not_mem_nil, or_false, not_or, not_false_eq_true, and_true]; omega) | (simp [List.mem_cons]; done)))) (fun x hx => hK x (by (first | decide | (simp only [List.mem_cons, List.not_mem_nil, or_false, not_or, not_false_eq_true, and_true]; omega) | (simp [List.mem_cons]; done)))), (u1.mono (by simp)).trans (hK.mono (by simp)), fun y hy => by rw [hK.at 117 _ (by (first | decide | (simp only [List.mem_cons, List.not_mem_nil, or_false, not_or, not_false_eq_true, and_true]; omega) | (simp [List.mem_cons]; done)))]; exact u2 y hy, ?_⟩
    rw [hK 118 (by (first | decide | (simp only [List.mem_cons, List.not_mem_nil, or_false, not_or, not_false_eq_true, and_true]; omega) | (simp [List.mem_cons]; done))), u1 118 (by (first | decide | (simp only [List.mem_cons, List.not_mem_nil, or_false, not_or, not_false_eq_true, and_true]; omega) | (simp [List.mem_cons]; done)))]
  have a170 : ∀ (K : AM) (f : Nat → Nat) (l3 l4 l5 l6 l7 : Option AV), Same [127] M1 K → farM K l f → HI okf nxf l f → (∀ s, s ∈ l → f s = 268435456 → mst okf nxf f s 32 = 268435456) → AW G d mi_Md_laysHeld Q 170 [some (vr 117), some (vi side), some (vi pe), l3, l4, l5, l6, l7] [] K := by
    intro K f l3 l4 l5 l6 l7 hK hf hri hst
    obtain ⟨k1, k2, k3, k4⟩ := keep K hK
    refine AW.run ck_Md_laysHeld [] 10 170 ?_
    simp only [wR, wB, wE0, wE1, wE2, wE3, g0, gS, s10, s11, s1S, s20, s21, s2S, kl0, kl1, kl2, kl3, sp0, sp1, sp2, sp3, cn1, cn2, cn3, cn4, cn5, cn6, jJa, lk0, lk1, jmS, jmN, s4_0, s4_1, s4_2, s4_3, s4_4, sw0, sw1, cKs, cKn, true_and, and_true, List.map_cons, List.map_nil, Nat.reduceAdd, Nat.zero_add, Int.reduceAdd, Nat.reduceEqDiff, reduceIte, Classical.not_not, b_Md_laysHeld]
    subst hQ
    rw [hnxf] at *
    exact ⟨rfl, ⟨l, f, k1, hf, HI.done hcl hri hlen hst⟩, k2, k3⟩
  -- a pass
  have pass : ∀ (μ : Nat) (K : AM) (f : Nat → Nat) (l4 l5 l6 l7 : Option AV), cF f l = μ → Same [127] M1 K → farM K l f → HI okf nxf l f → AW G d mi_Md_laysHeld Q 37 [some (vr 117), some (vi side), some (vi pe), some (vi 1), l4, l5, l6, l7] [] K := by
    as_aux_lemma =>
      intro μ
      induction μ using Nat.strongRecOn with
      | ind μ ih =>
        intro K0 f0 l4 l5 l6 l7 hμ hK0 hf0 hri0
        have l46 : ∀ (r k more : Nat) (K : AM) (f : Nat → Nat) (l5 l6 l7 : Option AV), k + r = l.length → Same [127] M1 K → farM K l f → HI okf nxf l f → ((more = 0 ∧ f = f0 ∧ ∀ j, j < k → f0 (l.getD j 0) = 268435456 → mst okf nxf f0 (l.getD j 0) 32 = 268435456) ∨ (more = 1 ∧ cF f l < μ)) → AW G d mi_Md_laysHeld Q 46 [some (vr 117), some (vi side), some (vi pe), some (vi more), some (vi k), l5, l6, l7] [] K := by
          intro r
          induction r with
          | zero =>
            intro k more K f l5 l6 l7 hk hK hf hri hmore
            obtain ⟨k1, k2, k3, k4⟩ := keep K hK
            have e27 := k1.1.1
            refine AW.run ck_Md_laysHeld [37, 70] 10 46 ?_
            simp only [wR, wB, wE0, wE1, wE2, wE3, g0, gS, s10, s11, s1S, s20, s21, s2S, kl0, kl1, kl2, kl3, sp0, sp1, sp2, sp3, cn1, cn2, cn3, cn4, cn5, cn6, jJa, lk0, lk1, jmS, jmN, s4_0, s4_1, s4_2, s4_3, s4_4, sw0, sw1, cKs, cKn, true_and, and_true, List.map_cons, List.map_nil, Nat.reduceAdd, Nat.zero_add, Int.reduceAdd, Nat.reduceEqDiff, reduceIte, Classical.not_not, b_Md_laysHeld, shMd, e27]
            rcases hmore with ⟨rfl, rfl, hst⟩ | ⟨rfl, hlt⟩
            · (repeat' (first | omega | exact ⟨by omega, by omega⟩ | (with_reducible exact Or.inr trivial) | (with_reducible exact Or.inl trivial) | (with_reducible assumption) | (with_reducible exact Same.refl) | (with_reducible rfl) | (with_reducible refine And.intro ?_ ?_) | (with_reducible intro _)))
              refine AW.run ck_Md_laysHeld [46, 170] 10 37 ?_
              simp only [wR, wB, wE0, wE1, wE2, wE3, g0, gS, s10, s11, s1S, s20, s21, s2S, kl0, kl1, kl2, kl3, sp0, sp1, sp2, sp3, cn1, cn2, cn3, cn4, cn5, cn6, jJa, lk0, lk1, jmS, jmN, s4_0, s4_1, s4_2, s4_3, s4_4, sw0, sw1, cKs, cKn, true_and, and_true, List.map_cons, List.map_nil, Nat.reduceAdd, Nat.zero_add, Int.reduceAdd, Nat.reduceEqDiff, reduceIte, Classical.not_not, b_Md_laysHeld, shMd, nc0, up_rd, Int.reduceEq, and_false, false_and, and_self, reduceIte, not_true_eq_false, not_false_eq_true, false_imp_iff, true_imp_iff, true_or, or_true]
              exact a170 K f _ _ _ _ _ hK hf hri (fun s hs => by
                obtain ⟨j, hj, e⟩ := mem_getD hs
                have := hst j (by omega)
                rwa [e] at this)
            · have := ih (cF f l) hlt K f (some (vi k)) l5 l6 l7 rfl hK hf hri
              (repeat' (first | omega | exact ⟨by omega, by omega⟩ | (with_reducible exact Or.inr trivial) | (with_reducible exact Or.inl trivial) | (with_reducible assumption) | (with_reducible exact Same.refl) | (with_reducible rfl) | (with_reducible refine And.intro ?_ ?_) | (with_reducible intro _)))
          | succ r ihk =>
            intro k more K f l5 l6 l7 hk hK hf hri hmore
            obtain ⟨k1, k2, k3, k4⟩ := keep K hK
            have e27 := k1.1.1
            have hkl : k < l.length := by omega
            have hsk := getD_mem hkl
            have eK : K 125 (k : Int) = ((l.getD k 0 : Nat) : Int) := k1.1.2.1 k hkl
            generalize hsk' : l.getD k 0 = sk at hsk eK
            have hsk3 := hl3 sk hsk
            obtain ⟨f1, f2⟩ := hf sk hsk
            have hF : ∀ s, s ∈ l → f s ≤ 268435456 := fun s hs => (hf s hs).2
            have hE : ∀ s, s ∈ l → f s ≠ 268435456 → f s < 3125 := fun s hs hne => by have := (hri s hs hne).2; omega
            have a161 : ∀ (more : Nat) (K : AM) (f : Nat → Nat) (l6 l7 : Option AV), Same [127] M1 K → farM K l f → HI okf nxf l f → ((more = 0 ∧ f = f0 ∧ ∀ j, j < k + 1 → f0 (l.getD j 0) = 268435456 → mst okf nxf f0 (l.getD j 0) 32 = 268435456) ∨ (more = 1 ∧ cF f l < μ)) → AW G d mi_Md_laysHeld Q 161 [some (vr 117), some (vi side), some (vi pe), some (vi more), some (vi k), some (vi sk), l6, l7] [] K := by
              intro more K f l6 l7 h1 h2 h3 h4
              have := ihk (k + 1) more K f (some (vi sk)) l6 l7 (by omega) h1 h2 h3 h4
              refine AW.run ck_Md_laysHeld [46] 10 161 ?_
              simp only [wR, wB, wE0, wE1, wE2, wE3, g0, gS, s10, s11, s1S, s20, s21, s2S, kl0, kl1, kl2, kl3, sp0, sp1, sp2, sp3, cn1, cn2, cn3, cn4, cn5, cn6, jJa, lk0, lk1, jmS, jmN, s4_0, s4_1, s4_2, s4_3, s4_4, sw0, sw1, cKs, cKn, true_and, and_true, List.map_cons, List.map_nil, Nat.reduceAdd, Nat.zero_add, Int.reduceAdd, Nat.reduceEqDiff, reduceIte, Classical.not_not, b_Md_laysHeld, ce]
              (repeat' (first | omega | exact ⟨by omega, by omega⟩ | (with_reducible exact Or.inr trivial) | (with_reducible exact Or.inl trivial) | (with_reducible assumption) | (with_reducible exact Same.refl) | (with_reducible rfl) | (with_reducible refine And.intro ?_ ?_) | (with_reducible intro _)))
            have keep1 : (f0 sk = 268435456 → mst okf nxf f0 sk 32 = 268435456) → f = f0 → (∀ j, j < k → f0 (l.getD j 0) = 268435456 → mst okf nxf f0 (l.getD j 0) 32 = 268435456) → ∀ j, j < k + 1 → f0 (l.getD j 0) = 268435456 → mst okf nxf f0 (l.getD j 0) 32 = 268435456 := by
              intro hx _ hj j hj'
              by_cases e : j = k
              · subst e; rw [hsk']; exact hx
              · exact hj j (by omega)
            have a126 : ∀ (x : Int) (l7 : Option AV), (f sk = 268435456 → x = mst okf nxf f sk 32) → inI x → AW G d mi_Md_laysHeld Q 126 [some (vr 117), some (vi side), some (vi pe), some (vi more), some (vi k), some (vi sk), some (vi x), l7] [] K := by
              intro x l7 hx hxi
              refine AW.run ck_Md_laysHeld [161] 10 126 ?_
              simp only [wR, wB, wE0, wE1, wE2, wE3, g0, gS, s10, s11, s1S, s20, s21, s2S, kl0, kl1, kl2, kl3, sp0, sp1, sp2, sp3, cn1, cn2, cn3, cn4, cn5, cn6, jJa, lk0, lk1, jmS, jmN, s4_0, s4_1, s4_2, s4_3, s4_4, sw0, sw1, cKs, cKn, true_and, and_true, List.map_cons, List.map_nil, Nat.reduceAdd, Nat.zero_add, Int.reduceAdd, Nat.reduceEqDiff, reduceIte, Classical.not_not, b_Md_laysHeld, shMd, f1]
              by_cases q0 : f sk = 268435456
              · have hx' := hx q0
                subst hx'
                by_cases q1 : mst okf nxf f sk 32 = 268435456
                · have := a161 more K f (some (vi (mst okf nxf f sk 32))) l7 hK hf hri (by
                    rcases hmore with ⟨a, b, c⟩ | hm'
                    · subst b
                      exact Or.inl ⟨a, rfl, keep1 (fun _ => q1) rfl c⟩
                    · exact Or.inr hm')
                  (repeat' (first | omega | exact ⟨by omega, by omega⟩ | (with_reducible exact Or.inr trivial) | (with_reducible exact Or.inl trivial) | (with_reducible assumption) | (with_reducible exact Same.refl) | (with_reducible rfl) | (with_reducible refine And.intro ?_ ?_) | (with_reducible intro _)))
                · obtain ⟨g1, g2, g3⟩ := HI.upd hnd hcl hri hF hlen hsk q0 q1
                  have := a161 1 (up K 127 sk (mst okf nxf f sk 32)) (fun x => if x = sk then mst okf nxf f sk 32 else f x) (some (vi (mst okf nxf f sk 32))) l7 (hK.up (by simp)) (fun x hx => ?_) g1 (Or.inr ⟨rfl, by
                    rcases hmore with ⟨a, b, c⟩ | hm'
                    · subst b; omega
                    · omega⟩)
                  · (repeat' (first | omega | exact ⟨by omega, by omega⟩ | (with_reducible exact Or.inr trivial) | (with_reducible exact Or.inl trivial) | (with_reducible assumption) | (with_reducible exact Same.refl) | (with_reducible rfl) | (with_reducible refine And.intro ?_ ?_) | (with_reducible intro _)))
                  · by_cases e : x = sk
                    · subst e
                      have e' : (fun y => if y = x then mst okf nxf f x 32 else f y) x = mst okf nxf f x 32 := if_pos rfl
                      rw [up_eq, e']; exact ⟨rfl, by omega⟩
                    · have e' : (fun y => if y = sk then mst okf nxf f sk 32 else f y) x = f x := if_neg e
                      rw [up_ne2 (by omega), e']; exact hf x hx
              · have := a161 more K f (some (vi x)) l7 hK hf hri (by
                  rcases hmore with ⟨a, b, c⟩ | hm'
                  · subst b
                    exact Or.inl ⟨a, rfl, keep1 (fun e => absurd e q0) rfl c⟩
                  · exact Or.inr hm')
                (repeat' (first | omega | exact ⟨by omega, by omega⟩ | (with_reducible exact Or.inr trivial) | (with_reducible exact Or.inl trivial) | (with_reducible assumption) | (with_reducible exact Same.refl) | (with_reducible rfl) | (with_reducible refine And.intro ?_ ?_) | (with_reducible intro _)))
            have l70 : ∀ (r set : Nat), set + r = 32 → f sk = 268435456 → AW G d mi_Md_laysHeld Q 70 [some (vr 117), some (vi side), some (vi pe), some (vi more), some (vi k), some (vi sk), some (vi (mst okf nxf f sk set)), some (vi set)] [] K := by
              intro r
              induction r with
              | zero =>
                intro set hset q0
                have hml := mst_le hcl hsk hF hE set (by omega)
                have := a126 (mst okf nxf f sk set) (some (vi set)) (fun _ => by rw [show set = 32 by omega]) ⟨by omega, by omega⟩
                refine AW.run ck_Md_laysHeld [118, 126] 10 70 ?_
                simp only [wR, wB, wE0, wE1, wE2, wE3, g0, gS, s10, s11, s1S, s20, s21, s2S, kl0, kl1, kl2, kl3, sp0, sp1, sp2, sp3, cn1, cn2, cn3, cn4, cn5, cn6, jJa, lk0, lk1, jmS, jmN, s4_0, s4_1, s4_2, s4_3, s4_4, sw0, sw1, cKs, cKn, true_and, and_true, List.map_cons, List.map_nil, Nat.reduceAdd, Nat.zero_add, Int.reduceAdd, Nat.reduceEqDiff, reduceIte, Classical.not_not, b_Md_laysHeld, shMd]
                (repeat' (first | omega | exact ⟨by omega, by omega⟩ | (with_reducible exact Or.inr trivial) | (with_reducible exact Or.inl trivial) | (with_reducible assumption) | (with_reducible exact Same.refl) | (with_reducible rfl) | (with_reducible refine And.intro ?_ ?_) | (with_reducible intro _)))
              | succ r ihr =>
                intro set hset q0
                have hml := mst_le hcl hsk hF hE set (by omega)
                have a118 : ∀ x : Int, x = mst okf nxf f sk (set + 1) → AW G d mi_Md_laysHeld Q 118 [some (vr 117), some (vi side), some (vi pe), some (vi more), some (vi k), some (vi sk), some (vi (mst okf nxf f sk set)), some (vi set)] [vi x] K := by
                  intro x hx
                  subst hx
                  have := ihr (set + 1) (by omega) q0
                  refine AW.run ck_Md_laysHeld [70] 10 118 ?_
                  simp only [wR, wB, wE0, wE1, wE2, wE3, g0, gS, s10, s11, s1S, s20, s21, s2S, kl0, kl1, kl2, kl3, sp0, sp1, sp2, sp3, cn1, cn2, cn3, cn4, cn5, cn6, jJa, lk0, lk1, jmS, jmN, s4_0, s4_1, s4_2, s4_3, s4_4, sw0, sw1, cKs, cKn, true_and, and_true, List.map_cons, List.map_nil, Nat.reduceAdd, Nat.zero_add, Int.reduceAdd, Nat.reduceEqDiff, reduceIte, Classical.not_not, b_Md_laysHeld, ce]
                  (repeat' (first | omega | exact ⟨by omega, by omega⟩ | (with_reducible exact Or.inr trivial) | (with_reducible exact Or.inl trivial) | (with_reducible assumption) | (with_reducible exact Same.refl) | (with_reducible rfl) | (with_reducible refine And.intro ?_ ?_) | (with_reducible intro _)))
                have hmx := hbZ_max (ok := okf) (nx := nxf) (f := f) (s := sk) (n := set)
                refine AW.run ck_Md_laysHeld [118, 126] 10 70 ?_
                simp only [wR, wB, wE0, wE1, wE2, wE3, g0, gS, s10, s11, s1S, s20, s21, s2S, kl0, kl1, kl2, kl3, sp0, sp1, sp2, sp3, cn1, cn2, cn3, cn4, cn5, cn6, jJa, lk0, lk1, jmS, jmN, s4_0, s4_1, s4_2, s4_3, s4_4, sw0, sw1, cKs, cKn, true_and, and_true, List.map_cons, List.map_nil, Nat.reduceAdd, Nat.zero_add, Int.reduceAdd, Nat.reduceEqDiff, reduceIte, Classical.not_not, b_Md_laysHeld, shMd, f1]
                (repeat' (first | omega | exact ⟨by omega, by omega⟩ | (with_reducible exact Or.inr trivial) | (with_reducible exact Or.inl trivial) | (with_reducible assumption) | (with_reducible exact Same.refl) | (with_reducible rfl) | (with_reducible refine And.intro ?_ ?_) | (with_reducible intro _)))
                refine MS.to (c_Md_heldBy (d := d - 1) (by omega) hok k1 hf hsk (by omega) hside) fun _ => ?_
                rw [hokf, hnxf]
                simp only [wR, wB, wE0, wE1, wE2, wE3, g0, gS, s10, s11, s1S, s20, s21, s2S, kl0, kl1, kl2, kl3, sp0, sp1, sp2, sp3, cn1, cn2, cn3, cn4, cn5, cn6, jJa, lk0, lk1, jmS, jmN, s4_0, s4_1, s4_2, s4_3, s4_4, sw0, sw1, cKs, cKn, true_and, and_true, List.map_cons, List.map_nil, Nat.reduceAdd, Nat.zero_add, Int.reduceAdd, Nat.reduceEqDiff, reduceIte, Classical.not_not, b_Md_laysHeld, shMd]
                by_cases q1 : (mst okf nxf f sk set : Int) < hbZ okf nxf f sk set
                · rw [if_pos q1] at hmx
                  (repeat' (first | omega | exact ⟨by omega, by omega⟩ | (with_reducible exact Or.inr trivial) | (with_reducible exact Or.inl trivial) | (with_reducible assumption) | (with_reducible exact Same.refl) | (with_reducible rfl) | (with_reducible refine And.intro ?_ ?_) | (with_reducible intro _)))
                  refine MS.to (c_Md_heldBy (d := d - 1) (by omega) hok k1 hf hsk (by omega) hside) fun _ => ?_
                  rw [hokf, hnxf]
                  have := a118 _ hmx
                  simp only [wR, wB, wE0, wE1, wE2, wE3, g0, gS, s10, s11, s1S, s20, s21, s2S, kl0, kl1, kl2, kl3, sp0, sp1, sp2, sp3, cn1, cn2, cn3, cn4, cn5, cn6, jJa, lk0, lk1, jmS, jmN, s4_0, s4_1, s4_2, s4_3, s4_4, sw0, sw1, cKs, cKn, true_and, and_true, List.map_cons, List.map_nil, Nat.reduceAdd, Nat.zero_add, Int.reduceAdd, Nat.reduceEqDiff, reduceIte, Classical.not_not, b_Md_laysHeld]
                  (repeat' (first | omega | exact ⟨by omega, by omega⟩ | (with_reducible exact Or.inr trivial) | (with_reducible exact Or.inl trivial) | (with_reducible assumption) | (with_reducible exact Same.refl) | (with_reducible rfl) | (with_reducible refine And.intro ?_ ?_) | (with_reducible intro _)))
                · rw [if_neg q1] at hmx
                  have := a118 _ hmx
                  (repeat' (first | omega | exact ⟨by omega, by omega⟩ | (with_reducible exact Or.inr trivial) | (with_reducible exact Or.inl trivial) | (with_reducible assumption) | (with_reducible exact Same.refl) | (with_reducible rfl) | (with_reducible refine And.intro ?_ ?_) | (with_reducible intro _)))
            refine AW.run ck_Md_laysHeld [37, 70] 10 46 ?_
            simp only [wR, wB, wE0, wE1, wE2, wE3, g0, gS, s10, s11, s1S, s20, s21, s2S, kl0, kl1, kl2, kl3, sp0, sp1, sp2, sp3, cn1, cn2, cn3, cn4, cn5, cn6, jJa, lk0, lk1, jmS, jmN, s4_0, s4_1, s4_2, s4_3, s4_4, sw0, sw1, cKs, cKn, true_and, and_true, List.map_cons, List.map_nil, Nat.reduceAdd, Nat.zero_add, Int.reduceAdd, Nat.reduceEqDiff, reduceIte, Classical.not_not, b_Md_laysHeld, shMd, e27, eK]
            by_cases q0 : f sk = 268435456
            · have := l70 32 0 (by omega) q0
              simp only [mst, nc0] at this
              (repeat' (first | omega | exact ⟨by omega, by omega⟩ | (with_reducible exact Or.inr trivial) | (with_reducible exact Or.inl trivial) | (with_reducible assumption) | (with_reducible exact Same.refl) | (with_reducible rfl) | (with_reducible refine And.intro ?_ ?_) | (with_reducible intro _)))
            · have : AW G d mi_Md_laysHeld Q 70 [some (vr 117), some (vi side), some (vi pe), some (vi more), some (vi k), some (vi sk), some (vi 0), some (vi 0)] [] K := by
                have := a126 0 (some (vi 0)) (fun e => absurd e q0) ⟨by omega, by omega⟩
                refine AW.run ck_Md_laysHeld [118, 126] 10 70 ?_
                simp only [wR, wB, wE0, wE1, wE2, wE3, g0, gS, s10, s11, s1S, s20, s21, s2S, kl0, kl1, kl2, kl3, sp0, sp1, sp2, sp3, cn1, cn2, cn3, cn4, cn5, cn6, jJa, lk0, lk1, jmS, jmN, s4_0, s4_1, s4_2, s4_3, s4_4, sw0, sw1, cKs, cKn, true_and, and_true, List.map_cons, List.map_nil, Nat.reduceAdd, Nat.zero_add, Int.reduceAdd, Nat.reduceEqDiff, reduceIte, Classical.not_not, b_Md_laysHeld, shMd, f1]
                (repeat' (first | omega | exact ⟨by omega, by omega⟩ | (with_reducible exact Or.inr trivial) | (with_reducible exact Or.inl trivial) | (with_reducible assumption) | (with_reducible exact Same.refl) | (with_reducible rfl) | (with_reducible refine And.intro ?_ ?_) | (with_reducible intro _)))
              (repeat' (first | omega | exact ⟨by omega, by omega⟩ | (with_reducible exact Or.inr trivial) | (with_reducible exact Or.inl trivial) | (with_reducible assumption) | (with_reducible exact Same.refl) | (with_reducible rfl) | (with_reducible refine And.intro ?_ ?_) | (with_reducible intro _)))
        refine AW.run ck_Md_laysHeld [46, 170] 10 37 ?_
        simp only [wR, wB, wE0, wE1, wE2, wE3, g0, gS, s10, s11, s1S, s20, s21, s2S, kl0, kl1, kl2, kl3, sp0, sp1, sp2, sp3, cn1, cn2, cn3, cn4, cn5, cn6, jJa, lk0, lk1, jmS, jmN, s4_0, s4_1, s4_2, s4_3, s4_4, sw0, sw1, cKs, cKn, true_and, and_true, List.map_cons, List.map_nil, Nat.reduceAdd, Nat.zero_add, Int.reduceAdd, Nat.reduceEqDiff, reduceIte, Classical.not_not, b_Md_laysHeld, shMd, up_rd, Int.reduceEq, and_false, false_and, and_self, reduceIte, not_true_eq_false, not_false_eq_true, false_imp_iff, true_imp_iff, true_or, or_true]
        have := l46 l.length 0 0 K0 f0 l5 l6 l7 (by omega) hK0 hf0 hri0 (Or.inl ⟨rfl, rfl, fun j h1 => absurd h1 (by omega)⟩)
        (repeat' (first | omega | exact ⟨by omega, by omega⟩ | (with_reducible exact Or.inr trivial) | (with_reducible exact Or.inl trivial) | (with_reducible assumption) | (with_reducible exact Same.refl) | (with_reducible rfl) | (with_reducible refine And.intro ?_ ?_) | (with_reducible intro _)))
  have l7 : ∀ (r k : Nat) (K : AM), k + r = l.length → Same [127] M1 K → (∀ j, j < k → K 127 (l.getD j 0 : Nat) = 268435456) → AW G d mi_Md_laysHeld Q 7 [some (vr 117), some (vi side), some (vi pe), some (vi k), none, none, none, none] [] K := by
    as_aux_lemma =>
      intro r
      induction r with
      | zero =>
        intro k K hk hK hfar
        obtain ⟨k1, k2, k3, k4⟩ := keep K hK
        have e27 := k1.1.1
        have := pass _ K (fun _ => 268435456) none none none none rfl hK (fun s hs => by
          obtain ⟨j, hj, e⟩ := mem_getD hs
          have := hfar j (by omega)
          rw [e] at this
          exact ⟨this, Nat.le_refl _⟩) (fun s hs hne => absurd rfl hne)
        refine AW.run ck_Md_laysHeld [37] 10 7 ?_
        simp only [wR, wB, wE0, wE1, wE2, wE3, g0, gS, s10, s11, s1S, s20, s21, s2S, kl0, kl1, kl2, kl3, sp0, sp1, sp2, sp3, cn1, cn2, cn3, cn4, cn5, cn6, jJa, lk0, lk1, jmS, jmN, s4_0, s4_1, s4_2, s4_3, s4_4, sw0, sw1, cKs, cKn, true_and, and_true, List.map_cons, List.map_nil, Nat.reduceAdd, Nat.zero_add, Int.reduceAdd, Nat.reduceEqDiff, reduceIte, Classical.not_not, b_Md_laysHeld, shMd, e27]
        (repeat' (first | omega | exact ⟨by omega, by omega⟩ | (with_reducible exact Or.inr trivial) | (with_reducible exact Or.inl trivial) | (with_reducible assumption) | (with_reducible exact Same.refl) | (with_reducible rfl) | (with_reducible refine And.intro ?_ ?_) | (with_reducible intro _)))
      | succ r ih =>
        intro k K hk hK hfar
        obtain ⟨k1, k2, k3, k4⟩ := keep K hK
        have e27 := k1.1.1
        have hkl : k < l.length := by omega
        have eK := k1.1.2.1 k hkl
        have hsk3 := hl3 _ (getD_mem hkl)
        refine AW.run ck_Md_laysHeld [7, 37] 10 7 ?_
        simp only [wR, wB, wE0, wE1, wE2, wE3, g0, gS, s10, s11, s1S, s20, s21, s2S, kl0, kl1, kl2, kl3, sp0, sp1, sp2, sp3, cn1, cn2, cn3, cn4, cn5, cn6, jJa, lk0, lk1, jmS, jmN, s4_0, s4_1, s4_2, s4_3, s4_4, sw0, sw1, cKs, cKn, true_and, and_true, List.map_cons, List.map_nil, Nat.reduceAdd, Nat.zero_add, Int.reduceAdd, Nat.reduceEqDiff, reduceIte, Classical.not_not, b_Md_laysHeld, shMd, e27, eK, ce]
        (repeat' (first | omega | exact ⟨by omega, by omega⟩ | (with_reducible exact Or.inr trivial) | (with_reducible exact Or.inl trivial) | (with_reducible assumption) | (with_reducible exact Same.refl) | (with_reducible rfl) | (with_reducible refine And.intro ?_ ?_) | (with_reducible intro _)))
        refine ih (k + 1) _ (by omega) (hK.up (by simp)) (fun j hj => ?_)
        by_cases e : j = k
        · subst e; rw [up_eq]
        · have : l.getD j 0 ≠ l.getD k 0 := fun e' => e (getD_inj hnd (by omega) hkl e')
          rw [up_ne2 (by omega)]; exact hfar j (by omega)
  exact l7 l.length 0 M1 (by omega) Same.refl (fun j hj => absurd hj (by omega))
theorem c_Md_rosterAt {h : Hl} {m : Mo} {side pe i : Nat} {l : List Nat} {f : Nat → Nat} (hd : 10 ≤ d) (hi : i ≤ 1000) (hok : HlOK h) (mok : MoOK m) (hH : MH (M 118) h) (hm : MRow (fun y => M 118 (19 + y)) h.P m) (hside : side ≤ 1) (hL : LSt M h m.sd m.cold pe (cod m.st h.P) l) (hf : farM M l f) (hv : HvF (okH h m.sd m.cold side pe h.must) (nxt h m.sd m.cold) l f) :
    MS G d mi_Md_rosterAt [vr 117, vi side, vi i] M (fun r M' => r = some (vi (rosI (okH h m.sd m.cold side pe h.must) (nxt h m.sd m.cold) i (cod m.st h.P))) ∧ M' = M) := by
  have hP := hok.1
  have hl3 := hL.1.2.2.2.2
  have hsin : cod m.st h.P ∈ l := (hL.2.1.2 _).mpr Rc.refl
  have hcl : ∀ t set, t ∈ l → set < 32 → okH h m.sd m.cold side pe h.must t set = true → nxt h m.sd m.cold t set ∈ l := fun t set a b c => hL.cl t set a b (okH_P c).1
  have hokP : ∀ t set, okH h m.sd m.cold side pe h.must t set = true → okP h.P pe t set = true := fun t set c => (okH_P c).1
  generalize hR : rosI (okH h m.sd m.cold side pe h.must) (nxt h m.sd m.cold) i (cod m.st h.P) = R
  generalize hokf : okH h m.sd m.cold side pe h.must = okf at hv hcl hR hokP
  generalize hnxf : nxt h m.sd m.cold = nxf at hv hcl hR
  refine MS.by ck_Md_rosterAt [some (vr 117), some (vi side), some (vi i), none, none, none] fun _ _ => ?_
  generalize hQ : (fun (r : Option AV) (M' : AM) => r = some (vi R) ∧ M' = M) = Q
  have loop : ∀ (r k s : Nat) (l5 : Option AV), k + r = i → s ∈ l → rosI okf nxf r s = R → AW G d mi_Md_rosterAt Q 8 [some (vr 117), some (vi side), some (vi i), some (vi s), some (vi k), l5] [] M := by
    intro r
    induction r with
    | zero =>
      intro k s l5 hk hs hro
      have hs3 := hl3 s hs
      obtain ⟨f1, f2⟩ := hf s hs
      by_cases q0 : f s = 0
      · rw [rosI_0 (hv.zero hs q0)] at hro
        refine AW.run ck_Md_rosterAt [20, 71] 10 8 ?_
        simp only [wR, wB, wE0, wE1, wE2, wE3, g0, gS, s10, s11, s1S, s20, s21, s2S, kl0, kl1, kl2, kl3, sp0, sp1, sp2, sp3, cn1, cn2, cn3, cn4, cn5, cn6, jJa, lk0, lk1, jmS, jmN, s4_0, s4_1, s4_2, s4_3, s4_4, sw0, sw1, cKs, cKn, true_and, and_true, List.map_cons, List.map_nil, Nat.reduceAdd, Nat.zero_add, Int.reduceAdd, Nat.reduceEqDiff, reduceIte, Classical.not_not, b_Md_rosterAt, shMd, f1]
        (repeat' (first | omega | exact ⟨by omega, by omega⟩ | (with_reducible exact Or.inr trivial) | (with_reducible exact Or.inl trivial) | (with_reducible assumption) | (with_reducible exact Same.refl) | (with_reducible rfl) | (with_reducible refine And.intro ?_ ?_) | (with_reducible intro _)))
        refine AW.run ck_Md_rosterAt [] 10 71 ?_
        simp only [wR, wB, wE0, wE1, wE2, wE3, g0, gS, s10, s11, s1S, s20, s21, s2S, kl0, kl1, kl2, kl3, sp0, sp1, sp2, sp3, cn1, cn2, cn3, cn4, cn5, cn6, jJa, lk0, lk1, jmS, jmN, s4_0, s4_1, s4_2, s4_3, s4_4, sw0, sw1, cKs, cKn, true_and, and_true, List.map_cons, List.map_nil, Nat.reduceAdd, Nat.zero_add, Int.reduceAdd, Nat.reduceEqDiff, reduceIte, Classical.not_not, b_Md_rosterAt]
        subst hQ
        rw [← hro]
        (repeat' (first | omega | exact ⟨by omega, by omega⟩ | (with_reducible exact Or.inr trivial) | (with_reducible exact Or.inl trivial) | (with_reducible assumption) | (with_reducible exact Same.refl) | (with_reducible rfl) | (with_reducible refine And.intro ?_ ?_) | (with_reducible intro _)))
      · obtain ⟨x, p0, p1, p2, p3, p4⟩ := hv.pick hcl hs q0
        have hro' : (x : Int) = R := by rw [← hro, ← p0]; rfl
        have find : ∀ (r y : Nat), y + r = x → AW G d mi_Md_rosterAt Q 20 [some (vr 117), some (vi side), some (vi i), some (vi s), some (vi k), some (vi y)] [] M := by
          intro r
          induction r with
          | zero =>
            intro y hy
            obtain rfl : x = y := by omega
            refine AW.run ck_Md_rosterAt [20] 10 20 ?_
            simp only [wR, wB, wE0, wE1, wE2, wE3, g0, gS, s10, s11, s1S, s20, s21, s2S, kl0, kl1, kl2, kl3, sp0, sp1, sp2, sp3, cn1, cn2, cn3, cn4, cn5, cn6, jJa, lk0, lk1, jmS, jmN, s4_0, s4_1, s4_2, s4_3, s4_4, sw0, sw1, cKs, cKn, true_and, and_true, List.map_cons, List.map_nil, Nat.reduceAdd, Nat.zero_add, Int.reduceAdd, Nat.reduceEqDiff, reduceIte, Classical.not_not, b_Md_rosterAt, shMd]
            refine ⟨by omega, MS.to (c_Md_heldBy (d := d - 1) (by omega) hok hL hf hs p1 hside) fun _ => ?_⟩
            rw [hokf, hnxf]
            have e : hbZ okf nxf f s (x) = (f s : Int) := by unfold hbZ; rw [if_pos p2, p3]
            rw [e]
            simp only [wR, wB, wE0, wE1, wE2, wE3, g0, gS, s10, s11, s1S, s20, s21, s2S, kl0, kl1, kl2, kl3, sp0, sp1, sp2, sp3, cn1, cn2, cn3, cn4, cn5, cn6, jJa, lk0, lk1, jmS, jmN, s4_0, s4_1, s4_2, s4_3, s4_4, sw0, sw1, cKs, cKn, true_and, and_true, List.map_cons, List.map_nil, Nat.reduceAdd, Nat.zero_add, Int.reduceAdd, Nat.reduceEqDiff, reduceIte, Classical.not_not, b_Md_rosterAt, shMd, f1, up_rd, Int.reduceEq, and_false, false_and, and_self, reduceIte, not_true_eq_false, not_false_eq_true, false_imp_iff, true_imp_iff, true_or, or_true]
            subst hQ
            rw [← hro']
            (repeat' (first | omega | exact ⟨by omega, by omega⟩ | (with_reducible exact Or.inr trivial) | (with_reducible exact Or.inl trivial) | (with_reducible assumption) | (with_reducible exact Same.refl) | (with_reducible rfl) | (with_reducible refine And.intro ?_ ?_) | (with_reducible intro _)))
          | succ r ih2 =>
            intro y hy
            have hne : ¬ hbZ okf nxf f s y = (f s : Int) := by
              unfold hbZ
              by_cases qo : okf s y = true
              · rw [if_pos qo]
                intro e
                exact p4 y (by omega) ⟨qo, by omega⟩
              · rw [if_neg qo]; omega
            have key := ih2 (y + 1) (by omega)
            refine AW.run ck_Md_rosterAt [43, 20] 10 20 ?_
            simp only [wR, wB, wE0, wE1, wE2, wE3, g0, gS, s10, s11, s1S, s20, s21, s2S, kl0, kl1, kl2, kl3, sp0, sp1, sp2, sp3, cn1, cn2, cn3, cn4, cn5, cn6, jJa, lk0, lk1, jmS, jmN, s4_0, s4_1, s4_2, s4_3, s4_4, sw0, sw1, cKs, cKn, true_and, and_true, List.map_cons, List.map_nil, Nat.reduceAdd, Nat.zero_add, Int.reduceAdd, Nat.reduceEqDiff, reduceIte, Classical.not_not, b_Md_rosterAt, shMd]
            refine ⟨by omega, MS.to (c_Md_heldBy (d := d - 1) (by omega) hok hL hf hs (by omega) hside) fun _ => ?_⟩
            rw [hokf, hnxf]
            simp only [wR, wB, wE0, wE1, wE2, wE3, g0, gS, s10, s11, s1S, s20, s21, s2S, kl0, kl1, kl2, kl3, sp0, sp1, sp2, sp3, cn1, cn2, cn3, cn4, cn5, cn6, jJa, lk0, lk1, jmS, jmN, s4_0, s4_1, s4_2, s4_3, s4_4, sw0, sw1, cKs, cKn, true_and, and_true, List.map_cons, List.map_nil, Nat.reduceAdd, Nat.zero_add, Int.reduceAdd, Nat.reduceEqDiff, reduceIte, Classical.not_not, b_Md_rosterAt, shMd, f1, ce]
            (repeat' (first | omega | exact ⟨by omega, by omega⟩ | (with_reducible exact Or.inr trivial) | (with_reducible exact Or.inl trivial) | (with_reducible assumption) | (with_reducible exact Same.refl) | (with_reducible rfl) | (with_reducible refine And.intro ?_ ?_) | (with_reducible intro _)))
        have := find (x) 0 (by omega)
        refine AW.run ck_Md_rosterAt [20, 71] 10 8 ?_
        simp only [wR, wB, wE0, wE1, wE2, wE3, g0, gS, s10, s11, s1S, s20, s21, s2S, kl0, kl1, kl2, kl3, sp0, sp1, sp2, sp3, cn1, cn2, cn3, cn4, cn5, cn6, jJa, lk0, lk1, jmS, jmN, s4_0, s4_1, s4_2, s4_3, s4_4, sw0, sw1, cKs, cKn, true_and, and_true, List.map_cons, List.map_nil, Nat.reduceAdd, Nat.zero_add, Int.reduceAdd, Nat.reduceEqDiff, reduceIte, Classical.not_not, b_Md_rosterAt, shMd, f1]
        (repeat' (first | omega | exact ⟨by omega, by omega⟩ | (with_reducible exact Or.inr trivial) | (with_reducible exact Or.inl trivial) | (with_reducible assumption) | (with_reducible exact Same.refl) | (with_reducible rfl) | (with_reducible refine And.intro ?_ ?_) | (with_reducible intro _)))
    | succ r ih =>
      intro k s l5 hk hs hro
      have hs3 := hl3 s hs
      obtain ⟨f1, f2⟩ := hf s hs
      by_cases q0 : f s = 0
      · rw [rosI_0 (hv.zero hs q0)] at hro
        refine AW.run ck_Md_rosterAt [20, 71] 10 8 ?_
        simp only [wR, wB, wE0, wE1, wE2, wE3, g0, gS, s10, s11, s1S, s20, s21, s2S, kl0, kl1, kl2, kl3, sp0, sp1, sp2, sp3, cn1, cn2, cn3, cn4, cn5, cn6, jJa, lk0, lk1, jmS, jmN, s4_0, s4_1, s4_2, s4_3, s4_4, sw0, sw1, cKs, cKn, true_and, and_true, List.map_cons, List.map_nil, Nat.reduceAdd, Nat.zero_add, Int.reduceAdd, Nat.reduceEqDiff, reduceIte, Classical.not_not, b_Md_rosterAt, shMd, f1]
        (repeat' (first | omega | exact ⟨by omega, by omega⟩ | (with_reducible exact Or.inr trivial) | (with_reducible exact Or.inl trivial) | (with_reducible assumption) | (with_reducible exact Same.refl) | (with_reducible rfl) | (with_reducible refine And.intro ?_ ?_) | (with_reducible intro _)))
        refine AW.run ck_Md_rosterAt [] 10 71 ?_
        simp only [wR, wB, wE0, wE1, wE2, wE3, g0, gS, s10, s11, s1S, s20, s21, s2S, kl0, kl1, kl2, kl3, sp0, sp1, sp2, sp3, cn1, cn2, cn3, cn4, cn5, cn6, jJa, lk0, lk1, jmS, jmN, s4_0, s4_1, s4_2, s4_3, s4_4, sw0, sw1, cKs, cKn, true_and, and_true, List.map_cons, List.map_nil, Nat.reduceAdd, Nat.zero_add, Int.reduceAdd, Nat.reduceEqDiff, reduceIte, Classical.not_not, b_Md_rosterAt]
        subst hQ
        rw [← hro]
        (repeat' (first | omega | exact ⟨by omega, by omega⟩ | (with_reducible exact Or.inr trivial) | (with_reducible exact Or.inl trivial) | (with_reducible assumption) | (with_reducible exact Same.refl) | (with_reducible rfl) | (with_reducible refine And.intro ?_ ?_) | (with_reducible intro _)))
      · obtain ⟨x, p0, p1, p2, p3, p4⟩ := hv.pick hcl hs q0
        rw [rosI_s p0] at hro
        have find : ∀ (r' y : Nat), y + r' = x → AW G d mi_Md_rosterAt Q 20 [some (vr 117), some (vi side), some (vi i), some (vi s), some (vi k), some (vi y)] [] M := by
          intro r'
          induction r' with
          | zero =>
            intro y hy
            obtain rfl : x = y := by omega
            have ht := hcl _ _ hs p1 p2
            have e126 := (hL.2.2.2 _ hs (x) p1).1
            rw [if_pos (hokP _ _ p2), hnxf] at e126
            have key := ih (k + 1) (nxf s (x)) (some (vi (x))) (by omega) ht hro
            refine AW.run ck_Md_rosterAt [20, 8] 10 20 ?_
            simp only [wR, wB, wE0, wE1, wE2, wE3, g0, gS, s10, s11, s1S, s20, s21, s2S, kl0, kl1, kl2, kl3, sp0, sp1, sp2, sp3, cn1, cn2, cn3, cn4, cn5, cn6, jJa, lk0, lk1, jmS, jmN, s4_0, s4_1, s4_2, s4_3, s4_4, sw0, sw1, cKs, cKn, true_and, and_true, List.map_cons, List.map_nil, Nat.reduceAdd, Nat.zero_add, Int.reduceAdd, Nat.reduceEqDiff, reduceIte, Classical.not_not, b_Md_rosterAt, shMd]
            refine ⟨by omega, MS.to (c_Md_heldBy (d := d - 1) (by omega) hok hL hf hs p1 hside) fun _ => ?_⟩
            rw [hokf, hnxf]
            have e : hbZ okf nxf f s (x) = (f s : Int) := by unfold hbZ; rw [if_pos p2, p3]
            rw [e]
            simp only [wR, wB, wE0, wE1, wE2, wE3, g0, gS, s10, s11, s1S, s20, s21, s2S, kl0, kl1, kl2, kl3, sp0, sp1, sp2, sp3, cn1, cn2, cn3, cn4, cn5, cn6, jJa, lk0, lk1, jmS, jmN, s4_0, s4_1, s4_2, s4_3, s4_4, sw0, sw1, cKs, cKn, true_and, and_true, List.map_cons, List.map_nil, Nat.reduceAdd, Nat.zero_add, Int.reduceAdd, Nat.reduceEqDiff, reduceIte, Classical.not_not, b_Md_rosterAt, shMd, f1, e126, ce, up_rd, Int.reduceEq, and_false, false_and, and_self, reduceIte, not_true_eq_false, not_false_eq_true, false_imp_iff, true_imp_iff, true_or, or_true]
            (repeat' (first | omega | exact ⟨by omega, by omega⟩ | (with_reducible exact Or.inr trivial) | (with_reducible exact Or.inl trivial) | (with_reducible assumption) | (with_reducible exact Same.refl) | (with_reducible rfl) | (with_reducible refine And.intro ?_ ?_) | (with_reducible intro _)))
          | succ r' ih2 =>
            intro y hy
            have hne : ¬ hbZ okf nxf f s y = (f s : Int) := by
              unfold hbZ
              by_cases qo : okf s y = true
              · rw [if_pos qo]
                intro e
                exact p4 y (by omega) ⟨qo, by omega⟩
              · rw [if_neg qo]; omega
            have key := ih2 (y + 1) (by omega)
            refine AW.run ck_Md_rosterAt [43, 20] 10 20 ?_
            simp only [wR, wB, wE0, wE1, wE2, wE3, g0, gS, s10, s11, s1S, s20, s21, s2S, kl0, kl1, kl2, kl3, sp0, sp1, sp2, sp3, cn1, cn2, cn3, cn4, cn5, cn6, jJa, lk0, lk1, jmS, jmN, s4_0, s4_1, s4_2, s4_3, s4_4, sw0, sw1, cKs, cKn, true_and, and_true, List.map_cons, List.map_nil, Nat.reduceAdd, Nat.zero_add, Int.reduceAdd, Nat.reduceEqDiff, reduceIte, Classical.not_not, b_Md_rosterAt, shMd]
            refine ⟨by omega, MS.to (c_Md_heldBy (d := d - 1) (by omega) hok hL hf hs (by omega) hside) fun _ => ?_⟩
            rw [hokf, hnxf]
            simp only [wR, wB, wE0, wE1, wE2, wE3, g0, gS, s10, s11, s1S, s20, s21, s2S, kl0, kl1, kl2, kl3, sp0, sp1, sp2, sp3, cn1, cn2, cn3, cn4, cn5, cn6, jJa, lk0, lk1, jmS, jmN, s4_0, s4_1, s4_2, s4_3, s4_4, sw0, sw1, cKs, cKn, true_and, and_true, List.map_cons, List.map_nil, Nat.reduceAdd, Nat.zero_add, Int.reduceAdd, Nat.reduceEqDiff, reduceIte, Classical.not_not, b_Md_rosterAt, shMd, f1, ce]
            (repeat' (first | omega | exact ⟨by omega, by omega⟩ | (with_reducible exact Or.inr trivial) | (with_reducible exact Or.inl trivial) | (with_reducible assumption) | (with_reducible exact Same.refl) | (with_reducible rfl) | (with_reducible refine And.intro ?_ ?_) | (with_reducible intro _)))
        have := find (x) 0 (by omega)
        refine AW.run ck_Md_rosterAt [20, 71] 10 8 ?_
        simp only [wR, wB, wE0, wE1, wE2, wE3, g0, gS, s10, s11, s1S, s20, s21, s2S, kl0, kl1, kl2, kl3, sp0, sp1, sp2, sp3, cn1, cn2, cn3, cn4, cn5, cn6, jJa, lk0, lk1, jmS, jmN, s4_0, s4_1, s4_2, s4_3, s4_4, sw0, sw1, cKs, cKn, true_and, and_true, List.map_cons, List.map_nil, Nat.reduceAdd, Nat.zero_add, Int.reduceAdd, Nat.reduceEqDiff, reduceIte, Classical.not_not, b_Md_rosterAt, shMd, f1]
        (repeat' (first | omega | exact ⟨by omega, by omega⟩ | (with_reducible exact Or.inr trivial) | (with_reducible exact Or.inl trivial) | (with_reducible assumption) | (with_reducible exact Same.refl) | (with_reducible rfl) | (with_reducible refine And.intro ?_ ?_) | (with_reducible intro _)))
  have := loop i 0 (cod m.st h.P) none (by omega) hsin hR
  refine AW.run ck_Md_rosterAt [8] 10 0 ?_
  simp only [wR, wB, wE0, wE1, wE2, wE3, g0, gS, s10, s11, s1S, s20, s21, s2S, kl0, kl1, kl2, kl3, sp0, sp1, sp2, sp3, cn1, cn2, cn3, cn4, cn5, cn6, jJa, lk0, lk1, jmS, jmN, s4_0, s4_1, s4_2, s4_3, s4_4, sw0, sw1, cKs, cKn, true_and, and_true, List.map_cons, List.map_nil, Nat.reduceAdd, Nat.zero_add, Int.reduceAdd, Nat.reduceEqDiff, reduceIte, Classical.not_not, b_Md_rosterAt, shMd]
  refine ⟨by omega, MS.to (c_Md_standNow hH.2.1 hP (hm.st mok)) fun _ => ?_⟩
  simp only [wR, wB, wE0, wE1, wE2, wE3, g0, gS, s10, s11, s1S, s20, s21, s2S, kl0, kl1, kl2, kl3, sp0, sp1, sp2, sp3, cn1, cn2, cn3, cn4, cn5, cn6, jJa, lk0, lk1, jmS, jmN, s4_0, s4_1, s4_2, s4_3, s4_4, sw0, sw1, cKs, cKn, true_and, and_true, List.map_cons, List.map_nil, Nat.reduceAdd, Nat.zero_add, Int.reduceAdd, Nat.reduceEqDiff, reduceIte, Classical.not_not, b_Md_rosterAt]
  exact this
end MH3
