/-! states that can come -/
theorem len_sub {α : Type} [DecidableEq α] : ∀ (l r : List α), l.Nodup → (∀ x, x ∈ l → x ∈ r) → l.length ≤ r.length
  | [], _, _, _ => Nat.zero_le _
  | x :: l, r, hn, hs => by
    have hx : x ∈ r := hs x List.mem_cons_self
    have hn' := List.nodup_cons.mp hn
    have h := len_sub l (r.erase x) hn'.2 (fun y hy => by
      have hne : y ≠ x := fun e => hn'.1 (e ▸ hy)
      exact (List.mem_erase_of_ne hne).mpr (hs y (List.mem_cons_of_mem _ hy)))
    rw [List.length_erase_of_mem hx] at h
    have : 0 < r.length := List.length_pos_of_mem hx
    simp only [List.length_cons]
    omega
theorem len_lt {l : List Nat} {N : Nat} (hn : l.Nodup) (h : ∀ x, x ∈ l → x < N) : l.length ≤ N := by
  have := len_sub l (List.range N) hn (fun x hx => List.mem_range.mpr (h x hx))
  rwa [List.length_range] at this
theorem len_eq {l r : List Nat} (hl : l.Nodup) (hr : r.Nodup) (h : ∀ x, x ∈ l ↔ x ∈ r) : l.length = r.length :=
  Nat.le_antisymm (len_sub l r hl (fun x hx => (h x).mp hx)) (len_sub r l hr (fun x hx => (h x).mpr hx))
/-- s can come of s0 -/
def Rc (ok : Nat → Nat → Bool) (nx : Nat → Nat → Nat) (s0 s : Nat) : Prop := ∀ S : Nat → Prop, S s0 → (∀ t set, S t → set < 32 → ok t set = true → S (nx t set)) → S s
theorem Rc.refl {ok : Nat → Nat → Bool} {nx : Nat → Nat → Nat} {s0 : Nat} : Rc ok nx s0 s0 := fun _ h _ => h
theorem Rc.step {ok : Nat → Nat → Bool} {nx : Nat → Nat → Nat} {s0 t set : Nat} (h : Rc ok nx s0 t) (hs : set < 32) (hok : ok t set = true) : Rc ok nx s0 (nx t set) := fun S h0 hS => hS t set (h S h0 hS) hs hok
/-- a list is just of what can come -/
def isRc (ok : Nat → Nat → Bool) (nx : Nat → Nat → Nat) (s0 : Nat) (l : List Nat) : Prop := l.Nodup ∧ ∀ s, s ∈ l ↔ Rc ok nx s0 s
theorem isRc.len {ok : Nat → Nat → Bool} {nx : Nat → Nat → Nat} {s0 : Nat} {l r : List Nat} (h : isRc ok nx s0 l) (h2 : isRc ok nx s0 r) : l.length = r.length := len_eq h.1 h2.1 (fun x => (h.2 x).trans (h2.2 x).symm)
theorem isRc.of {ok : Nat → Nat → Bool} {nx : Nat → Nat → Nat} {s0 : Nat} {l : List Nat} (hn : l.Nodup) (h0 : s0 ∈ l) (hc : ∀ t set, t ∈ l → set < 32 → ok t set = true → nx t set ∈ l) (hr : ∀ s, s ∈ l → Rc ok nx s0 s) : isRc ok nx s0 l := ⟨hn, fun s => ⟨hr s, fun h => h (· ∈ l) h0 hc⟩⟩
noncomputable def numR (ok : Nat → Nat → Bool) (nx : Nat → Nat → Nat) (s0 : Nat) : Nat := Classical.epsilon (fun n => ∃ l, isRc ok nx s0 l ∧ l.length = n)
theorem isRc.num {ok : Nat → Nat → Bool} {nx : Nat → Nat → Nat} {s0 : Nat} {l : List Nat} (h : isRc ok nx s0 l) : l.length = numR ok nx s0 := by
  have := Classical.epsilon_spec (p := fun n => ∃ l, isRc ok nx s0 l ∧ l.length = n) ⟨_, l, h, rfl⟩
  obtain ⟨r, hr, e⟩ := this
  unfold numR
  rw [← e]
  exact h.len hr
def addL (l : List Nat) (s : Nat) : List Nat := if s ∈ l then l else l ++ [s]
theorem addL_mem {l : List Nat} {s x : Nat} : x ∈ addL l s ↔ x ∈ l ∨ x = s := by
  unfold addL
  by_cases q : s ∈ l
  · rw [if_pos q]
    exact ⟨Or.inl, fun h => h.elim id (fun e => e ▸ q)⟩
  · rw [if_neg q]; simp
theorem addL_nodup {l : List Nat} {s : Nat} (h : l.Nodup) : (addL l s).Nodup := by
  unfold addL
  by_cases q : s ∈ l
  · rw [if_pos q]; exact h
  · rw [if_neg q]
    rw [List.nodup_append]
    refine ⟨h, by simp, ?_⟩
    intro a ha b hb e
    simp only [List.mem_singleton] at hb
    subst hb
    subst e
    exact q ha
/-- one list goes on as another -/
def pre (l r : List Nat) : Prop := l.length ≤ r.length ∧ ∀ j, j < l.length → r.getD j 0 = l.getD j 0
theorem pre.refl {l : List Nat} : pre l l := ⟨Nat.le_refl _, fun _ _ => rfl⟩
theorem pre.trans {l r t : List Nat} (h : pre l r) (h2 : pre r t) : pre l t := ⟨Nat.le_trans h.1 h2.1, fun j hj => (h2.2 j (Nat.lt_of_lt_of_le hj h.1)).trans (h.2 j hj)⟩
theorem addL_pre {l : List Nat} {s : Nat} : pre l (addL l s) := by
  unfold addL
  by_cases q : s ∈ l
  · rw [if_pos q]; exact pre.refl
  · rw [if_neg q]
    refine ⟨by simp, fun j hj => ?_⟩
    rw [List.getD_eq_getElem?_getD, List.getD_eq_getElem?_getD, List.getElem?_append_left hj]
theorem getD_mem {l : List Nat} {j : Nat} (h : j < l.length) : l.getD j 0 ∈ l := by
  rw [List.getD_eq_getElem?_getD, List.getElem?_eq_getElem h]
  exact List.getElem_mem h
theorem getD_inj {l : List Nat} (hn : l.Nodup) {i j : Nat} (hi : i < l.length) (hj : j < l.length) (e : l.getD i 0 = l.getD j 0) : i = j := by
  rw [List.getD_eq_getElem?_getD, List.getD_eq_getElem?_getD, List.getElem?_eq_getElem hi, List.getElem?_eq_getElem hj] at e
  exact (List.getElem_inj hn).mp e
theorem mem_getD {l : List Nat} {x : Nat} (h : x ∈ l) : ∃ j, j < l.length ∧ l.getD j 0 = x := by
  obtain ⟨j, hj, e⟩ := List.getElem_of_mem h
  exact ⟨j, hj, by rw [List.getD_eq_getElem?_getD, List.getElem?_eq_getElem hj]; exact e⟩
/-- may a set hold, of some people -/
def okP (P pe s set : Nat) : Bool := decide (set &&& (31 ^^^ (ablS P s &&& pe)) = 0)
/-- the model's list of stands -/
def stL (M : AM) (l : List Nat) : Prop := M 117 27 = l.length ∧ (∀ j : Nat, j < l.length → M 125 j = l.getD j 0) ∧ (∀ s : Nat, s < 3125 → M 130 s = if s ∈ l then 1 else 0) ∧ l.Nodup ∧ ∀ s, s ∈ l → s < 3125
def rowM (M : AM) (h : Hl) (sd : Nat → Nat) (cold pe s set : Nat) : Prop := (M 126 (32 * (s : Int) + set) = if okP h.P pe s set = true then (nxt h sd cold s set : Int) else -1) ∧ (okP h.P pe s set = true → M 129 (32 * (s : Int) + set) = stood h sd cold s set)
section GR
variable {G : AG} {d : Nat} {M : AM}
theorem c_Md_adds {l : List Nat} {s : Nat} (hl : stL M l) (hs : s < 3125) : MS G d mi_Md_adds [vr 117, vi s] M (fun r M' => r = none ∧ stL M' (addL l s) ∧ Same [117, 125, 130] M M' ∧ ∀ y : Int, y ≠ 27 → M' 117 y = M 117 y) := by
  obtain ⟨l1, l2, l3, l4, l5⟩ := hl
  have hlen := len_lt l4 l5
  have hk := l3 s hs
  refine MS.run ck_Md_adds [some (vr 117), some (vi s)] [] 10 fun _ _ => ?_
  simp only [wR, wB, wE0, wE1, wE2, wE3, g0, gS, s10, s11, s1S, s20, s21, s2S, kl0, kl1, kl2, kl3, sp0, sp1, sp2, sp3, cn1, cn2, cn3, cn4, cn5, cn6, jJa, lk0, lk1, jmS, jmN, s4_0, s4_1, s4_2, s4_3, s4_4, sw0, sw1, cKs, cKn, true_and, and_true, List.map_cons, List.map_nil, Nat.reduceAdd, Nat.zero_add, Int.reduceAdd, Nat.reduceEqDiff, reduceIte, Classical.not_not, b_Md_adds, shMd, hk]
  by_cases q : s ∈ l
  · rw [if_pos q]
    have e : addL l s = l := by unfold addL; rw [if_pos q]
    rw [e]
    have : stL M l := ⟨l1, l2, l3, l4, l5⟩
    (repeat' (first | omega | (with_reducible exact True.intro) | exact ⟨by omega, by omega⟩ | (with_reducible exact Or.inr trivial) | (with_reducible exact Or.inl trivial) | (with_reducible assumption) | (with_reducible exact Same.refl) | (with_reducible rfl) | (with_reducible refine And.intro ?_ ?_) | (with_reducible intro _)))
  · rw [if_neg q]
    have e : addL l s = l ++ [s] := by unfold addL; rw [if_neg q]
    have hlen2 : l.length < 3125 := by
      have h1 : (addL l s).Nodup := addL_nodup l4
      have h2 := len_lt (N := 3125) h1 (fun x hx => by
        rcases addL_mem.mp hx with a | a
        · exact l5 x a
        · omega)
      rw [e, List.length_append] at h2
      simp at h2
      omega
    rw [up_ne1 (show (117 : Int) ≠ 130 by omega), l1]
    simp only [wR, wB, wE0, wE1, wE2, wE3, g0, gS, s10, s11, s1S, s20, s21, s2S, kl0, kl1, kl2, kl3, sp0, sp1, sp2, sp3, cn1, cn2, cn3, cn4, cn5, cn6, jJa, lk0, lk1, jmS, jmN, s4_0, s4_1, s4_2, s4_3, s4_4, sw0, sw1, cKs, cKn, true_and, and_true, List.map_cons, List.map_nil, Nat.reduceAdd, Nat.zero_add, Int.reduceAdd, Nat.reduceEqDiff, reduceIte, Classical.not_not, up_rd, Int.reduceEq, and_false, false_and, and_self, reduceIte, not_true_eq_false, not_false_eq_true, false_imp_iff, true_imp_iff, true_or, or_true, l1]
    (repeat' (first | omega | exact ⟨by omega, by omega⟩ | (with_reducible exact Or.inr trivial) | (with_reducible exact Or.inl trivial) | (with_reducible assumption) | (with_reducible exact Same.refl) | (with_reducible rfl) | (with_reducible refine And.intro ?_ ?_) | (with_reducible intro _)))
    · refine ⟨?_, fun j hj => ?_, fun x hx => ?_, addL_nodup l4, fun x hx => ?_⟩
      · rw [up_eq, e]; simp
      · rw [up_ne1 (by omega)]
        rw [e] at hj ⊢
        rw [List.length_append] at hj
        simp only [List.length_singleton] at hj
        by_cases qj : j = l.length
        · subst qj
          rw [up_eq, List.getD_eq_getElem?_getD, List.getElem?_append_right (Nat.le_refl _)]; simp
        · rw [up_ne2 (by omega), up_ne1 (by omega), l2 j (by omega), List.getD_eq_getElem?_getD, List.getD_eq_getElem?_getD, List.getElem?_append_left (by omega)]
      · rw [up_ne1 (by omega), up_ne1 (by omega)]
        by_cases qx : x = s
        · subst qx
          rw [up_eq, if_pos (addL_mem.mpr (Or.inr rfl))]
        · rw [up_ne2 (by omega), l3 x hx]
          by_cases qm : x ∈ l
          · rw [if_pos qm, if_pos (addL_mem.mpr (Or.inl qm))]
          · rw [if_neg qm, if_neg (fun h => (addL_mem.mp h).elim qm qx)]
      · rcases addL_mem.mp hx with a | a
        · exact l5 x a
        · omega
    · exact (((Same.refl.up (by simp)).up (by simp)).up (by simp))
/-- the stands laid -/
def LSt (M : AM) (h : Hl) (sd : Nat → Nat) (cold pe s0 : Nat) (l : List Nat) : Prop := stL M l ∧ isRc (okP h.P pe) (nxt h sd cold) s0 l ∧ s0 = l.getD 0 0 ∧ ∀ s, s ∈ l → ∀ set : Nat, set < 32 → rowM M h sd cold pe s set
theorem rowM_ne {M : AM} {h : Hl} {sd : Nat → Nat} {cold pe s set : Nat} {N : AM} (H : rowM M h sd cold pe s set) (h1 : N 126 (32 * (s : Int) + set) = M 126 (32 * (s : Int) + set)) (h2 : N 129 (32 * (s : Int) + set) = M 129 (32 * (s : Int) + set)) : rowM N h sd cold pe s set := by
  unfold rowM
  rw [h1, h2]
  exact H
theorem stL.eq {M N : AM} {l : List Nat} (h : stL M l) (h0 : N 117 27 = M 117 27) (h1 : N 125 = M 125) (h2 : N 130 = M 130) : stL N l := by
  unfold stL
  rw [h0, h1, h2]
  exact h
theorem stood_le {h : Hl} {sd : Nat → Nat} {cold s set : Nat} : stood h sd cold s set ≤ 3 := by
  unfold stood
  (repeat' split) <;> omega
theorem okP_lt {P pe s set : Nat} (hP : P ≤ 5) (hpe : pe < 32) (hset : set < 32) : okP P pe s set = true ↔ sub set (ablS P s &&& pe) := by
  unfold okP
  rw [decide_eq_true_eq]
  exact sub_iff hset (Nat.lt_of_le_of_lt Nat.and_le_right hpe)
set_option maxRecDepth 20000 in
theorem c_Md_laysStands {h : Hl} {m : Mo} {pe : Nat} (hd : 10 ≤ d) (hok : HlOK h) (mok : MoOK m) (hH : MH (M 118) h) (hm : MRow (fun y => M 118 (19 + y)) h.P m) (hpe : pe < 32) :
    MS G d mi_Md_laysStands [vr 117, vi pe] M (fun r M' => r = none ∧ (∃ l, LSt M' h m.sd m.cold pe (cod m.st h.P) l) ∧ Same [117, 122, 123, 125, 126, 129, 130] M M' ∧ ∀ y : Int, y ≠ 27 → M' 117 y = M 117 y) := by
  have hP := hok.1
  have hsd := hm.sd mok
  have hst := hm.st mok
  have hcold := hm.g.2.2.1
  have hs0 := cod_100k hok mok
  refine MS.by ck_Md_laysStands [some (vr 117), some (vi pe), none, none, none, none] fun _ _ => ?_
  generalize hQ : (fun (r : Option AV) (M' : AM) => r = none ∧ (∃ l, LSt M' h m.sd m.cold pe (cod m.st h.P) l) ∧ Same [117, 122, 123, 125, 126, 129, 130] M M' ∧ ∀ y : Int, y ≠ 27 → M' 117 y = M 117 y) = Q
  generalize hs0' : cod m.st h.P = s0 at hQ hs0
  -- over the list
  have l37 : ∀ (r k : Nat) (N : AM) (l : List Nat) (l3 l4 l5 : Option AV), k + r = 3126 → k ≤ l.length → stL N l → s0 = l.getD 0 0 → 0 < l.length → (∀ s, s ∈ l → Rc (okP h.P pe) (nxt h m.sd m.cold) s0 s) → (∀ j : Nat, j < k → ∀ set : Nat, set < 32 → rowM N h m.sd m.cold pe (l.getD j 0) set ∧ (okP h.P pe (l.getD j 0) set = true → nxt h m.sd m.cold (l.getD j 0) set ∈ l)) → Same [117, 122, 123, 125, 126, 129, 130] M N → (∀ y : Int, y ≠ 27 → N 117 y = M 117 y) → AW G d mi_Md_laysStands Q 37 [some (vr 117), some (vi pe), some (vi k), l3, l4, l5] [] N := by
    as_aux_lemma =>
      intro r
      induction r with
      | zero =>
        intro k N l l3 l4 l5 hk hkl hl
        have := len_lt hl.2.2.2.1 hl.2.2.2.2
        omega
      | succ r ih =>
        intro k N l l3 l4 l5 hk hkl hl h0 hpos hrc hrows hs hf
        have hlen := len_lt hl.2.2.2.1 hl.2.2.2.2
        have e27 := hl.1
        refine AW.run ck_Md_laysStands [55] 10 37 ?_
        simp only [wR, wB, wE0, wE1, wE2, wE3, g0, gS, s10, s11, s1S, s20, s21, s2S, kl0, kl1, kl2, kl3, sp0, sp1, sp2, sp3, cn1, cn2, cn3, cn4, cn5, cn6, jJa, lk0, lk1, jmS, jmN, s4_0, s4_1, s4_2, s4_3, s4_4, sw0, sw1, cKs, cKn, true_and, and_true, List.map_cons, List.map_nil, Nat.reduceAdd, Nat.zero_add, Int.reduceAdd, Nat.reduceEqDiff, reduceIte, Classical.not_not, b_Md_laysStands, shMd, e27]
        by_cases q : k = l.length
        · subst hQ
          (repeat' (first | omega | exact ⟨by omega, by omega⟩ | (with_reducible exact Or.inr trivial) | (with_reducible exact Or.inl trivial) | (with_reducible assumption) | (with_reducible exact Same.refl) | (with_reducible rfl) | (with_reducible refine And.intro ?_ ?_) | (with_reducible intro _)))
          refine ⟨l, hl, isRc.of hl.2.2.2.1 (by rw [h0]; exact getD_mem hpos) (fun t set ht hset hok' => ?_) hrc, h0, fun s hs' set hset => ?_⟩
          · obtain ⟨j, hj, e⟩ := mem_getD ht
            have := (hrows j (by omega) set hset).2
            rw [e] at this
            exact this hok'
          · obtain ⟨j, hj, e⟩ := mem_getD hs'
            have := (hrows j (by omega) set hset).1
            rw [e] at this
            exact this
        · have hkl' : k < l.length := by omega
          have ek := hl.2.1 k hkl'
          have hsk : l.getD k 0 < 3125 := hl.2.2.2.2 _ (getD_mem hkl')
          simp only [wR, wB, wE0, wE1, wE2, wE3, g0, gS, s10, s11, s1S, s20, s21, s2S, kl0, kl1, kl2, kl3, sp0, sp1, sp2, sp3, cn1, cn2, cn3, cn4, cn5, cn6, jJa, lk0, lk1, jmS, jmN, s4_0, s4_1, s4_2, s4_3, s4_4, sw0, sw1, cKs, cKn, true_and, and_true, List.map_cons, List.map_nil, Nat.reduceAdd, Nat.zero_add, Int.reduceAdd, Nat.reduceEqDiff, reduceIte, Classical.not_not, b_Md_laysStands, shMd, ek]
          (repeat' (first | omega | exact ⟨by omega, by omega⟩ | (with_reducible exact Or.inr trivial) | (with_reducible exact Or.inl trivial) | (with_reducible assumption) | (with_reducible exact Same.refl) | (with_reducible rfl) | (with_reducible refine And.intro ?_ ?_) | (with_reducible intro _)))
          have l55 : ∀ (r set : Nat) (N : AM) (l' : List Nat) (l5 : Option AV), set + r = 32 → stL N l' → k < l'.length → l'.getD k 0 = l.getD k 0 → s0 = l'.getD 0 0 → (∀ s, s ∈ l' → Rc (okP h.P pe) (nxt h m.sd m.cold) s0 s) → (∀ j : Nat, j < k → ∀ set : Nat, set < 32 → rowM N h m.sd m.cold pe (l'.getD j 0) set ∧ (okP h.P pe (l'.getD j 0) set = true → nxt h m.sd m.cold (l'.getD j 0) set ∈ l')) → (∀ x : Nat, x < set → rowM N h m.sd m.cold pe (l.getD k 0) x ∧ (okP h.P pe (l.getD k 0) x = true → nxt h m.sd m.cold (l.getD k 0) x ∈ l')) → Same [117, 122, 123, 125, 126, 129, 130] M N → (∀ y : Int, y ≠ 27 → N 117 y = M 117 y) → AW G d mi_Md_laysStands Q 55 [some (vr 117), some (vi pe), some (vi k), some (vi (l.getD k 0)), some (vi set), l5] [] N := by
            clear ek hl hrc hrows hs hf e27 hkl hkl' hlen hpos h0 q
            generalize l.getD k 0 = sk at hsk ⊢
            intro r
            induction r with
            | zero =>
              intro set N l' l5 hset hl hk' hsk' h0 hrc hrows hpart hs hf
              refine AW.run ck_Md_laysStands [37, 82] 10 55 ?_
              simp only [wR, wB, wE0, wE1, wE2, wE3, g0, gS, s10, s11, s1S, s20, s21, s2S, kl0, kl1, kl2, kl3, sp0, sp1, sp2, sp3, cn1, cn2, cn3, cn4, cn5, cn6, jJa, lk0, lk1, jmS, jmN, s4_0, s4_1, s4_2, s4_3, s4_4, sw0, sw1, cKs, cKn, true_and, and_true, List.map_cons, List.map_nil, Nat.reduceAdd, Nat.zero_add, Int.reduceAdd, Nat.reduceEqDiff, reduceIte, Classical.not_not, b_Md_laysStands, shMd, ce]
              (repeat' (first | omega | exact ⟨by omega, by omega⟩ | (with_reducible exact Or.inr trivial) | (with_reducible exact Or.inl trivial) | (with_reducible assumption) | (with_reducible exact Same.refl) | (with_reducible rfl) | (with_reducible refine And.intro ?_ ?_) | (with_reducible intro _)))
              refine ih (k + 1) N l' _ _ _ (by omega) (by omega) hl h0 (by omega) hrc (fun j hj x hx => ?_) hs hf
              by_cases e : j = k
              · subst e
                rw [hsk']
                exact hpart x (by omega)
              · exact hrows j (by omega) x hx
            | succ r ih2 =>
              intro set N l' l5 hset hl hk' hsk' h0 hrc hrows hpart hs hf
              have n118 : N 118 = M 118 := hs 118 (by (first | decide | (simp only [List.mem_cons, List.not_mem_nil, or_false, not_or, not_false_eq_true, and_true]; omega) | (simp [List.mem_cons]; done)))
              have hskm : sk ∈ l' := by rw [← hsk']; exact getD_mem hk'
              have hne : ∀ j : Nat, j < k → l'.getD j 0 ≠ sk := fun j hj e => by
                have := getD_inj hl.2.2.2.1 (show j < l'.length by omega) hk' (by rw [e, hsk'])
                omega
              have a163 : ∀ (K : AM) (l'' : List Nat) (l5 : Option AV), stL K l'' → k < l''.length → l''.getD k 0 = sk → s0 = l''.getD 0 0 → (∀ s, s ∈ l'' → Rc (okP h.P pe) (nxt h m.sd m.cold) s0 s) → (∀ j : Nat, j < k → ∀ set : Nat, set < 32 → rowM K h m.sd m.cold pe (l''.getD j 0) set ∧ (okP h.P pe (l''.getD j 0) set = true → nxt h m.sd m.cold (l''.getD j 0) set ∈ l'')) → (∀ x : Nat, x < set + 1 → rowM K h m.sd m.cold pe sk x ∧ (okP h.P pe sk x = true → nxt h m.sd m.cold sk x ∈ l'')) → Same [117, 122, 123, 125, 126, 129, 130] M K → (∀ y : Int, y ≠ 27 → K 117 y = M 117 y) → AW G d mi_Md_laysStands Q 163 [some (vr 117), some (vi pe), some (vi k), some (vi sk), some (vi set), l5] [] K := by
                intro K l'' l5 g1 g2 g3 g4 g5 g6 g7 g8 g9
                refine AW.run ck_Md_laysStands [55] 10 163 ?_
                simp only [wR, wB, wE0, wE1, wE2, wE3, g0, gS, s10, s11, s1S, s20, s21, s2S, kl0, kl1, kl2, kl3, sp0, sp1, sp2, sp3, cn1, cn2, cn3, cn4, cn5, cn6, jJa, lk0, lk1, jmS, jmN, s4_0, s4_1, s4_2, s4_3, s4_4, sw0, sw1, cKs, cKn, true_and, and_true, List.map_cons, List.map_nil, Nat.reduceAdd, Nat.zero_add, Int.reduceAdd, Nat.reduceEqDiff, reduceIte, Classical.not_not, b_Md_laysStands, ce]
                (repeat' (first | omega | exact ⟨by omega, by omega⟩ | (with_reducible exact Or.inr trivial) | (with_reducible exact Or.inl trivial) | (with_reducible assumption) | (with_reducible exact Same.refl) | (with_reducible rfl) | (with_reducible refine And.intro ?_ ?_) | (with_reducible intro _)))
                exact ih2 (set + 1) K l'' _ (by omega) g1 g2 g3 g4 g5 g6 g7 g8 g9
              have a118 : ∀ (K : AM) (v : Int), inI v → v = (if okP h.P pe sk set = true then (nxt h m.sd m.cold sk set : Int) else -1) → Same [122, 123] N K → AW G d mi_Md_laysStands Q 118 [some (vr 117), some (vi pe), some (vi k), some (vi sk), some (vi set), some (vi (if okP h.P pe sk set = true then 1 else 0))] [vi v, vi (32 * (sk : Int) + set), vr 126] K := by
                intro K v hvi hv hNK
                have hMK : Same [117, 122, 123, 125, 126, 129, 130] M K := hs.trans (hNK.mono (by simp))
                have hlK : stL K l' := hl.eq (hNK.at 117 _ (by (first | decide | (simp only [List.mem_cons, List.not_mem_nil, or_false, not_or, not_false_eq_true, and_true]; omega) | (simp [List.mem_cons]; done)))) (hNK 125 (by (first | decide | (simp only [List.mem_cons, List.not_mem_nil, or_false, not_or, not_false_eq_true, and_true]; omega) | (simp [List.mem_cons]; done)))) (hNK 130 (by (first | decide | (simp only [List.mem_cons, List.not_mem_nil, or_false, not_or, not_false_eq_true, and_true]; omega) | (simp [List.mem_cons]; done))))
                have k118 : K 118 = M 118 := hMK 118 (by (first | decide | (simp only [List.mem_cons, List.not_mem_nil, or_false, not_or, not_false_eq_true, and_true]; omega) | (simp [List.mem_cons]; done)))
                have hrowK : ∀ (s' x : Nat), rowM N h m.sd m.cold pe s' x → rowM K h m.sd m.cold pe s' x := fun s' x hr => rowM_ne hr (hNK.at 126 _ (by (first | decide | (simp only [List.mem_cons, List.not_mem_nil, or_false, not_or, not_false_eq_true, and_true]; omega) | (simp [List.mem_cons]; done)))) (hNK.at 129 _ (by (first | decide | (simp only [List.mem_cons, List.not_mem_nil, or_false, not_or, not_false_eq_true, and_true]; omega) | (simp [List.mem_cons]; done))))
                have hfK : ∀ y : Int, y ≠ 27 → K 117 y = M 117 y := fun y hy => by rw [hNK.at 117 _ (by (first | decide | (simp only [List.mem_cons, List.not_mem_nil, or_false, not_or, not_false_eq_true, and_true]; omega) | (simp [List.mem_cons]; done)))]; exact hf y hy
                refine AW.run ck_Md_laysStands [163] 10 118 ?_
                simp only [wR, wB, wE0, wE1, wE2, wE3, g0, gS, s10, s11, s1S, s20, s21, s2S, kl0, kl1, kl2, kl3, sp0, sp1, sp2, sp3, cn1, cn2, cn3, cn4, cn5, cn6, jJa, lk0, lk1, jmS, jmN, s4_0, s4_1, s4_2, s4_3, s4_4, sw0, sw1, cKs, cKn, true_and, and_true, List.map_cons, List.map_nil, Nat.reduceAdd, Nat.zero_add, Int.reduceAdd, Nat.reduceEqDiff, reduceIte, Classical.not_not, b_Md_laysStands, shMd]
                by_cases q : okP h.P pe sk set = true
                · rw [if_pos q] at hv
                  have hvl : nxt h m.sd m.cold sk set < 3125 := nxt_lt hok
                  simp only [if_pos q, Int.reduceEq, not_false_eq_true, not_true_eq_false, true_imp_iff, false_imp_iff, true_and, and_true]
                  (repeat' (first | omega | exact ⟨by omega, by omega⟩ | (with_reducible exact Or.inr trivial) | (with_reducible exact Or.inl trivial) | (with_reducible assumption) | (with_reducible exact Same.refl) | (with_reducible rfl) | (with_reducible refine And.intro ?_ ?_) | (with_reducible intro _)))
                  have u118 : up K 126 (32 * (sk : Int) + set) v 118 = M 118 := by rw [← k118]; funext y; exact up_ne1 (by omega)
                  refine (c_Md_standing (d := d - 1) (h := h) (sd := m.sd) (cold := m.cold) (by omega) hok (by rw [u118]; exact hH) (by rw [u118]; exact hsd) (by omega) (by rw [u118]; exact hcold) mok.2).mono ?_
                  rintro r' M1 okM1 ⟨rfl, w1⟩
                  have hst3 := stood_le (h := h) (sd := m.sd) (cold := m.cold) (s := sk) (set := set)
                  have ew8 : w8 (stood h m.sd m.cold sk set : Int) = (stood h m.sd m.cold sk set : Int) := by
                    rw [w8_c ⟨by omega, by omega⟩, if_pos (by omega)]
                  have e126 : M1 126 (32 * (sk : Int) + set) = v := by rw [w1.at 126 _ (by (first | decide | (simp only [List.mem_cons, List.not_mem_nil, or_false, not_or, not_false_eq_true, and_true]; omega) | (simp [List.mem_cons]; done))), up_eq]
                  simp only [wR, wB, wE0, wE1, wE2, wE3, g0, gS, s10, s11, s1S, s20, s21, s2S, kl0, kl1, kl2, kl3, sp0, sp1, sp2, sp3, cn1, cn2, cn3, cn4, cn5, cn6, jJa, lk0, lk1, jmS, jmN, s4_0, s4_1, s4_2, s4_3, s4_4, sw0, sw1, cKs, cKn, true_and, and_true, List.map_cons, List.map_nil, Nat.reduceAdd, Nat.zero_add, Int.reduceAdd, Nat.reduceEqDiff, reduceIte, Classical.not_not, b_Md_laysStands, shMd, ew8, up_rd, Int.reduceEq, and_false, false_and, and_self, reduceIte, not_true_eq_false, not_false_eq_true, false_imp_iff, true_imp_iff, true_or, or_true, e126]
                  (repeat' (first | omega | exact ⟨by omega, by omega⟩ | (with_reducible exact Or.inr trivial) | (with_reducible exact Or.inl trivial) | (with_reducible assumption) | (with_reducible exact Same.refl) | (with_reducible rfl) | (with_reducible refine And.intro ?_ ?_) | (with_reducible intro _)))
                  rw [hv]
                  have hM1l : stL (up M1 129 (32 * (sk : Int) + set) (stood h m.sd m.cold sk set)) l' := hlK.eq (by rw [up_ne1 (by omega), w1.at 117 _ (by (first | decide | (simp only [List.mem_cons, List.not_mem_nil, or_false, not_or, not_false_eq_true, and_true]; omega) | (simp [List.mem_cons]; done))), up_ne1 (by omega)]) (by funext y; rw [up_ne1 (by omega), w1.at 125 _ (by (first | decide | (simp only [List.mem_cons, List.not_mem_nil, or_false, not_or, not_false_eq_true, and_true]; omega) | (simp [List.mem_cons]; done))), up_ne1 (by omega)]) (by funext y; rw [up_ne1 (by omega), w1.at 130 _ (by (first | decide | (simp only [List.mem_cons, List.not_mem_nil, or_false, not_or, not_false_eq_true, and_true]; omega) | (simp [List.mem_cons]; done))), up_ne1 (by omega)])
                  have x126 : ∀ y : Int, y ≠ 32 * (sk : Int) + set → up M1 129 (32 * (sk : Int) + set) (stood h m.sd m.cold sk set) 126 y = K 126 y := fun y hy => by rw [up_ne1 (by omega), w1.at 126 _ (by (first | decide | (simp only [List.mem_cons, List.not_mem_nil, or_false, not_or, not_false_eq_true, and_true]; omega) | (simp [List.mem_cons]; done))), up_ne2 hy]
                  have x126' : up M1 129 (32 * (sk : Int) + set) (stood h m.sd m.cold sk set) 126 (32 * (sk : Int) + set) = v := by rw [up_ne1 (by omega)]; exact e126
                  have x129 : ∀ y : Int, y ≠ 32 * (sk : Int) + set → up M1 129 (32 * (sk : Int) + set) (stood h m.sd m.cold sk set) 129 y = K 129 y := fun y hy => by rw [up_ne2 hy, w1.at 129 _ (by (first | decide | (simp only [List.mem_cons, List.not_mem_nil, or_false, not_or, not_false_eq_true, and_true]; omega) | (simp [List.mem_cons]; done))), up_ne1 (by omega)]
                  have x129' : up M1 129 (32 * (sk : Int) + set) (stood h m.sd m.cold sk set) 129 (32 * (sk : Int) + set) = stood h m.sd m.cold sk set := by rw [up_eq]
                  have xs : Same [117, 122, 123, 125, 126, 129, 130] M (up M1 129 (32 * (sk : Int) + set) (stood h m.sd m.cold sk set)) := ((hMK.up (by simp)).trans (w1.mono (by simp))).up (by simp)
                  have xf : ∀ y : Int, y ≠ 27 → up M1 129 (32 * (sk : Int) + set) (stood h m.sd m.cold sk set) 117 y = M 117 y := fun y hy => by rw [up_ne1 (by omega), w1.at 117 _ (by (first | decide | (simp only [List.mem_cons, List.not_mem_nil, or_false, not_or, not_false_eq_true, and_true]; omega) | (simp [List.mem_cons]; done))), up_ne1 (by omega)]; exact hfK y hy
                  generalize up M1 129 (32 * (sk : Int) + set) (stood h m.sd m.cold sk set) = K2 at hM1l x126 x126' x129 x129' xs xf ⊢
                  refine (c_Md_adds hM1l hvl).mono ?_
                  rintro r' M2 okM2 ⟨rfl, a1, a2, a3⟩
                  have hp := addL_pre (l := l') (s := nxt h m.sd m.cold sk set)
                  have hrow2 : ∀ (s' x : Nat), (s' ≠ sk ∨ x ≠ set) → s' < 3125 → x < 32 → rowM N h m.sd m.cold pe s' x → rowM M2 h m.sd m.cold pe s' x := fun s' x hne' h1 h2 hr => rowM_ne (hrowK s' x hr) (by rw [a2.at 126 _ (by (first | decide | (simp only [List.mem_cons, List.not_mem_nil, or_false, not_or, not_false_eq_true, and_true]; omega) | (simp [List.mem_cons]; done))), x126 _ (by omega)]) (by rw [a2.at 129 _ (by (first | decide | (simp only [List.mem_cons, List.not_mem_nil, or_false, not_or, not_false_eq_true, and_true]; omega) | (simp [List.mem_cons]; done))), x129 _ (by omega)])
                  simp only [wR, wB, wE0, wE1, wE2, wE3, g0, gS, s10, s11, s1S, s20, s21, s2S, kl0, kl1, kl2, kl3, sp0, sp1, sp2, sp3, cn1, cn2, cn3, cn4, cn5, cn6, jJa, lk0, lk1, jmS, jmN, s4_0, s4_1, s4_2, s4_3, s4_4, sw0, sw1, cKs, cKn, true_and, and_true, List.map_cons, List.map_nil, Nat.reduceAdd, Nat.zero_add, Int.reduceAdd, Nat.reduceEqDiff, reduceIte, Classical.not_not, b_Md_laysStands]
                  refine a163 M2 _ _ a1 (by have := hp.1; omega) (by rw [hp.2 k hk']; exact hsk') (by rw [hp.2 0 (by omega)]; exact h0) (fun s hs' => ?_) (fun j hj x hx => ?_) (fun x hx => ?_) (xs.trans (a2.mono (by simp))) (fun y hy => by rw [a3 y hy]; exact xf y hy)
                  · rcases addL_mem.mp hs' with a | a
                    · exact hrc s a
                    · rw [a]; exact (hrc sk hskm).step (by omega) q
                  · rw [hp.2 j (by omega)]
                    obtain ⟨r1, r2⟩ := hrows j hj x hx
                    exact ⟨hrow2 _ x (Or.inl (hne j hj)) (hl.2.2.2.2 _ (getD_mem (by omega))) hx r1, fun h' => addL_mem.mpr (Or.inl (r2 h'))⟩
                  · by_cases e : x = set
                    · subst e
                      refine ⟨⟨?_, fun _ => ?_⟩, fun _ => addL_mem.mpr (Or.inr rfl)⟩
                      · rw [if_pos q, a2.at 126 _ (by (first | decide | (simp only [List.mem_cons, List.not_mem_nil, or_false, not_or, not_false_eq_true, and_true]; omega) | (simp [List.mem_cons]; done))), x126']; exact hv
                      · rw [a2.at 129 _ (by (first | decide | (simp only [List.mem_cons, List.not_mem_nil, or_false, not_or, not_false_eq_true, and_true]; omega) | (simp [List.mem_cons]; done))), x129']
                    · obtain ⟨r1, r2⟩ := hpart x (by omega)
                      exact ⟨hrow2 sk x (Or.inr e) hsk (by omega) r1, fun h' => addL_mem.mpr (Or.inl (r2 h'))⟩
                · rw [if_neg q] at hv
                  simp only [if_neg q, Int.reduceEq, not_false_eq_true, not_true_eq_false, true_imp_iff, false_imp_iff, true_and, and_true]
                  refine ⟨⟨by omega, by omega⟩, ?_⟩
                  have hrow2 : ∀ (s' x : Nat), (s' ≠ sk ∨ x ≠ set) → s' < 3125 → x < 32 → rowM N h m.sd m.cold pe s' x → rowM (up K 126 (32 * (sk : Int) + set) v) h m.sd m.cold pe s' x := fun s' x hne' h1 h2 hr => rowM_ne (hrowK s' x hr) (by rw [up_ne2 (by omega)]) (by rw [up_ne1 (by omega)])
                  have := a163 (up K 126 (32 * (sk : Int) + set) v) l' (some (vi 0)) (hlK.eq (up_ne1 (by omega)) (by funext y; exact up_ne1 (by omega)) (by funext y; exact up_ne1 (by omega))) hk' hsk' h0 hrc (fun j hj x hx => ⟨hrow2 _ x (Or.inl (hne j hj)) (hl.2.2.2.2 _ (getD_mem (by omega))) hx (hrows j hj x hx).1, (hrows j hj x hx).2⟩) (fun x hx => ?_) (hMK.up (by simp)) (fun y hy => by rw [up_ne1 (by omega)]; exact hfK y hy)
                  · exact this
                  · by_cases e : x = set
                    · subst e
                      refine ⟨⟨?_, fun h' => absurd h' q⟩, fun h' => absurd h' q⟩
                      rw [up_eq, if_neg q]; exact hv
                    · obtain ⟨r1, r2⟩ := hpart x (by omega)
                      exact ⟨hrow2 sk x (Or.inr e) hsk (by omega) r1, r2⟩
              have a82 : AW G d mi_Md_laysStands Q 82 [some (vr 117), some (vi pe), some (vi k), some (vi sk), some (vi set), l5] [vi (if okP h.P pe sk set = true then 1 else 0)] N := by
                refine AW.run ck_Md_laysStands [118] 10 82 ?_
                have n29 : N 118 29 = m.cold := by rw [n118]; exact hcold
                simp only [wR, wB, wE0, wE1, wE2, wE3, g0, gS, s10, s11, s1S, s20, s21, s2S, kl0, kl1, kl2, kl3, sp0, sp1, sp2, sp3, cn1, cn2, cn3, cn4, cn5, cn6, jJa, lk0, lk1, jmS, jmN, s4_0, s4_1, s4_2, s4_3, s4_4, sw0, sw1, cKs, cKn, true_and, and_true, List.map_cons, List.map_nil, Nat.reduceAdd, Nat.zero_add, Int.reduceAdd, Nat.reduceEqDiff, reduceIte, Classical.not_not, b_Md_laysStands, shMd, n29]
                by_cases q : okP h.P pe sk set = true
                · have a118' := a118
                  simp only [if_pos q] at a118'
                  simp only [if_pos q, Int.reduceEq, not_false_eq_true, not_true_eq_false, true_imp_iff, false_imp_iff, true_and, and_true]
                  (repeat' (first | omega | exact ⟨by omega, by omega⟩ | (with_reducible exact Or.inr trivial) | (with_reducible exact Or.inl trivial) | (with_reducible assumption) | (with_reducible exact Same.refl) | (with_reducible rfl) | (with_reducible refine And.intro ?_ ?_) | (with_reducible intro _)))
                  refine (c_Md_hourTo (d := d - 1) (sd := m.sd) (by omega) hok (by rw [n118]; exact hH) (by rw [n118]; exact hsd) (by omega) (by omega) mok.2).mono ?_
                  rintro r' M1 okM1 ⟨rfl, w1⟩
                  have hvl : nxt h m.sd m.cold sk set < 3125 := nxt_lt hok
                  simp only [wR, wB, wE0, wE1, wE2, wE3, g0, gS, s10, s11, s1S, s20, s21, s2S, kl0, kl1, kl2, kl3, sp0, sp1, sp2, sp3, cn1, cn2, cn3, cn4, cn5, cn6, jJa, lk0, lk1, jmS, jmN, s4_0, s4_1, s4_2, s4_3, s4_4, sw0, sw1, cKs, cKn, true_and, and_true, List.map_cons, List.map_nil, Nat.reduceAdd, Nat.zero_add, Int.reduceAdd, Nat.reduceEqDiff, reduceIte, Classical.not_not, b_Md_laysStands]
                  exact a118' M1 _ ⟨by omega, by omega⟩ rfl w1
                · have a118' := a118
                  simp only [if_neg q] at a118'
                  simp only [if_neg q, Int.reduceEq, not_false_eq_true, not_true_eq_false, true_imp_iff, false_imp_iff, true_and, and_true]
                  (repeat' (first | omega | exact ⟨by omega, by omega⟩ | (with_reducible exact Or.inr trivial) | (with_reducible exact Or.inl trivial) | (with_reducible assumption) | (with_reducible exact Same.refl) | (with_reducible rfl) | (with_reducible refine And.intro ?_ ?_) | (with_reducible intro _)))
                  exact a118' N (-1) ⟨by omega, by omega⟩ rfl Same.refl
              have hab : ablS h.P sk < 32 := bitsP32 hP
              have hand : ablS h.P sk &&& pe < 32 := Nat.lt_of_le_of_lt Nat.and_le_left hab
              refine AW.run ck_Md_laysStands [82, 169] 10 55 ?_
              simp only [wR, wB, wE0, wE1, wE2, wE3, g0, gS, s10, s11, s1S, s20, s21, s2S, kl0, kl1, kl2, kl3, sp0, sp1, sp2, sp3, cn1, cn2, cn3, cn4, cn5, cn6, jJa, lk0, lk1, jmS, jmN, s4_0, s4_1, s4_2, s4_3, s4_4, sw0, sw1, cKs, cKn, true_and, and_true, List.map_cons, List.map_nil, Nat.reduceAdd, Nat.zero_add, Int.reduceAdd, Nat.reduceEqDiff, reduceIte, Classical.not_not, b_Md_laysStands, shMd]
              (repeat' (first | omega | exact ⟨by omega, by omega⟩ | (with_reducible exact Or.inr trivial) | (with_reducible exact Or.inl trivial) | (with_reducible assumption) | (with_reducible exact Same.refl) | (with_reducible rfl) | (with_reducible refine And.intro ?_ ?_) | (with_reducible intro _)))
              refine MS.to (c_Md_ableIn (d := d - 1) (s := sk) (by omega) (by rw [n118]; exact hH.2.1) hP) fun _ => ?_
              rw [show bitsP (fun p => decide (0 < dig sk p)) h.P = ablS h.P sk from rfl]
              simp only [wR, wB, wE0, wE1, wE2, wE3, g0, gS, s10, s11, s1S, s20, s21, s2S, kl0, kl1, kl2, kl3, sp0, sp1, sp2, sp3, cn1, cn2, cn3, cn4, cn5, cn6, jJa, lk0, lk1, jmS, jmN, s4_0, s4_1, s4_2, s4_3, s4_4, sw0, sw1, cKs, cKn, true_and, and_true, List.map_cons, List.map_nil, Nat.reduceAdd, Nat.zero_add, Int.reduceAdd, Nat.reduceEqDiff, reduceIte, Classical.not_not, b_Md_laysStands, bAnd_n (show ablS h.P sk < 2 ^ 31 by omega), bAndN_n (show set < 32 by omega) hand]
              by_cases q : okP h.P pe sk set = true
              · have q' := q
                unfold okP at q'
                rw [decide_eq_true_eq] at q'
                rw [if_pos q] at a82
                (repeat' (first | omega | exact ⟨by omega, by omega⟩ | (with_reducible exact Or.inr trivial) | (with_reducible exact Or.inl trivial) | (with_reducible assumption) | (with_reducible exact Same.refl) | (with_reducible rfl) | (with_reducible refine And.intro ?_ ?_) | (with_reducible intro _)))
              · have q' := q
                unfold okP at q'
                rw [decide_eq_true_eq] at q'
                rw [if_neg q] at a82
                (repeat' (first | omega | exact ⟨by omega, by omega⟩ | (with_reducible exact Or.inr trivial) | (with_reducible exact Or.inl trivial) | (with_reducible assumption) | (with_reducible exact Same.refl) | (with_reducible rfl) | (with_reducible refine And.intro ?_ ?_) | (with_reducible intro _)))
          exact l55 32 0 N l _ (by omega) hl hkl' rfl h0 hrc hrows (fun x hx => absurd hx (by omega)) hs hf
  have a22 : ∀ (N : AM) (l2 : Option AV), Same [117, 122, 123, 125, 126, 129, 130] M N → (∀ y : Int, y ≠ 27 → N 117 y = M 117 y) → (∀ s : Nat, s < 3125 → N 130 s = 0) → AW G d mi_Md_laysStands Q 22 [some (vr 117), some (vi pe), l2, none, none, none] [] N := by
    intro N l2 hs hf hz
    have n118 : N 118 = M 118 := hs 118 (by (first | decide | (simp only [List.mem_cons, List.not_mem_nil, or_false, not_or, not_false_eq_true, and_true]; omega) | (simp [List.mem_cons]; done)))
    refine AW.run ck_Md_laysStands [37] 10 22 ?_
    simp only [wR, wB, wE0, wE1, wE2, wE3, g0, gS, s10, s11, s1S, s20, s21, s2S, kl0, kl1, kl2, kl3, sp0, sp1, sp2, sp3, cn1, cn2, cn3, cn4, cn5, cn6, jJa, lk0, lk1, jmS, jmN, s4_0, s4_1, s4_2, s4_3, s4_4, sw0, sw1, cKs, cKn, true_and, and_true, List.map_cons, List.map_nil, Nat.reduceAdd, Nat.zero_add, Int.reduceAdd, Nat.reduceEqDiff, reduceIte, Classical.not_not, b_Md_laysStands, shMd]
    have u118 : up N 117 27 0 118 = M 118 := by rw [← n118]; funext y; exact up_ne1 (by omega)
    refine ⟨by omega, MS.to (c_Md_standNow (by rw [u118]; exact hH.2.1) hP (by rw [u118]; exact hst)) fun _ => ?_⟩
    rw [hs0']
    simp only [wR, wB, wE0, wE1, wE2, wE3, g0, gS, s10, s11, s1S, s20, s21, s2S, kl0, kl1, kl2, kl3, sp0, sp1, sp2, sp3, cn1, cn2, cn3, cn4, cn5, cn6, jJa, lk0, lk1, jmS, jmN, s4_0, s4_1, s4_2, s4_3, s4_4, sw0, sw1, cKs, cKn, true_and, and_true, List.map_cons, List.map_nil, Nat.reduceAdd, Nat.zero_add, Int.reduceAdd, Nat.reduceEqDiff, reduceIte, Classical.not_not, b_Md_laysStands, shMd]
    refine ⟨by omega, (c_Md_adds (l := []) ⟨by rw [up_eq]; rfl, fun j hj => absurd hj (by simp), fun s hs' => by rw [up_ne1 (by omega)]; simp; exact hz s hs', List.nodup_nil, fun s hs' => by simp at hs'⟩ hs0).mono ?_⟩
    rintro r' M2 okM2 ⟨rfl, a1, a2, a3⟩
    have e : addL [] s0 = [s0] := by unfold addL; simp
    rw [e] at a1
    simp only [wR, wB, wE0, wE1, wE2, wE3, g0, gS, s10, s11, s1S, s20, s21, s2S, kl0, kl1, kl2, kl3, sp0, sp1, sp2, sp3, cn1, cn2, cn3, cn4, cn5, cn6, jJa, lk0, lk1, jmS, jmN, s4_0, s4_1, s4_2, s4_3, s4_4, sw0, sw1, cKs, cKn, true_and, and_true, List.map_cons, List.map_nil, Nat.reduceAdd, Nat.zero_add, Int.reduceAdd, Nat.reduceEqDiff, reduceIte, Classical.not_not, b_Md_laysStands]
    exact l37 3126 0 M2 [s0] _ _ _ (by omega) (by simp) a1 rfl (by simp) (fun s hs' => by simp at hs'; rw [hs']; exact Rc.refl) (fun j hj => absurd hj (by omega)) ((hs.up (by simp)).trans (a2.mono (by simp))) (fun y hy => by rw [a3 y hy, up_ne2 hy]; exact hf y hy)
  have l2 : ∀ (r s : Nat) (N : AM), s + r = 3125 → Same [117, 122, 123, 125, 126, 129, 130] M N → (∀ y : Int, y ≠ 27 → N 117 y = M 117 y) → (∀ x : Nat, x < s → N 130 x = 0) → AW G d mi_Md_laysStands Q 2 [some (vr 117), some (vi pe), some (vi s), none, none, none] [] N := by
    intro r
    induction r with
    | zero =>
      intro s N hs' hs hf hz
      refine AW.run ck_Md_laysStands [22] 10 2 ?_
      simp only [wR, wB, wE0, wE1, wE2, wE3, g0, gS, s10, s11, s1S, s20, s21, s2S, kl0, kl1, kl2, kl3, sp0, sp1, sp2, sp3, cn1, cn2, cn3, cn4, cn5, cn6, jJa, lk0, lk1, jmS, jmN, s4_0, s4_1, s4_2, s4_3, s4_4, sw0, sw1, cKs, cKn, true_and, and_true, List.map_cons, List.map_nil, Nat.reduceAdd, Nat.zero_add, Int.reduceAdd, Nat.reduceEqDiff, reduceIte, Classical.not_not, b_Md_laysStands, shMd]
      (repeat' (first | omega | exact ⟨by omega, by omega⟩ | (with_reducible exact Or.inr trivial) | (with_reducible exact Or.inl trivial) | (with_reducible assumption) | (with_reducible exact Same.refl) | (with_reducible rfl) | (with_reducible refine And.intro ?_ ?_) | (with_reducible intro _)))
      exact a22 N _ hs hf (fun x hx => hz x (by omega))
    | succ r ih =>
      intro s N hs' hs hf hz
      refine AW.run ck_Md_laysStands [2, 22] 10 2 ?_
      simp only [wR, wB, wE0, wE1, wE2, wE3, g0, gS, s10, s11, s1S, s20, s21, s2S, kl0, kl1, kl2, kl3, sp0, sp1, sp2, sp3, cn1, cn2, cn3, cn4, cn5, cn6, jJa, lk0, lk1, jmS, jmN, s4_0, s4_1, s4_2, s4_3, s4_4, sw0, sw1, cKs, cKn, true_and, and_true, List.map_cons, List.map_nil, Nat.reduceAdd, Nat.zero_add, Int.reduceAdd, Nat.reduceEqDiff, reduceIte, Classical.not_not, b_Md_laysStands, shMd, ce]
      (repeat' (first | omega | exact ⟨by omega, by omega⟩ | (with_reducible exact Or.inr trivial) | (with_reducible exact Or.inl trivial) | (with_reducible assumption) | (with_reducible exact Same.refl) | (with_reducible rfl) | (with_reducible refine And.intro ?_ ?_) | (with_reducible intro _)))
      refine ih (s + 1) _ (by omega) (hs.up (by simp)) (fun y hy => by rw [up_ne1 (by omega)]; exact hf y hy) (fun x hx => ?_)
      by_cases e : x = s
      · subst e; rw [up_eq]
      · rw [up_ne2 (by omega)]; exact hz x (by omega)
  refine AW.run ck_Md_laysStands [2] 10 0 ?_
  simp only [wR, wB, wE0, wE1, wE2, wE3, g0, gS, s10, s11, s1S, s20, s21, s2S, kl0, kl1, kl2, kl3, sp0, sp1, sp2, sp3, cn1, cn2, cn3, cn4, cn5, cn6, jJa, lk0, lk1, jmS, jmN, s4_0, s4_1, s4_2, s4_3, s4_4, sw0, sw1, cKs, cKn, true_and, and_true, List.map_cons, List.map_nil, Nat.reduceAdd, Nat.zero_add, Int.reduceAdd, Nat.reduceEqDiff, reduceIte, Classical.not_not, b_Md_laysStands]
  exact l2 3125 0 M (by omega) Same.refl (fun _ _ => rfl) (fun x hx => absurd hx (by omega))
end GR
