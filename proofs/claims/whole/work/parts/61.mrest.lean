/-! how near all are to rest: the model -/
theorem map_nodup {c : Nat → Nat} {n : Nat} (h : ∀ i j, i < n → j < n → c i = c j → i = j) : ((List.range n).map c).Nodup := by
  rw [List.Nodup, List.pairwise_map]
  refine List.Pairwise.imp_of_mem ?_ List.nodup_range
  intro a b ha hb hne e
  exact hne (h a b (List.mem_range.mp ha) (List.mem_range.mp hb) e)
theorem Ds_bound {ok : Nat → Nat → Bool} {nx : Nat → Nat → Nat} {goal : Nat → Bool} {l : List Nat} (hc : ∀ t set, t ∈ l → set < 32 → ok t set = true → nx t set ∈ l) {s D : Nat} (hs : s ∈ l) (h : Ds ok nx goal s D) : D < l.length := by
  obtain ⟨c, t, hch⟩ := Chn_of ok nx goal D s h
  have hm : ∀ k, k ≤ D → c k ∈ l := by
    intro k
    induction k with
    | zero => intro _; rw [hch.1]; exact hs
    | succ k ih =>
      intro hk
      obtain ⟨a1, a2, a3, _⟩ := hch.2 k (by omega)
      rw [← a3]
      exact hc _ _ (ih (by omega)) a1 a2
  have := len_sub ((List.range (D + 1)).map c) l (map_nodup (fun i j hi hj e => by
    have d1 := Chn_ds ok nx goal hch h i (by omega)
    have d2 := Chn_ds ok nx goal hch h j (by omega)
    rw [e] at d1
    have := Ds_un ok nx goal d1 d2
    omega)) (fun x hx => by
    obtain ⟨k, hk, rfl⟩ := List.mem_map.mp hx
    exact hm k (by have := List.mem_range.mp hk; omega))
  rw [List.length_map, List.length_range] at this
  omega
/-- the sum over a list falls where one number falls -/
def sumL (f : Nat → Nat) (l : List Nat) : Nat := (l.map f).sum
theorem sumL_upd {f : Nat → Nat} {s v : Nat} : ∀ {l : List Nat}, l.Nodup → sumL (fun x => if x = s then v else f x) l + (if s ∈ l then f s else 0) = sumL f l + (if s ∈ l then v else 0)
  | [], _ => by simp [sumL]
  | x :: l, h => by
    have hn := List.nodup_cons.mp h
    have ih := sumL_upd (f := f) (s := s) (v := v) hn.2
    have e1 : sumL (fun x => if x = s then v else f x) (x :: l) = (if x = s then v else f x) + sumL (fun x => if x = s then v else f x) l := by simp [sumL]
    have e2 : sumL f (x :: l) = f x + sumL f l := by simp [sumL]
    rw [e1, e2]
    by_cases q : x = s
    · subst q
      rw [if_neg hn.1, if_neg hn.1] at ih
      rw [if_pos rfl, if_pos List.mem_cons_self, if_pos List.mem_cons_self]
      omega
    · rw [if_neg q]
      by_cases m : s ∈ l
      · rw [if_pos m, if_pos m] at ih
        rw [if_pos (List.mem_cons_of_mem _ m), if_pos (List.mem_cons_of_mem _ m)]
        omega
      · rw [if_neg m, if_neg m] at ih
        have m2 : ¬ s ∈ x :: l := fun h => (List.mem_cons.mp h).elim (fun e => q e.symm) m
        rw [if_neg m2, if_neg m2]
        omega
/-- in how many hours by a set, as it is laid -/
def rby (ok : Nat → Nat → Bool) (nx : Nat → Nat → Nat) (f : Nat → Nat) (s set : Nat) : Nat := if ok s set = true then (if f (nx s set) = 268435456 then 268435456 else f (nx s set) + 1) else 268435456
/-- the row far of the model -/
def farM (M : AM) (l : List Nat) (f : Nat → Nat) : Prop := ∀ s, s ∈ l → M 127 s = f s ∧ f s ≤ 268435456
def RI (ok : Nat → Nat → Bool) (nx : Nat → Nat → Nat) (goal : Nat → Bool) (l : List Nat) (f : Nat → Nat) : Prop := ∀ s, s ∈ l → (f s < 268435456 → gK ok nx goal (f s) s) ∧ (goal s = true → f s = 0)
def Stb (ok : Nat → Nat → Bool) (nx : Nat → Nat → Nat) (f : Nat → Nat) (s : Nat) : Prop := f s = 0 ∨ ∀ set, set < 32 → f s ≤ rby ok nx f s set
def DsF (ok : Nat → Nat → Bool) (nx : Nat → Nat → Nat) (goal : Nat → Bool) (l : List Nat) (f : Nat → Nat) : Prop := ∀ s, s ∈ l → (f s < 3125 ∧ Ds ok nx goal s (f s)) ∨ (f s = 268435456 ∧ ∀ k, ¬ gK ok nx goal k s)
theorem RI.done {ok : Nat → Nat → Bool} {nx : Nat → Nat → Nat} {goal : Nat → Bool} {l : List Nat} {f : Nat → Nat} (hc : ∀ t set, t ∈ l → set < 32 → ok t set = true → nx t set ∈ l) (hl : l.length ≤ 3125) (hF : ∀ s, s ∈ l → f s ≤ 268435456) (h : RI ok nx goal l f) (hS : ∀ s, s ∈ l → Stb ok nx f s) : DsF ok nx goal l f := by
  have h1 : ∀ k s, s ∈ l → gK ok nx goal k s → f s ≤ k := by
    intro k
    induction k with
    | zero =>
      intro s hs hg
      have := (h s hs).2 hg
      omega
    | succ k ih =>
      intro s hs hg
      obtain ⟨set, a1, a2, a3⟩ := hg
      have ht := hc s set hs a1 a2
      have hft := ih _ ht a3
      have hFs := hF s hs
      rcases hS s hs with q | q
      · omega
      · have := q set a1
        unfold rby at this
        rw [if_pos a2] at this
        split at this <;> omega
  have h2 : ∀ s, s ∈ l → f s < 268435456 → f s < 3125 ∧ Ds ok nx goal s (f s) := by
    intro s hs hf
    have hd : Ds ok nx goal s (f s) := ⟨(h s hs).1 hf, fun j hj hg => by have := h1 j s hs hg; omega⟩
    have := Ds_bound hc hs hd
    exact ⟨by omega, hd⟩
  have h3 : ∀ k s, s ∈ l → f s = 268435456 → ¬ gK ok nx goal k s := by
    intro k
    induction k with
    | zero =>
      intro s hs hf hg
      have := (h s hs).2 hg
      omega
    | succ k ih =>
      intro s hs hf hg
      obtain ⟨set, a1, a2, a3⟩ := hg
      have ht := hc s set hs a1 a2
      rcases Nat.lt_or_ge (f (nx s set)) 268435456 with q | q
      · have hb := (h2 _ ht q).1
        rcases hS s hs with q2 | q2
        · omega
        · have := q2 set a1
          unfold rby at this
          rw [if_pos a2, if_neg (by omega)] at this
          omega
      · have := hF _ ht
        exact ih _ ht (by omega) a3
  intro s hs
  rcases Nat.lt_or_ge (f s) 268435456 with q | q
  · exact Or.inl (h2 s hs q)
  · have := hF s hs
    exact Or.inr ⟨by omega, fun k => h3 k s hs (by omega)⟩
theorem RI.upd {ok : Nat → Nat → Bool} {nx : Nat → Nat → Nat} {goal : Nat → Bool} {l : List Nat} {f : Nat → Nat} (hc : ∀ t set, t ∈ l → set < 32 → ok t set = true → nx t set ∈ l) (h : RI ok nx goal l f) (hF : ∀ s, s ∈ l → f s ≤ 268435456) {s set : Nat} (hs : s ∈ l) (hset : set < 32) (hlt : rby ok nx f s set < f s) : RI ok nx goal l (fun x => if x = s then rby ok nx f s set else f x) := by
  intro x hx
  by_cases q : x = s
  · subst q
    simp only [if_true]
    have hle := hF x hx
    unfold rby at hlt ⊢
    by_cases q1 : ok x set = true
    · rw [if_pos q1] at hlt ⊢
      by_cases q2 : f (nx x set) = 268435456
      · rw [if_pos q2] at hlt; omega
      · rw [if_neg q2] at hlt ⊢
        have ht := hc x set hx hset q1
        refine ⟨fun _ => ⟨set, hset, q1, (h _ ht).1 (by have := hF _ ht; omega)⟩, fun hg => ?_⟩
        have := (h x hx).2 hg
        omega
    · rw [if_neg q1] at hlt; omega
  · simp only [if_neg q]
    exact h x hx
section MP2
variable {G : AG} {d : Nat} {M : AM}
theorem c_Md_areRested {s n P : Nat} (hd : 3 ≤ d) (h1 : M 118 1 = P) (hP : P ≤ 5) : MS G d mi_Md_areRested [vr 117, vi s, vi n] M (fun r M' => r = some (vi (if aHave P n s = true then 1 else 0)) ∧ M' = M) := by
  refine MS.by ck_Md_areRested [some (vr 117), some (vi s), some (vi n), none] fun _ _ => ?_
  generalize hQ : (fun (r : Option AV) (M' : AM) => r = some (vi (if aHave P n s = true then 1 else 0)) ∧ M' = M) = Q
  have loop : ∀ (r p : Nat), p + r = P → (∀ j, j < p → n ≤ dig s j) → AW G d mi_Md_areRested Q 2 [some (vr 117), some (vi s), some (vi n), some (vi p)] [] M := by
    intro r
    induction r with
    | zero =>
      intro p hp hall
      refine AW.run ck_Md_areRested [23] 10 2 ?_
      simp only [wR, wB, wE0, wE1, wE2, wE3, g0, gS, s10, s11, s1S, s20, s21, s2S, kl0, kl1, kl2, kl3, sp0, sp1, sp2, sp3, cn1, cn2, cn3, cn4, cn5, cn6, jJa, lk0, lk1, jmS, jmN, s4_0, s4_1, s4_2, s4_3, s4_4, sw0, sw1, cKs, cKn, true_and, and_true, List.map_cons, List.map_nil, Nat.reduceAdd, Nat.zero_add, Int.reduceAdd, Nat.reduceEqDiff, reduceIte, Classical.not_not, b_Md_areRested, shMd, h1]
      subst hQ
      rw [if_pos (by unfold aHave; rw [decide_eq_true_eq]; intro j hj; exact hall j (by omega))]
      (repeat' (first | omega | exact ⟨by omega, by omega⟩ | (with_reducible exact Or.inr trivial) | (with_reducible exact Or.inl trivial) | (with_reducible assumption) | (with_reducible exact Same.refl) | (with_reducible rfl) | (with_reducible refine And.intro ?_ ?_) | (with_reducible intro _)))
    | succ r ih =>
      intro p hp hall
      refine AW.run ck_Md_areRested [23] 10 2 ?_
      simp only [wR, wB, wE0, wE1, wE2, wE3, g0, gS, s10, s11, s1S, s20, s21, s2S, kl0, kl1, kl2, kl3, sp0, sp1, sp2, sp3, cn1, cn2, cn3, cn4, cn5, cn6, jJa, lk0, lk1, jmS, jmN, s4_0, s4_1, s4_2, s4_3, s4_4, sw0, sw1, cKs, cKn, true_and, and_true, List.map_cons, List.map_nil, Nat.reduceAdd, Nat.zero_add, Int.reduceAdd, Nat.reduceEqDiff, reduceIte, Classical.not_not, b_Md_areRested, shMd, h1]
      (repeat' (first | omega | exact ⟨by omega, by omega⟩ | (with_reducible exact Or.inr trivial) | (with_reducible exact Or.inl trivial) | (with_reducible assumption) | (with_reducible exact Same.refl) | (with_reducible rfl) | (with_reducible refine And.intro ?_ ?_) | (with_reducible intro _)))
      refine MS.to (c_Md_strengthIn (d := d - 1) (by omega) (by omega)) fun _ => ?_
      simp only [wR, wB, wE0, wE1, wE2, wE3, g0, gS, s10, s11, s1S, s20, s21, s2S, kl0, kl1, kl2, kl3, sp0, sp1, sp2, sp3, cn1, cn2, cn3, cn4, cn5, cn6, jJa, lk0, lk1, jmS, jmN, s4_0, s4_1, s4_2, s4_3, s4_4, sw0, sw1, cKs, cKn, true_and, and_true, List.map_cons, List.map_nil, Nat.reduceAdd, Nat.zero_add, Int.reduceAdd, Nat.reduceEqDiff, reduceIte, Classical.not_not, b_Md_areRested]
      by_cases q : n ≤ dig s p
      · (repeat' (first | omega | exact ⟨by omega, by omega⟩ | (with_reducible exact Or.inr trivial) | (with_reducible exact Or.inl trivial) | (with_reducible assumption) | (with_reducible exact Same.refl) | (with_reducible rfl) | (with_reducible refine And.intro ?_ ?_) | (with_reducible intro _)))
        refine AW.run ck_Md_areRested [2] 10 23 ?_
        simp only [wR, wB, wE0, wE1, wE2, wE3, g0, gS, s10, s11, s1S, s20, s21, s2S, kl0, kl1, kl2, kl3, sp0, sp1, sp2, sp3, cn1, cn2, cn3, cn4, cn5, cn6, jJa, lk0, lk1, jmS, jmN, s4_0, s4_1, s4_2, s4_3, s4_4, sw0, sw1, cKs, cKn, true_and, and_true, List.map_cons, List.map_nil, Nat.reduceAdd, Nat.zero_add, Int.reduceAdd, Nat.reduceEqDiff, reduceIte, Classical.not_not, b_Md_areRested, ce]
        (repeat' (first | omega | exact ⟨by omega, by omega⟩ | (with_reducible exact Or.inr trivial) | (with_reducible exact Or.inl trivial) | (with_reducible assumption) | (with_reducible exact Same.refl) | (with_reducible rfl) | (with_reducible refine And.intro ?_ ?_) | (with_reducible intro _)))
        exact ih (p + 1) (by omega) (fun j hj => by
          by_cases e : j = p
          · rw [e]; exact q
          · exact hall j (by omega))
      · (repeat' (first | omega | exact ⟨by omega, by omega⟩ | (with_reducible exact Or.inr trivial) | (with_reducible exact Or.inl trivial) | (with_reducible assumption) | (with_reducible exact Same.refl) | (with_reducible rfl) | (with_reducible refine And.intro ?_ ?_) | (with_reducible intro _)))
        subst hQ
        rw [if_neg (by unfold aHave; rw [decide_eq_true_eq]; intro h; exact q (h p (by omega)))]
        exact ⟨rfl, rfl⟩
  refine AW.run ck_Md_areRested [2] 10 0 ?_
  simp only [wR, wB, wE0, wE1, wE2, wE3, g0, gS, s10, s11, s1S, s20, s21, s2S, kl0, kl1, kl2, kl3, sp0, sp1, sp2, sp3, cn1, cn2, cn3, cn4, cn5, cn6, jJa, lk0, lk1, jmS, jmN, s4_0, s4_1, s4_2, s4_3, s4_4, sw0, sw1, cKs, cKn, true_and, and_true, List.map_cons, List.map_nil, Nat.reduceAdd, Nat.zero_add, Int.reduceAdd, Nat.reduceEqDiff, reduceIte, Classical.not_not, b_Md_areRested]
  exact loop P 0 (by omega) (fun j hj => absurd hj (by omega))
theorem c_Md_restedBy {h : Hl} {sd : Nat → Nat} {cold pe s0 s set : Nat} {l : List Nat} {f : Nat → Nat} (hok : HlOK h) (hL : LSt M h sd cold pe s0 l) (hf : farM M l f) (hs : s ∈ l) (hset : set < 32) : MS G d mi_Md_restedBy [vr 117, vi s, vi set] M (fun r M' => r = some (vi (rby (okP h.P pe) (nxt h sd cold) f s set)) ∧ M' = M) := by
  have hs3 := hL.1.2.2.2.2 s hs
  have e1 := (hL.2.2.2 s hs set hset).1
  refine MS.by ck_Md_restedBy [some (vr 117), some (vi s), some (vi set), none] fun _ _ => ?_
  refine AW.run ck_Md_restedBy [29, 35] 10 0 ?_
  generalize hQ : (fun (r : Option AV) (M' : AM) => r = some (vi (rby (okP h.P pe) (nxt h sd cold) f s set)) ∧ M' = M) = Q
  have a29 : ∀ l3, rby (okP h.P pe) (nxt h sd cold) f s set = 268435456 → AW G d mi_Md_restedBy Q 29 [some (vr 117), some (vi s), some (vi set), l3] [] M := by
    intro l3 e
    refine AW.run ck_Md_restedBy [] 10 29 ?_
    simp only [wR, wB, wE0, wE1, wE2, wE3, g0, gS, s10, s11, s1S, s20, s21, s2S, kl0, kl1, kl2, kl3, sp0, sp1, sp2, sp3, cn1, cn2, cn3, cn4, cn5, cn6, jJa, lk0, lk1, jmS, jmN, s4_0, s4_1, s4_2, s4_3, s4_4, sw0, sw1, cKs, cKn, true_and, and_true, List.map_cons, List.map_nil, Nat.reduceAdd, Nat.zero_add, Int.reduceAdd, Nat.reduceEqDiff, reduceIte, Classical.not_not, b_Md_restedBy]
    subst hQ
    exact ⟨by rw [e]; rfl, rfl⟩
  simp only [wR, wB, wE0, wE1, wE2, wE3, g0, gS, s10, s11, s1S, s20, s21, s2S, kl0, kl1, kl2, kl3, sp0, sp1, sp2, sp3, cn1, cn2, cn3, cn4, cn5, cn6, jJa, lk0, lk1, jmS, jmN, s4_0, s4_1, s4_2, s4_3, s4_4, sw0, sw1, cKs, cKn, true_and, and_true, List.map_cons, List.map_nil, Nat.reduceAdd, Nat.zero_add, Int.reduceAdd, Nat.reduceEqDiff, reduceIte, Classical.not_not, b_Md_restedBy, shMd, e1]
  by_cases q : okP h.P pe s set = true
  · rw [if_pos q]
    have ht : nxt h sd cold s set ∈ l := (hL.2.1.2 _).mpr (((hL.2.1.2 _).mp hs).step hset q)
    have hnl : nxt h sd cold s set < 3125 := hL.1.2.2.2.2 _ ht
    obtain ⟨f1, f2⟩ := hf _ ht
    simp only [wR, wB, wE0, wE1, wE2, wE3, g0, gS, s10, s11, s1S, s20, s21, s2S, kl0, kl1, kl2, kl3, sp0, sp1, sp2, sp3, cn1, cn2, cn3, cn4, cn5, cn6, jJa, lk0, lk1, jmS, jmN, s4_0, s4_1, s4_2, s4_3, s4_4, sw0, sw1, cKs, cKn, true_and, and_true, List.map_cons, List.map_nil, Nat.reduceAdd, Nat.zero_add, Int.reduceAdd, Nat.reduceEqDiff, reduceIte, Classical.not_not, f1]
    by_cases q2 : f (nxt h sd cold s set) = 268435456
    · have := a29 (some (vi (nxt h sd cold s set))) (by unfold rby; rw [if_pos q, if_pos q2])
      (repeat' (first | omega | exact ⟨by omega, by omega⟩ | (with_reducible exact Or.inr trivial) | (with_reducible exact Or.inl trivial) | (with_reducible assumption) | (with_reducible exact Same.refl) | (with_reducible rfl) | (with_reducible refine And.intro ?_ ?_) | (with_reducible intro _)))
    · (repeat' (first | omega | exact ⟨by omega, by omega⟩ | (with_reducible exact Or.inr trivial) | (with_reducible exact Or.inl trivial) | (with_reducible assumption) | (with_reducible exact Same.refl) | (with_reducible rfl) | (with_reducible refine And.intro ?_ ?_) | (with_reducible intro _)))
      refine AW.run ck_Md_restedBy [] 10 35 ?_
      simp only [wR, wB, wE0, wE1, wE2, wE3, g0, gS, s10, s11, s1S, s20, s21, s2S, kl0, kl1, kl2, kl3, sp0, sp1, sp2, sp3, cn1, cn2, cn3, cn4, cn5, cn6, jJa, lk0, lk1, jmS, jmN, s4_0, s4_1, s4_2, s4_3, s4_4, sw0, sw1, cKs, cKn, true_and, and_true, List.map_cons, List.map_nil, Nat.reduceAdd, Nat.zero_add, Int.reduceAdd, Nat.reduceEqDiff, reduceIte, Classical.not_not, b_Md_restedBy, shMd, f1]
      subst hQ
      unfold rby
      rw [if_pos q, if_neg q2]
      (repeat' (first | omega | exact ⟨by omega, by omega⟩ | (with_reducible exact Or.inr trivial) | (with_reducible exact Or.inl trivial) | (with_reducible assumption) | (with_reducible exact Same.refl) | (with_reducible rfl) | (with_reducible refine And.intro ?_ ?_) | (with_reducible intro _)))
      rfl
  · rw [if_neg q]
    have := a29 (some (vi (-1))) (by unfold rby; rw [if_neg q])
    (repeat' (first | omega | exact ⟨by omega, by omega⟩ | (with_reducible exact Or.inr trivial) | (with_reducible exact Or.inl trivial) | (with_reducible assumption) | (with_reducible exact Same.refl) | (with_reducible rfl) | (with_reducible refine And.intro ?_ ?_) | (with_reducible intro _)))
theorem nc0 : ((0 : Nat) : Int) = 0 := rfl
theorem LSt.far {M N : AM} {h : Hl} {sd : Nat → Nat} {cold pe s0 : Nat} {l : List Nat} (hL : LSt M h sd cold pe s0 l) (h0 : N 117 27 = M 117 27) (hs : ∀ x : Int, x = 125 ∨ x = 126 ∨ x = 129 ∨ x = 130 → N x = M x) : LSt N h sd cold pe s0 l := by
  obtain ⟨a, b, c, e⟩ := hL
  refine ⟨a.eq h0 (hs 125 (by omega)) (hs 130 (by omega)), b, c, fun s hs' set hset => rowM_ne (e s hs' set hset) (by rw [hs 126 (by omega)]) (by rw [hs 129 (by omega)])⟩
theorem LSt.cl {M : AM} {h : Hl} {sd : Nat → Nat} {cold pe s0 : Nat} {l : List Nat} (hL : LSt M h sd cold pe s0 l) : ∀ t set, t ∈ l → set < 32 → okP h.P pe t set = true → nxt h sd cold t set ∈ l := fun t set ht hset hok => (hL.2.1.2 _).mpr (((hL.2.1.2 _).mp ht).step hset hok)
set_option maxRecDepth 20000 in
theorem c_Md_laysRested {h : Hl} {m : Mo} {n : Nat} (hd : 20 ≤ d) (hok : HlOK h) (mok : MoOK m) (hH : MH (M 118) h) (hm : MRow (fun y => M 118 (19 + y)) h.P m) :
    MS G d mi_Md_laysRested [vr 117, vi n] M (fun r M' => (∃ l f, r = some (vi (f (cod m.st h.P))) ∧ LSt M' h m.sd m.cold (2 ^ h.P - 1) (cod m.st h.P) l ∧ farM M' l f ∧ DsF (okP h.P (2 ^ h.P - 1)) (nxt h m.sd m.cold) (aHave h.P n) l f) ∧ Same [117, 122, 123, 125, 126, 127, 129, 130] M M' ∧ ∀ y : Int, y ≠ 27 → M' 117 y = M 117 y) := by
  have hP := hok.1
  have hs0 := cod_100k hok mok
  refine MS.by ck_Md_laysRested [some (vr 117), some (vi n), none, none, none] fun _ _ => ?_
  generalize hQ : (fun (r : Option AV) (M' : AM) => (∃ l f, r = some (vi (f (cod m.st h.P))) ∧ LSt M' h m.sd m.cold (2 ^ h.P - 1) (cod m.st h.P) l ∧ farM M' l f ∧ DsF (okP h.P (2 ^ h.P - 1)) (nxt h m.sd m.cold) (aHave h.P n) l f) ∧ Same [117, 122, 123, 125, 126, 127, 129, 130] M M' ∧ ∀ y : Int, y ≠ 27 → M' 117 y = M 117 y) = Q
  refine AW.run ck_Md_laysRested [10] 10 0 ?_
  simp only [wR, wB, wE0, wE1, wE2, wE3, g0, gS, s10, s11, s1S, s20, s21, s2S, kl0, kl1, kl2, kl3, sp0, sp1, sp2, sp3, cn1, cn2, cn3, cn4, cn5, cn6, jJa, lk0, lk1, jmS, jmN, s4_0, s4_1, s4_2, s4_3, s4_4, sw0, sw1, cKs, cKn, true_and, and_true, List.map_cons, List.map_nil, Nat.reduceAdd, Nat.zero_add, Int.reduceAdd, Nat.reduceEqDiff, reduceIte, Classical.not_not, b_Md_laysRested, shMd]
  refine ⟨by omega, MS.to (c_Md_everybody hH.2.1 hP) fun _ => ?_⟩
  simp only [wR, wB, wE0, wE1, wE2, wE3, g0, gS, s10, s11, s1S, s20, s21, s2S, kl0, kl1, kl2, kl3, sp0, sp1, sp2, sp3, cn1, cn2, cn3, cn4, cn5, cn6, jJa, lk0, lk1, jmS, jmN, s4_0, s4_1, s4_2, s4_3, s4_4, sw0, sw1, cKs, cKn, true_and, and_true, List.map_cons, List.map_nil, Nat.reduceAdd, Nat.zero_add, Int.reduceAdd, Nat.reduceEqDiff, reduceIte, Classical.not_not, b_Md_laysRested, shMd]
  refine ⟨by omega, (c_Md_laysStands (d := d - 1) (by omega) hok mok hH hm (all_lt hP)).mono ?_⟩
  rintro r0 M1 okM1 ⟨rfl, ⟨l, L0⟩, u1, u2⟩
  simp only [wR, wB, wE0, wE1, wE2, wE3, g0, gS, s10, s11, s1S, s20, s21, s2S, kl0, kl1, kl2, kl3, sp0, sp1, sp2, sp3, cn1, cn2, cn3, cn4, cn5, cn6, jJa, lk0, lk1, jmS, jmN, s4_0, s4_1, s4_2, s4_3, s4_4, sw0, sw1, cKs, cKn, true_and, and_true, List.map_cons, List.map_nil, Nat.reduceAdd, Nat.zero_add, Int.reduceAdd, Nat.reduceEqDiff, reduceIte, Classical.not_not, b_Md_laysRested, shMd]
  have hnd := L0.1.2.2.2.1
  have hl3 := L0.1.2.2.2.2
  have hlen := len_lt hnd hl3
  have hcl := L0.cl
  have hsin : cod m.st h.P ∈ l := (L0.2.1.2 _).mpr Rc.refl
  have hlen0 : 0 < l.length := List.length_pos_of_mem hsin
  generalize hokf : okP h.P (2 ^ h.P - 1) = okf at hQ hcl
  generalize hnxf : nxt h m.sd m.cold = nxf at hQ hcl
  -- what stays: the lists, all but far
  have keep : ∀ K : AM, Same [127] M1 K → LSt K h m.sd m.cold (2 ^ h.P - 1) (cod m.st h.P) l ∧ Same [117, 122, 123, 125, 126, 127, 129, 130] M K ∧ (∀ y : Int, y ≠ 27 → K 117 y = M 117 y) ∧ K 118 = M 118 := by
    intro K hK
    refine ⟨L0.far (hK.at 117 _ (by (first | decide | (simp only [List.mem_cons, List.not_mem_nil, or_false, not_or, not_false_eq_true, and_true]; omega) | (simp [List.mem_cons]; done)))) (fun x hx => hK x (by (first | decide | (simp only [List.mem_cons, List.not_mem_nil, or_false, not_or, not_false_eq_true, and_true]; omega) | (simp [List.mem_cons]; done)))), (u1.mono (by simp)).trans (hK.mono (by simp)), fun y hy => by rw [hK.at 117 _ (by (first | decide | (simp only [List.mem_cons, List.not_mem_nil, or_false, not_or, not_false_eq_true, and_true]; omega) | (simp [List.mem_cons]; done)))]; exact u2 y hy, ?_⟩
    rw [hK 118 (by (first | decide | (simp only [List.mem_cons, List.not_mem_nil, or_false, not_or, not_false_eq_true, and_true]; omega) | (simp [List.mem_cons]; done))), u1 118 (by (first | decide | (simp only [List.mem_cons, List.not_mem_nil, or_false, not_or, not_false_eq_true, and_true]; omega) | (simp [List.mem_cons]; done)))]
  have a168 : ∀ (K : AM) (f : Nat → Nat) (l2 l3 l4 : Option AV), Same [127] M1 K → farM K l f → RI okf nxf (aHave h.P n) l f → (∀ s, s ∈ l → Stb okf nxf f s) → AW G d mi_Md_laysRested Q 168 [some (vr 117), some (vi n), l2, l3, l4] [] K := by
    intro K f l2 l3 l4 hK hf hri hst
    obtain ⟨k1, k2, k3, k4⟩ := keep K hK
    refine AW.run ck_Md_laysRested [] 10 168 ?_
    simp only [wR, wB, wE0, wE1, wE2, wE3, g0, gS, s10, s11, s1S, s20, s21, s2S, kl0, kl1, kl2, kl3, sp0, sp1, sp2, sp3, cn1, cn2, cn3, cn4, cn5, cn6, jJa, lk0, lk1, jmS, jmN, s4_0, s4_1, s4_2, s4_3, s4_4, sw0, sw1, cKs, cKn, true_and, and_true, List.map_cons, List.map_nil, Nat.reduceAdd, Nat.zero_add, Int.reduceAdd, Nat.reduceEqDiff, reduceIte, Classical.not_not, b_Md_laysRested, shMd]
    refine ⟨by omega, MS.to (c_Md_standNow (by rw [k4]; exact hH.2.1) hP (by rw [k4]; exact hm.st mok)) fun _ => ?_⟩
    obtain ⟨e1, e2⟩ := hf _ hsin
    simp only [wR, wB, wE0, wE1, wE2, wE3, g0, gS, s10, s11, s1S, s20, s21, s2S, kl0, kl1, kl2, kl3, sp0, sp1, sp2, sp3, cn1, cn2, cn3, cn4, cn5, cn6, jJa, lk0, lk1, jmS, jmN, s4_0, s4_1, s4_2, s4_3, s4_4, sw0, sw1, cKs, cKn, true_and, and_true, List.map_cons, List.map_nil, Nat.reduceAdd, Nat.zero_add, Int.reduceAdd, Nat.reduceEqDiff, reduceIte, Classical.not_not, b_Md_laysRested, shMd, e1]
    subst hQ
    refine ⟨by omega, ⟨l, f, rfl, k1, hf, RI.done hcl hlen (fun s hs => (hf s hs).2) hri hst⟩, k2, k3⟩
  -- a pass
  have pass : ∀ (μ : Nat) (K : AM) (f : Nat → Nat) (l3 l4 : Option AV), sumL f l = μ → Same [127] M1 K → farM K l f → RI okf nxf (aHave h.P n) l f → AW G d mi_Md_laysRested Q 58 [some (vr 117), some (vi n), some (vi 1), l3, l4] [] K := by
    as_aux_lemma =>
      intro μ
      induction μ using Nat.strongRecOn with
      | ind μ ih =>
        intro K0 f0 l3 l4 hμ hK0 hf0 hri0
        -- over the list, backwards
        have l71 : ∀ (k : Nat) (more : Nat) (K : AM) (f : Nat → Nat) (l4 : Option AV), k ≤ l.length → Same [127] M1 K → farM K l f → RI okf nxf (aHave h.P n) l f → ((more = 0 ∧ f = f0 ∧ ∀ j, k ≤ j → j < l.length → Stb okf nxf f0 (l.getD j 0)) ∨ (more = 1 ∧ sumL f l < μ)) → AW G d mi_Md_laysRested Q 71 [some (vr 117), some (vi n), some (vi more), some (vi ((k : Int) - 1)), l4] [] K := by
          intro k
          induction k with
          | zero =>
            intro more K f l4 hk hK hf hri hmore
            refine AW.run ck_Md_laysRested [58, 78] 10 71 ?_
            simp only [wR, wB, wE0, wE1, wE2, wE3, g0, gS, s10, s11, s1S, s20, s21, s2S, kl0, kl1, kl2, kl3, sp0, sp1, sp2, sp3, cn1, cn2, cn3, cn4, cn5, cn6, jJa, lk0, lk1, jmS, jmN, s4_0, s4_1, s4_2, s4_3, s4_4, sw0, sw1, cKs, cKn, true_and, and_true, List.map_cons, List.map_nil, Nat.reduceAdd, Nat.zero_add, Int.reduceAdd, Nat.reduceEqDiff, reduceIte, Classical.not_not, b_Md_laysRested, shMd]
            rcases hmore with ⟨rfl, rfl, hst⟩ | ⟨rfl, hlt⟩
            · (repeat' (first | omega | exact ⟨by omega, by omega⟩ | (with_reducible exact Or.inr trivial) | (with_reducible exact Or.inl trivial) | (with_reducible assumption) | (with_reducible exact Same.refl) | (with_reducible rfl) | (with_reducible refine And.intro ?_ ?_) | (with_reducible intro _)))
              refine AW.run ck_Md_laysRested [71, 168] 10 58 ?_
              simp only [wR, wB, wE0, wE1, wE2, wE3, g0, gS, s10, s11, s1S, s20, s21, s2S, kl0, kl1, kl2, kl3, sp0, sp1, sp2, sp3, cn1, cn2, cn3, cn4, cn5, cn6, jJa, lk0, lk1, jmS, jmN, s4_0, s4_1, s4_2, s4_3, s4_4, sw0, sw1, cKs, cKn, true_and, and_true, List.map_cons, List.map_nil, Nat.reduceAdd, Nat.zero_add, Int.reduceAdd, Nat.reduceEqDiff, reduceIte, Classical.not_not, b_Md_laysRested, shMd, nc0, up_rd, Int.reduceEq, and_false, false_and, and_self, reduceIte, not_true_eq_false, not_false_eq_true, false_imp_iff, true_imp_iff, true_or, or_true]
              exact a168 K f _ _ _ hK hf hri (fun s hs => by
                obtain ⟨j, hj, e⟩ := mem_getD hs
                have := hst j (by omega) hj
                rwa [e] at this)
            · have := ih (sumL f l) hlt K f (some (vi (((0 : Nat) : Int) - 1))) l4 rfl hK hf hri
              (repeat' (first | omega | exact ⟨by omega, by omega⟩ | (with_reducible exact Or.inr trivial) | (with_reducible exact Or.inl trivial) | (with_reducible assumption) | (with_reducible exact Same.refl) | (with_reducible rfl) | (with_reducible refine And.intro ?_ ?_) | (with_reducible intro _)))
          | succ k ihk =>
            intro more K f l4 hk hK hf hri hmore
            have hkl : k < l.length := by omega
            have hsk := getD_mem hkl
            have e125 : ∀ K' : AM, Same [127] M1 K' → K' 125 (k : Int) = ((l.getD k 0 : Nat) : Int) := fun K' hK' => by rw [hK'.at 125 _ (by (first | decide | (simp only [List.mem_cons, List.not_mem_nil, or_false, not_or, not_false_eq_true, and_true]; omega) | (simp [List.mem_cons]; done)))]; exact L0.1.2.1 k hkl
            generalize hsk' : l.getD k 0 = sk at hsk e125
            have hsk3 := hl3 sk hsk
            have l78 : ∀ (r set : Nat) (more : Nat) (K : AM) (f : Nat → Nat), set + r = 32 → Same [127] M1 K → farM K l f → RI okf nxf (aHave h.P n) l f → ((more = 0 ∧ f = f0 ∧ (∀ j, k + 1 ≤ j → j < l.length → Stb okf nxf f0 (l.getD j 0)) ∧ ∀ x, x < set → f0 sk ≤ rby okf nxf f0 sk x) ∨ (more = 1 ∧ sumL f l < μ)) → AW G d mi_Md_laysRested Q 78 [some (vr 117), some (vi n), some (vi more), some (vi k), some (vi set)] [] K := by
              have a159 : ∀ (more : Nat) (K : AM) (f : Nat → Nat) (l4 : Option AV), Same [127] M1 K → farM K l f → RI okf nxf (aHave h.P n) l f → ((more = 0 ∧ f = f0 ∧ (∀ j, k ≤ j → j < l.length → Stb okf nxf f0 (l.getD j 0))) ∨ (more = 1 ∧ sumL f l < μ)) → AW G d mi_Md_laysRested Q 159 [some (vr 117), some (vi n), some (vi more), some (vi k), l4] [] K := by
                intro more K f l4 h1 h2 h3 h4
                have := ihk more K f l4 (by omega) h1 h2 h3 h4
                rw [show (k : Int) - 1 = (k : Int) + -1 by omega] at this
                refine AW.run ck_Md_laysRested [71] 10 159 ?_
                simp only [wR, wB, wE0, wE1, wE2, wE3, g0, gS, s10, s11, s1S, s20, s21, s2S, kl0, kl1, kl2, kl3, sp0, sp1, sp2, sp3, cn1, cn2, cn3, cn4, cn5, cn6, jJa, lk0, lk1, jmS, jmN, s4_0, s4_1, s4_2, s4_3, s4_4, sw0, sw1, cKs, cKn, true_and, and_true, List.map_cons, List.map_nil, Nat.reduceAdd, Nat.zero_add, Int.reduceAdd, Nat.reduceEqDiff, reduceIte, Classical.not_not, b_Md_laysRested]
                (repeat' (first | omega | exact ⟨by omega, by omega⟩ | (with_reducible exact Or.inr trivial) | (with_reducible exact Or.inl trivial) | (with_reducible assumption) | (with_reducible exact Same.refl) | (with_reducible rfl) | (with_reducible refine And.intro ?_ ?_) | (with_reducible intro _)))
              intro r
              induction r with
              | zero =>
                intro set more K f hset hK hf hri hmore
                refine AW.run ck_Md_laysRested [128, 153, 159] 10 78 ?_
                simp only [wR, wB, wE0, wE1, wE2, wE3, g0, gS, s10, s11, s1S, s20, s21, s2S, kl0, kl1, kl2, kl3, sp0, sp1, sp2, sp3, cn1, cn2, cn3, cn4, cn5, cn6, jJa, lk0, lk1, jmS, jmN, s4_0, s4_1, s4_2, s4_3, s4_4, sw0, sw1, cKs, cKn, true_and, and_true, List.map_cons, List.map_nil, Nat.reduceAdd, Nat.zero_add, Int.reduceAdd, Nat.reduceEqDiff, reduceIte, Classical.not_not, b_Md_laysRested, shMd]
                (repeat' (first | omega | exact ⟨by omega, by omega⟩ | (with_reducible exact Or.inr trivial) | (with_reducible exact Or.inl trivial) | (with_reducible assumption) | (with_reducible exact Same.refl) | (with_reducible rfl) | (with_reducible refine And.intro ?_ ?_) | (with_reducible intro _)))
                refine a159 more K f _ hK hf hri ?_
                rcases hmore with ⟨rfl, rfl, h1, h2⟩ | h1
                · refine Or.inl ⟨rfl, rfl, fun j hj hj' => ?_⟩
                  by_cases e : j = k
                  · subst e; rw [hsk']; exact Or.inr (fun x hx => h2 x (by omega))
                  · exact h1 j (by omega) hj'
                · exact Or.inr h1
              | succ r ihr =>
                intro set more K f hset hK hf hri hmore
                obtain ⟨k1, k2, k3, k4⟩ := keep K hK
                obtain ⟨f1, f2⟩ := hf sk hsk
                have eK := e125 K hK
                have hkk := L0.1.1
                have a153 : ∀ (more : Nat) (K : AM) (f : Nat → Nat), Same [127] M1 K → farM K l f → RI okf nxf (aHave h.P n) l f → ((more = 0 ∧ f = f0 ∧ (∀ j, k + 1 ≤ j → j < l.length → Stb okf nxf f0 (l.getD j 0)) ∧ ∀ x, x < set + 1 → f0 sk ≤ rby okf nxf f0 sk x) ∨ (more = 1 ∧ sumL f l < μ)) → AW G d mi_Md_laysRested Q 153 [some (vr 117), some (vi n), some (vi more), some (vi k), some (vi set)] [] K := by
                  intro more K f h1 h2 h3 h4
                  have := ihr (set + 1) more K f (by omega) h1 h2 h3 h4
                  refine AW.run ck_Md_laysRested [78] 10 153 ?_
                  simp only [wR, wB, wE0, wE1, wE2, wE3, g0, gS, s10, s11, s1S, s20, s21, s2S, kl0, kl1, kl2, kl3, sp0, sp1, sp2, sp3, cn1, cn2, cn3, cn4, cn5, cn6, jJa, lk0, lk1, jmS, jmN, s4_0, s4_1, s4_2, s4_3, s4_4, sw0, sw1, cKs, cKn, true_and, and_true, List.map_cons, List.map_nil, Nat.reduceAdd, Nat.zero_add, Int.reduceAdd, Nat.reduceEqDiff, reduceIte, Classical.not_not, b_Md_laysRested, ce]
                  (repeat' (first | omega | exact ⟨by omega, by omega⟩ | (with_reducible exact Or.inr trivial) | (with_reducible exact Or.inl trivial) | (with_reducible assumption) | (with_reducible exact Same.refl) | (with_reducible rfl) | (with_reducible refine And.intro ?_ ?_) | (with_reducible intro _)))
                refine AW.run ck_Md_laysRested [128, 153, 159] 10 78 ?_
                simp only [wR, wB, wE0, wE1, wE2, wE3, g0, gS, s10, s11, s1S, s20, s21, s2S, kl0, kl1, kl2, kl3, sp0, sp1, sp2, sp3, cn1, cn2, cn3, cn4, cn5, cn6, jJa, lk0, lk1, jmS, jmN, s4_0, s4_1, s4_2, s4_3, s4_4, sw0, sw1, cKs, cKn, true_and, and_true, List.map_cons, List.map_nil, Nat.reduceAdd, Nat.zero_add, Int.reduceAdd, Nat.reduceEqDiff, reduceIte, Classical.not_not, b_Md_laysRested, shMd, eK, f1]
                by_cases q0 : f sk = 0
                · have := a159 more K f (some (vi set)) hK hf hri (by
                    rcases hmore with ⟨rfl, rfl, h1, h2⟩ | h1
                    · refine Or.inl ⟨rfl, rfl, fun j hj hj' => ?_⟩
                      by_cases e : j = k
                      · subst e; rw [hsk']; exact Or.inl q0
                      · exact h1 j (by omega) hj'
                    · exact Or.inr h1)
                  (repeat' (first | omega | exact ⟨by omega, by omega⟩ | (with_reducible exact Or.inr trivial) | (with_reducible exact Or.inl trivial) | (with_reducible assumption) | (with_reducible exact Same.refl) | (with_reducible rfl) | (with_reducible refine And.intro ?_ ?_) | (with_reducible intro _)))
                · (repeat' (first | omega | exact ⟨by omega, by omega⟩ | (with_reducible exact Or.inr trivial) | (with_reducible exact Or.inl trivial) | (with_reducible assumption) | (with_reducible exact Same.refl) | (with_reducible rfl) | (with_reducible refine And.intro ?_ ?_) | (with_reducible intro _)))
                  refine MS.to (c_Md_restedBy hok k1 hf hsk (by omega)) fun _ => ?_
                  rw [hokf, hnxf]
                  simp only [wR, wB, wE0, wE1, wE2, wE3, g0, gS, s10, s11, s1S, s20, s21, s2S, kl0, kl1, kl2, kl3, sp0, sp1, sp2, sp3, cn1, cn2, cn3, cn4, cn5, cn6, jJa, lk0, lk1, jmS, jmN, s4_0, s4_1, s4_2, s4_3, s4_4, sw0, sw1, cKs, cKn, true_and, and_true, List.map_cons, List.map_nil, Nat.reduceAdd, Nat.zero_add, Int.reduceAdd, Nat.reduceEqDiff, reduceIte, Classical.not_not, b_Md_laysRested, shMd, eK, f1]
                  by_cases q1 : rby okf nxf f sk set < f sk
                  · (repeat' (first | omega | exact ⟨by omega, by omega⟩ | (with_reducible exact Or.inr trivial) | (with_reducible exact Or.inl trivial) | (with_reducible assumption) | (with_reducible exact Same.refl) | (with_reducible rfl) | (with_reducible refine And.intro ?_ ?_) | (with_reducible intro _)))
                    refine AW.run ck_Md_laysRested [153] 10 128 ?_
                    simp only [wR, wB, wE0, wE1, wE2, wE3, g0, gS, s10, s11, s1S, s20, s21, s2S, kl0, kl1, kl2, kl3, sp0, sp1, sp2, sp3, cn1, cn2, cn3, cn4, cn5, cn6, jJa, lk0, lk1, jmS, jmN, s4_0, s4_1, s4_2, s4_3, s4_4, sw0, sw1, cKs, cKn, true_and, and_true, List.map_cons, List.map_nil, Nat.reduceAdd, Nat.zero_add, Int.reduceAdd, Nat.reduceEqDiff, reduceIte, Classical.not_not, b_Md_laysRested, shMd, eK]
                    (repeat' (first | omega | exact ⟨by omega, by omega⟩ | (with_reducible exact Or.inr trivial) | (with_reducible exact Or.inl trivial) | (with_reducible assumption) | (with_reducible exact Same.refl) | (with_reducible rfl) | (with_reducible refine And.intro ?_ ?_) | (with_reducible intro _)))
                    refine MS.to (c_Md_restedBy hok k1 hf hsk (by omega)) fun _ => ?_
                    rw [hokf, hnxf]
                    simp only [wR, wB, wE0, wE1, wE2, wE3, g0, gS, s10, s11, s1S, s20, s21, s2S, kl0, kl1, kl2, kl3, sp0, sp1, sp2, sp3, cn1, cn2, cn3, cn4, cn5, cn6, jJa, lk0, lk1, jmS, jmN, s4_0, s4_1, s4_2, s4_3, s4_4, sw0, sw1, cKs, cKn, true_and, and_true, List.map_cons, List.map_nil, Nat.reduceAdd, Nat.zero_add, Int.reduceAdd, Nat.reduceEqDiff, reduceIte, Classical.not_not, b_Md_laysRested, shMd]
                    have hsum := sumL_upd (f := f) (s := sk) (v := rby okf nxf f sk set) hnd
                    rw [if_pos hsk, if_pos hsk] at hsum
                    have hbound : sumL f l ≤ μ := by
                      rcases hmore with ⟨_, rfl, _⟩ | ⟨_, h1⟩ <;> omega
                    have := a153 1 (up K 127 sk (rby okf nxf f sk set)) (fun x => if x = sk then rby okf nxf f sk set else f x) (hK.up (by simp)) (fun x hx => ?_) (RI.upd hcl hri (fun s hs => (hf s hs).2) hsk (by omega) q1) (Or.inr ⟨rfl, by omega⟩)
                    · (repeat' (first | omega | exact ⟨by omega, by omega⟩ | (with_reducible exact Or.inr trivial) | (with_reducible exact Or.inl trivial) | (with_reducible assumption) | (with_reducible exact Same.refl) | (with_reducible rfl) | (with_reducible refine And.intro ?_ ?_) | (with_reducible intro _)))
                    · by_cases e : x = sk
                      · subst e
                        have e' : (fun y => if y = x then rby okf nxf f x set else f y) x = rby okf nxf f x set := if_pos rfl
                        rw [up_eq, e']; exact ⟨rfl, by omega⟩
                      · have e' : (fun y => if y = sk then rby okf nxf f sk set else f y) x = f x := if_neg e
                        rw [up_ne2 (by omega), e']; exact hf x hx
                  · have := a153 more K f hK hf hri (by
                      rcases hmore with ⟨rfl, rfl, h1, h2⟩ | h1
                      · refine Or.inl ⟨rfl, rfl, h1, fun x hx => ?_⟩
                        by_cases e : x = set
                        · subst e; omega
                        · exact h2 x (by omega)
                      · exact Or.inr h1)
                    (repeat' (first | omega | exact ⟨by omega, by omega⟩ | (with_reducible exact Or.inr trivial) | (with_reducible exact Or.inl trivial) | (with_reducible assumption) | (with_reducible exact Same.refl) | (with_reducible rfl) | (with_reducible refine And.intro ?_ ?_) | (with_reducible intro _)))
            refine AW.run ck_Md_laysRested [58, 78] 10 71 ?_
            simp only [wR, wB, wE0, wE1, wE2, wE3, g0, gS, s10, s11, s1S, s20, s21, s2S, kl0, kl1, kl2, kl3, sp0, sp1, sp2, sp3, cn1, cn2, cn3, cn4, cn5, cn6, jJa, lk0, lk1, jmS, jmN, s4_0, s4_1, s4_2, s4_3, s4_4, sw0, sw1, cKs, cKn, true_and, and_true, List.map_cons, List.map_nil, Nat.reduceAdd, Nat.zero_add, Int.reduceAdd, Nat.reduceEqDiff, reduceIte, Classical.not_not, b_Md_laysRested, shMd]
            rw [show ((k + 1 : Nat) : Int) - 1 = (k : Int) by omega]
            have := l78 32 0 more K f (by omega) hK hf hri (by
              rcases hmore with ⟨rfl, rfl, h1⟩ | h1
              · exact Or.inl ⟨rfl, rfl, h1, fun x hx => absurd hx (by omega)⟩
              · exact Or.inr h1)
            (repeat' (first | omega | exact ⟨by omega, by omega⟩ | (with_reducible exact Or.inr trivial) | (with_reducible exact Or.inl trivial) | (with_reducible assumption) | (with_reducible exact Same.refl) | (with_reducible rfl) | (with_reducible refine And.intro ?_ ?_) | (with_reducible intro _)))
        obtain ⟨k1, k2, k3, k4⟩ := keep K0 hK0
        have e27 := k1.1.1
        refine AW.run ck_Md_laysRested [71, 168] 10 58 ?_
        simp only [wR, wB, wE0, wE1, wE2, wE3, g0, gS, s10, s11, s1S, s20, s21, s2S, kl0, kl1, kl2, kl3, sp0, sp1, sp2, sp3, cn1, cn2, cn3, cn4, cn5, cn6, jJa, lk0, lk1, jmS, jmN, s4_0, s4_1, s4_2, s4_3, s4_4, sw0, sw1, cKs, cKn, true_and, and_true, List.map_cons, List.map_nil, Nat.reduceAdd, Nat.zero_add, Int.reduceAdd, Nat.reduceEqDiff, reduceIte, Classical.not_not, b_Md_laysRested, shMd, up_rd, Int.reduceEq, and_false, false_and, and_self, reduceIte, not_true_eq_false, not_false_eq_true, false_imp_iff, true_imp_iff, true_or, or_true, e27]
        have := l71 l.length 0 K0 f0 l4 (Nat.le_refl _) hK0 hf0 hri0 (Or.inl ⟨rfl, rfl, fun j h1 h2 => absurd h1 (by omega)⟩)
        (repeat' (first | omega | exact ⟨by omega, by omega⟩ | (with_reducible exact Or.inr trivial) | (with_reducible exact Or.inl trivial) | (with_reducible assumption) | (with_reducible exact Same.refl) | (with_reducible rfl) | (with_reducible refine And.intro ?_ ?_) | (with_reducible intro _)))
  have l10 : ∀ (r k : Nat) (K : AM), k + r = l.length → Same [127] M1 K → (∀ j, j < k → K 127 (l.getD j 0 : Nat) = if aHave h.P n (l.getD j 0) = true then 0 else 268435456) → AW G d mi_Md_laysRested Q 10 [some (vr 117), some (vi n), some (vi k), none, none] [] K := by
    as_aux_lemma =>
      intro r
      induction r with
      | zero =>
        intro k K hk hK hfar
        obtain ⟨k1, k2, k3, k4⟩ := keep K hK
        have e27 := k1.1.1
        refine AW.run ck_Md_laysRested [49, 58] 10 10 ?_
        simp only [wR, wB, wE0, wE1, wE2, wE3, g0, gS, s10, s11, s1S, s20, s21, s2S, kl0, kl1, kl2, kl3, sp0, sp1, sp2, sp3, cn1, cn2, cn3, cn4, cn5, cn6, jJa, lk0, lk1, jmS, jmN, s4_0, s4_1, s4_2, s4_3, s4_4, sw0, sw1, cKs, cKn, true_and, and_true, List.map_cons, List.map_nil, Nat.reduceAdd, Nat.zero_add, Int.reduceAdd, Nat.reduceEqDiff, reduceIte, Classical.not_not, b_Md_laysRested, shMd, e27]
        have hfar' : ∀ s, s ∈ l → K 127 (s : Int) = (((if aHave h.P n s = true then 0 else 268435456) : Nat) : Int) := fun s hs => by
          obtain ⟨j, hj, e⟩ := mem_getD hs
          have := hfar j (by omega)
          rw [e] at this
          rw [this]; split <;> rfl
        have := pass _ K (fun s => if aHave h.P n s = true then 0 else 268435456) none none rfl hK (fun s hs => ⟨hfar' s hs, by show (if aHave h.P n s = true then 0 else 268435456) ≤ 268435456; split <;> omega⟩) (fun s hs => ⟨fun hlt => ?_, fun hg => if_pos hg⟩)
        · (repeat' (first | omega | exact ⟨by omega, by omega⟩ | (with_reducible exact Or.inr trivial) | (with_reducible exact Or.inl trivial) | (with_reducible assumption) | (with_reducible exact Same.refl) | (with_reducible rfl) | (with_reducible refine And.intro ?_ ?_) | (with_reducible intro _)))
        · by_cases q : aHave h.P n s = true
          · simp only [if_pos q]; exact q
          · simp only [if_neg q] at hlt; omega
      | succ r ih =>
        intro k K hk hK hfar
        obtain ⟨k1, k2, k3, k4⟩ := keep K hK
        have e27 := k1.1.1
        have hkl : k < l.length := by omega
        have eK := k1.1.2.1 k hkl
        have hsk3 := hl3 _ (getD_mem hkl)
        have a49 : ∀ v : Int, inI v → v = (if aHave h.P n (l.getD k 0) = true then 0 else 268435456) → AW G d mi_Md_laysRested Q 49 [some (vr 117), some (vi n), some (vi k), none, none] [vi v, vi (l.getD k 0), vr 127] K := by
          intro v hvi hv
          refine AW.run ck_Md_laysRested [10] 10 49 ?_
          simp only [wR, wB, wE0, wE1, wE2, wE3, g0, gS, s10, s11, s1S, s20, s21, s2S, kl0, kl1, kl2, kl3, sp0, sp1, sp2, sp3, cn1, cn2, cn3, cn4, cn5, cn6, jJa, lk0, lk1, jmS, jmN, s4_0, s4_1, s4_2, s4_3, s4_4, sw0, sw1, cKs, cKn, true_and, and_true, List.map_cons, List.map_nil, Nat.reduceAdd, Nat.zero_add, Int.reduceAdd, Nat.reduceEqDiff, reduceIte, Classical.not_not, b_Md_laysRested, shMd, ce]
          (repeat' (first | omega | exact ⟨by omega, by omega⟩ | (with_reducible exact Or.inr trivial) | (with_reducible exact Or.inl trivial) | (with_reducible assumption) | (with_reducible exact Same.refl) | (with_reducible rfl) | (with_reducible refine And.intro ?_ ?_) | (with_reducible intro _)))
          refine ih (k + 1) _ (by omega) (hK.up (by simp)) (fun j hj => ?_)
          by_cases e : j = k
          · subst e; rw [up_eq]; exact hv
          · have : l.getD j 0 ≠ l.getD k 0 := fun e' => e (getD_inj hnd (by omega) hkl e')
            rw [up_ne2 (by omega)]; exact hfar j (by omega)
        refine AW.run ck_Md_laysRested [49, 56] 10 10 ?_
        simp only [wR, wB, wE0, wE1, wE2, wE3, g0, gS, s10, s11, s1S, s20, s21, s2S, kl0, kl1, kl2, kl3, sp0, sp1, sp2, sp3, cn1, cn2, cn3, cn4, cn5, cn6, jJa, lk0, lk1, jmS, jmN, s4_0, s4_1, s4_2, s4_3, s4_4, sw0, sw1, cKs, cKn, true_and, and_true, List.map_cons, List.map_nil, Nat.reduceAdd, Nat.zero_add, Int.reduceAdd, Nat.reduceEqDiff, reduceIte, Classical.not_not, b_Md_laysRested, shMd, e27, eK]
        (repeat' (first | omega | exact ⟨by omega, by omega⟩ | (with_reducible exact Or.inr trivial) | (with_reducible exact Or.inl trivial) | (with_reducible assumption) | (with_reducible exact Same.refl) | (with_reducible rfl) | (with_reducible refine And.intro ?_ ?_) | (with_reducible intro _)))
        refine MS.to (c_Md_areRested (d := d - 1) (by omega) (by rw [k4]; exact hH.2.1) hP) fun _ => ?_
        simp only [wR, wB, wE0, wE1, wE2, wE3, g0, gS, s10, s11, s1S, s20, s21, s2S, kl0, kl1, kl2, kl3, sp0, sp1, sp2, sp3, cn1, cn2, cn3, cn4, cn5, cn6, jJa, lk0, lk1, jmS, jmN, s4_0, s4_1, s4_2, s4_3, s4_4, sw0, sw1, cKs, cKn, true_and, and_true, List.map_cons, List.map_nil, Nat.reduceAdd, Nat.zero_add, Int.reduceAdd, Nat.reduceEqDiff, reduceIte, Classical.not_not, b_Md_laysRested]
        by_cases q : aHave h.P n (l.getD k 0) = true
        · rw [if_pos q] at a49 ⊢
          have := a49 0 ⟨by omega, by omega⟩ rfl
          (repeat' (first | omega | exact ⟨by omega, by omega⟩ | (with_reducible exact Or.inr trivial) | (with_reducible exact Or.inl trivial) | (with_reducible assumption) | (with_reducible exact Same.refl) | (with_reducible rfl) | (with_reducible refine And.intro ?_ ?_) | (with_reducible intro _)))
        · rw [if_neg q] at a49 ⊢
          have := a49 268435456 ⟨by omega, by omega⟩ rfl
          (repeat' (first | omega | exact ⟨by omega, by omega⟩ | (with_reducible exact Or.inr trivial) | (with_reducible exact Or.inl trivial) | (with_reducible assumption) | (with_reducible exact Same.refl) | (with_reducible rfl) | (with_reducible refine And.intro ?_ ?_) | (with_reducible intro _)))
  exact l10 l.length 0 M1 (by omega) Same.refl (fun j hj => absurd hj (by omega))
end MP2
