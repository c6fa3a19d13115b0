section QA
variable {t : Nat → Nat} {n m c k w : Nat} {M N K : AM} {cs : List Int} {z : Int}
/-- a law's place -/
def lwZ (z : Int) : Prop := isO z 3 ∧ 10 ≤ z ∧ z ≤ 21
/-- what the class's reading of a law may change -/
def FrC (z : Int) (M N : AM) : Prop := (∀ x : Int, x ≠ 2 → x ≠ z → x ≠ z + 1 → N x = M x) ∧ (∀ y : Int, y ≠ 0 → y ≠ 1 → y ≠ 7 → y ≠ 8 → N 2 y = M 2 y) ∧ ∀ y : Int, y ≠ 1 → N z y = M z y
theorem FrC.refl : FrC z M M := ⟨fun _ _ _ _ => rfl, fun _ _ _ _ _ => rfl, fun _ _ => rfl⟩
theorem FrC.trans (h : FrC z M N) (g : FrC z N K) : FrC z M K := ⟨fun x a b e => (g.1 x a b e).trans (h.1 x a b e), fun y a b e f => (g.2.1 y a b e f).trans (h.2.1 y a b e f), fun y hy => (g.2.2 y hy).trans (h.2.2 y hy)⟩
def GdC (t : Nat → Nat) (n m : Nat) (z : Int) (c : Nat) (M N : AM) (k : Nat) (cs : List Int) : Prop := FrC z M N ∧ AtC N t n m k ∧ N z 1 = ((c + cs.length : Nat) : Int) ∧ (∀ i : Nat, i < c → N (z + 1) (i : Int) = M (z + 1) (i : Int)) ∧ ∀ i : Nat, i < cs.length → N (z + 1) ((c + i : Nat) : Int) = cc (cs.getD i 0)
def BdC (t : Nat → Nat) (n : Nat) (z : Int) (M N : AM) (w k : Nat) : Prop := FrC z M N ∧ N 2 0 = ((fkd (kin t n (pls t n (k))) w : Nat) : Int) ∧ N 2 1 = ((pls t n k : Nat) : Int) ∧ N 2 8 = 23 ∧ w ≠ 0 ∧ ∃ c' : Nat, c' ≤ 900 ∧ N z 1 = (c' : Int)
theorem BdC.ne (h : BdC t n z M N w k) : N 2 0 ≠ 0 := by
  obtain ⟨_, h1, _, _, h2, _⟩ := h
  rw [h1]
  unfold fkd
  split <;> omega
def PoC (t : Nat → Nat) (n m : Nat) (z : Int) (c : Nat) (M N : AM) (r : Rs) : Prop :=
  match r with
  | Sum.inl x => BdC t n z M N x.1 x.2
  | Sum.inr x => GdC t n m z c M N x.1 x.2
theorem PoC.bad (h : PoC t n m z c M N (Rs.bad w k)) : BdC t n z M N w k := h
theorem PoC.good (h : PoC t n m z c M N (Rs.good k cs)) : GdC t n m z c M N k cs := h
theorem BdC.po (h : BdC t n z M N w k) : PoC t n m z c M N (Rs.bad w k) := h
theorem GdC.po (h : GdC t n m z c M N k cs) : PoC t n m z c M N (Rs.good k cs) := h
theorem GdC.refl (h : AtC M t n m k) (hc : M z 1 = (c : Int)) : GdC t n m z c M M k [] := ⟨FrC.refl, h, hc, fun _ _ => rfl, fun i hi => absurd hi (by simp)⟩
theorem BdC.of (g : FrC z M N) (h : BdC t n z N K w k) : BdC t n z M K w k := ⟨g.trans h.1, h.2⟩
theorem FrC.two {y v : Int} (hz : lwZ z) (h : FrC z M N) (hy : y = 0 ∨ y = 1 ∨ y = 7 ∨ y = 8) : FrC z M (up N 2 y v) := by
  obtain ⟨_, h1, h2⟩ := hz
  refine ⟨fun x a b e => by rw [up_z (by omega)]; exact h.1 x a b e, fun y' a b e f => by rw [up_ne2 (by omega)]; exact h.2.1 y' a b e f, fun y' hy' => by rw [up_ne1 (by omega)]; exact h.2.2 y' hy'⟩
theorem GdC.step {k' : Nat} {x v : Int} (hz : lwZ z) (g : GdC t n m z c M N k cs) (h : AtC (up (up N 2 7 x) 2 8 v) t n m k') : GdC t n m z c M (up (up N 2 7 x) 2 8 v) k' cs := by
  obtain ⟨h1, h2, h3, h4, h5⟩ := g
  have hz' := hz.2
  exact ⟨(h1.two hz (by omega)).two hz (by omega), h, by rw [up_ne1 (by omega), up_ne1 (by omega)]; exact h3, fun i hi => by rw [up_ne1 (by omega), up_ne1 (by omega)]; exact h4 i hi, fun i hi => by rw [up_ne1 (by omega), up_ne1 (by omega)]; exact h5 i hi⟩
theorem AtC.code {x y v : Int} (h : AtC M t n m k) (hx : 10 ≤ x) : AtC (up M x y v) t n m k := by
  obtain ⟨a, b, c, e, f, g⟩ := h
  exact ⟨a.eq (up_z (by omega)) (up_z (by omega)) (up_z (by omega)), b, by rw [up_ne1 (by omega)]; exact c, by rw [up_ne1 (by omega)]; exact e, by rw [up_ne1 (by omega)]; exact f, by rw [up_ne1 (by omega)]; exact g⟩
theorem FrC.code {x v v' : Int} (hz : lwZ z) (h : FrC z M N) : FrC z M (up (up N (z + 1) x v) z 1 v') := by
  have hz' := hz.2
  refine ⟨fun x a b e => by rw [up_z b, up_z e]; exact h.1 x a b e, fun y a b e f => by rw [up_ne1 (by omega), up_ne1 (by omega)]; exact h.2.1 y a b e f, fun y hy => by rw [up_ne2 hy, up_ne1 (by omega)]; exact h.2.2 y hy⟩
theorem GdC.code {v : Int} (hz : lwZ z) (g : GdC t n m z c M N k cs) : GdC t n m z c M (up (up N (z + 1) ((c + cs.length : Nat) : Int) (cc v)) z 1 ((c + cs.length + 1 : Nat) : Int)) k (cs ++ [v]) := by
  obtain ⟨h1, h2, h3, h4, h5⟩ := g
  have hz' := hz.2
  refine ⟨h1.code hz, (h2.code (by omega)).code (by omega), by rw [up_eq]; simp only [List.length_append, List.length_cons, List.length_nil]; omega, fun i hi => ?_, fun i hi => ?_⟩
  · rw [up_ne1 (by omega), up_ne2 (by omega)]; exact h4 i hi
  · simp only [List.length_append, List.length_cons, List.length_nil] at hi
    rw [up_ne1 (by omega)]
    by_cases q : i < cs.length
    · rw [up_ne2 (by omega), h5 i q, gdl q]
    · rw [show i = cs.length by omega, up_eq, gdr (Nat.le_refl _), Nat.sub_self]
      rfl
theorem GdC.seq {k' : Nat} {cs' : List Int} (g : GdC t n m z c M N k cs) (h : GdC t n m z (c + cs.length) N K k' cs') : GdC t n m z c M K k' (cs ++ cs') := by
  obtain ⟨h1, h2, h3, h4, h5⟩ := g
  obtain ⟨g1, g2, g3, g4, g5⟩ := h
  refine ⟨h1.trans g1, g2, by rw [g3, List.length_append]; omega, fun i hi => by rw [g4 i (by omega)]; exact h4 i hi, fun i hi => ?_⟩
  rw [List.length_append] at hi
  by_cases q : i < cs.length
  · rw [g4 (c + i) (by omega), h5 i q, gdl q]
  · rw [gdr (show cs.length ≤ i by omega), ← g5 (i - cs.length) (by omega)]
    rw [show c + cs.length + (i - cs.length) = c + i by omega]
theorem PoC.seq {r : Rs} (g : GdC t n m z c M N k cs) (h : PoC t n m z (c + cs.length) N K r) : PoC t n m z c M K (r.bd fun k2 c2 => Rs.good k2 (cs ++ c2)) := by
  rcases rs_cases r with ⟨w, k', rfl⟩ | ⟨k', cs', rfl⟩
  · exact BdC.of g.1 h.bad
  · exact g.seq h.good
theorem PoC.seqx {r : Rs} {x : Int} {c' : Nat} (g : GdC t n m z c M N k (cs ++ [x])) (hc : c' = c + cs.length + 1) (h : PoC t n m z c' N K r) : PoC t n m z c M K (r.bd fun k2 c2 => Rs.good k2 (cs ++ x :: c2)) := by
  have e : c' = c + (cs ++ [x]).length := by simp only [List.length_append, List.length_cons, List.length_nil]; omega
  subst e
  rcases rs_cases r with ⟨w, k', rfl⟩ | ⟨k', cs', rfl⟩
  · exact BdC.of g.1 h.bad
  · have := g.seq h.good
    rw [List.append_assoc] at this
    exact this
theorem BdC.mk' {k : Nat} (hz : lwZ z) (g : GdC t n m z c M N k cs) (hl : c + cs.length ≤ 900) (hw : w ≠ 0) : BdC t n z M (up (up (up N 2 0 ((fkd (kin t n (pls t n (k))) w : Nat) : Int)) 2 1 ((pls t n k : Nat) : Int)) 2 8 23) w k := by
  have hz' := hz.2
  refine ⟨((g.1.two hz (by omega)).two hz (by omega)).two hz (by omega), by rw [up_ne2 (by omega), up_ne2 (by omega), up_eq], by rw [up_ne2 (by omega), up_eq], up_eq _ _ _ _, hw, c + cs.length, hl, ?_⟩
  rw [up_ne1 (by omega), up_ne1 (by omega), up_ne1 (by omega)]
  exact g.2.2.1
/-- the class's tokens told by their kinds -/
theorem ckq {kk x : Nat} {v : Int} (h : vK kk) (hx : vK x) (hv : (ck x : Int) = v) : ((ck kk : Nat) : Int) = v ↔ kk = x := by
  rw [← hv]
  exact ck_inj h hx
theorem ckq_small {kk : Nat} (h : vK kk) : (ck kk < 6 ↔ 2 ≤ kk ∧ kk ≤ 7) ∧ (ck kk < 9 ↔ (2 ≤ kk ∧ kk ≤ 7) ∨ (14 ≤ kk ∧ kk ≤ 16)) ∧ (2 ≤ kk ∧ kk ≤ 7 → ck kk = kk - 2) ∧ (14 ≤ kk ∧ kk ≤ 16 → ck kk = kk - 8) ∧ ck kk < 300 := by
  have key : ∀ a : Fin 42, (a.val ≤ 19 ∨ (22 ≤ a.val ∧ a.val ≤ 25) ∨ (30 ≤ a.val ∧ a.val ≤ 41)) → (ck a.val < 6 ↔ 2 ≤ a.val ∧ a.val ≤ 7) ∧ (ck a.val < 9 ↔ (2 ≤ a.val ∧ a.val ≤ 7) ∨ (14 ≤ a.val ∧ a.val ≤ 16)) ∧ (2 ≤ a.val ∧ a.val ≤ 7 → ck a.val = a.val - 2) ∧ (14 ≤ a.val ∧ a.val ≤ 16 → ck a.val = a.val - 8) ∧ ck a.val < 300 := by decide +kernel
  exact key ⟨kk, by unfold vK at h; omega⟩ h
variable {G : AG} {d : Nat}
theorem c_La_put_full {v : Int} (hz : isO z 3) (hc : M z 1 = 900) : MS G d mi_La_put [vr z, vi v] M (fun r M' => r = none ∧ M' = M) := by
  have hlc := sh_La hz
  have hia : isArr (z + 1) := ⟨_, hlc.1⟩
  refine MS.run ck_La_put [some (vr z), some (vi v)] [] 10 fun _ _ => ?_
  simp only [wR, wB, wE0, wE1, wE2, wE3, g0, gS, s10, s11, s1S, s20, s21, s2S, kl0, kl1, kl2, kl3, sp0, sp1, sp2, sp3, cn1, cn2, cn3, cn4, cn5, cn6, jJa, lk0, lk1, jmS, jmN, s4_0, s4_1, s4_2, s4_3, s4_4, sw0, sw1, cKs, cKn, true_and, and_true, List.map_cons, List.map_nil, Nat.reduceAdd, Nat.zero_add, Int.reduceAdd, Nat.reduceEqDiff, reduceIte, Classical.not_not, b_La_put, hz, hlc, hc, hia, ce, Int.reduceEq, not_true_eq_false, not_false_eq_true, false_imp_iff, true_imp_iff, and_self]
  (repeat' (first | omega | (with_reducible exact True.intro) | exact ⟨by omega, by omega⟩ | (with_reducible exact Or.inr trivial) | (with_reducible exact Or.inl trivial) | (with_reducible assumption) | (with_reducible exact Same.refl) | (with_reducible rfl) | (with_reducible refine And.intro ?_ ?_) | (with_reducible intro _)))
theorem c_Rd_put_full {v : Int} (hd : 1 ≤ d) (hz : isO z 3) (hz0 : 0 ≤ z) (hl : M 2 9 = z) (hc : M z 1 = 900) : MS G d mi_Rd_put [vr 2, vi v] M (fun r M' => r = none ∧ M' = M) := by
  have hp := c_La_put_full (G := G) (d := d - 1) (v := v) hz hc
  refine MS.run ck_Rd_put [some (vr 2), some (vi v)] [] 10 fun _ _ => ?_
  simp only [wR, wB, wE0, wE1, wE2, wE3, g0, gS, s10, s11, s1S, s20, s21, s2S, kl0, kl1, kl2, kl3, sp0, sp1, sp2, sp3, cn1, cn2, cn3, cn4, cn5, cn6, jJa, lk0, lk1, jmS, jmN, s4_0, s4_1, s4_2, s4_3, s4_4, sw0, sw1, cKs, cKn, true_and, and_true, List.map_cons, List.map_nil, Nat.reduceAdd, Nat.zero_add, Int.reduceAdd, Nat.reduceEqDiff, reduceIte, Classical.not_not, b_Rd_put, shH, hl, hz]
  (repeat' (first | omega | (with_reducible exact True.intro) | exact ⟨by omega, by omega⟩ | (with_reducible exact Or.inr trivial) | (with_reducible exact Or.inl trivial) | (with_reducible assumption) | (with_reducible exact Same.refl) | (with_reducible rfl) | (with_reducible refine And.intro ?_ ?_) | (with_reducible intro _)))
  refine MS.to hp fun _ => ?_
  simp only [wR, wB, wE0, wE1, wE2, wE3, g0, gS, s10, s11, s1S, s20, s21, s2S, kl0, kl1, kl2, kl3, sp0, sp1, sp2, sp3, cn1, cn2, cn3, cn4, cn5, cn6, jJa, lk0, lk1, jmS, jmN, s4_0, s4_1, s4_2, s4_3, s4_4, sw0, sw1, cKs, cKn, true_and, and_true, List.map_cons, List.map_nil, Nat.reduceAdd, Nat.zero_add, Int.reduceAdd, Nat.reduceEqDiff, reduceIte, Classical.not_not, b_Rd_put]
theorem c_Rd_put_f {v : Int} {M0 : AM} (hd : 1 ≤ d) (hz : lwZ z) (hl : M 2 9 = z) (hb : BdC t n z M0 M w k) : MS G d mi_Rd_put [vr 2, vi v] M (fun r M' => r = none ∧ BdC t n z M0 M' w k) := by
  obtain ⟨h1, h2, h3, h4, h5, c', h6, h7⟩ := hb
  have hz' := hz.2
  by_cases q : c' = 900
  · subst q
    refine (c_Rd_put_full hd hz.1 (by omega) hl h7).mono ?_
    rintro r M' _ ⟨rfl, rfl⟩
    exact ⟨rfl, h1, h2, h3, h4, h5, 900, h6, h7⟩
  · refine (c_Rd_put hd hz.1 (by omega) hl h7 (by omega)).mono ?_
    rintro r M' _ ⟨rfl, rfl⟩
    refine ⟨rfl, h1.code hz, ?_, ?_, ?_, h5, c' + 1, by omega, up_eq _ _ _ _⟩
    · rw [up_ne1 (by omega), up_ne1 (by omega)]; exact h2
    · rw [up_ne1 (by omega), up_ne1 (by omega)]; exact h3
    · rw [up_ne1 (by omega), up_ne1 (by omega)]; exact h4
theorem c_Rd_put_g {v x : Int} {M0 : AM} (hd : 1 ≤ d) (hz : lwZ z) (hl : M 2 9 = z) (g : GdC t n m z c M0 M k cs) (hl9 : c + cs.length < 900) (hx : x = cc v) : MS G d mi_Rd_put [vr 2, vi x] M (fun r M' => r = none ∧ GdC t n m z c M0 M' k (cs ++ [v]) ∧ M' z 1 = ((c + cs.length + 1 : Nat) : Int)) := by
  have hz' := hz.2
  subst hx
  refine (c_Rd_put hd hz.1 (by omega) hl g.2.2.1 (by omega)).mono ?_
  rintro r M' _ ⟨rfl, rfl⟩
  exact ⟨rfl, g.code hz, up_eq _ _ _ _⟩
/-! behind a fault the class's reading changes nothing -/
theorem up_self {K : AM} {z y v : Int} (h : K z y = v) : up K z y v = K := by
  funext a b
  unfold up
  split
  · next e => rw [e.1, e.2]; exact h.symm
  · rfl
theorem c_Rd_refuse_g {w : Int} (h : M 2 0 ≠ 0) (h8 : M 2 8 = 23) : MS G d mi_Rd_refuse [vr 2, vi w] M (fun r M' => r = none ∧ M' = M) := by
  have := c_Rd_refuse_f (G := G) (d := d) (w := w) h
  rwa [up_self h8] at this
theorem c_Rd_word_g {x : Int} (hd : 1 ≤ d) (h : M 2 0 ≠ 0) (h8 : M 2 8 = 23) (hx : x ≠ 23) : MS G d mi_Rd_word [vr 2, vi x] M (fun r M' => r = none ∧ M' = M) := by
  have := c_Rd_word_f (G := G) hd h h8 hx
  rwa [up_self h8] at this
theorem c_Rd_sign_g {c : Int} (hd : 2 ≤ d) (h : M 2 0 ≠ 0) (h8 : M 2 8 = 23) (hcr : 0 ≤ c ∧ c < 256) : MS G d mi_Rd_sign [vr 2, vi c] M (fun r M' => r = none ∧ M' = M) := by
  have := c_Rd_sign_f (G := G) hd h h8 hcr
  rwa [up_self h8] at this
theorem c_Rd_atom_f {v : Int} (hd : 2 ≤ d) (h : M 2 0 ≠ 0) (h8 : M 2 8 = 23) : MS G d mi_Rd_atom [vr 2, vi v] M (fun r M' => r = none ∧ M' = M) := by
  have hr := c_Rd_refuse_g (G := G) (d := d - 1) (w := 2) h h8
  refine MS.run ck_Rd_atom [some (vr 2), some (vi v)] [] 14 fun _ _ => ?_
  simp only [wR, wB, wE0, wE1, wE2, wE3, g0, gS, s10, s11, s1S, s20, s21, s2S, kl0, kl1, kl2, kl3, sp0, sp1, sp2, sp3, cn1, cn2, cn3, cn4, cn5, cn6, jJa, lk0, lk1, jmS, jmN, s4_0, s4_1, s4_2, s4_3, s4_4, sw0, sw1, cKs, cKn, true_and, and_true, List.map_cons, List.map_nil, Nat.reduceAdd, Nat.zero_add, Int.reduceAdd, Nat.reduceEqDiff, reduceIte, Classical.not_not, b_Rd_atom, shH, h8, Int.reduceEq, not_true_eq_false, not_false_eq_true, false_imp_iff, true_imp_iff, and_self, Int.reduceLT, Int.reduceLE]
  (repeat' (first | omega | (with_reducible exact True.intro) | exact ⟨by omega, by omega⟩ | (with_reducible exact Or.inr trivial) | (with_reducible exact Or.inl trivial) | (with_reducible assumption) | (with_reducible exact Same.refl) | (with_reducible rfl) | (with_reducible refine And.intro ?_ ?_) | (with_reducible intro _)))
  refine MS.to hr fun _ => ?_
  simp only [wR, wB, wE0, wE1, wE2, wE3, g0, gS, s10, s11, s1S, s20, s21, s2S, kl0, kl1, kl2, kl3, sp0, sp1, sp2, sp3, cn1, cn2, cn3, cn4, cn5, cn6, jJa, lk0, lk1, jmS, jmN, s4_0, s4_1, s4_2, s4_3, s4_4, sw0, sw1, cKs, cKn, true_and, and_true, List.map_cons, List.map_nil, Nat.reduceAdd, Nat.zero_add, Int.reduceAdd, Nat.reduceEqDiff, reduceIte, Classical.not_not, b_Rd_atom, shH, Int.reduceEq, not_true_eq_false, not_false_eq_true, false_imp_iff, true_imp_iff, and_self]
theorem c_Rd_term_f {v : Int} (hd : 3 ≤ d) (h : M 2 0 ≠ 0) (h8 : M 2 8 = 23) : MS G d mi_Rd_term [vr 2, vi v] M (fun r M' => r = none ∧ M' = M) := by
  refine MS.run ck_Rd_term [some (vr 2), some (vi v), none] [] 14 fun _ _ => ?_
  simp only [wR, wB, wE0, wE1, wE2, wE3, g0, gS, s10, s11, s1S, s20, s21, s2S, kl0, kl1, kl2, kl3, sp0, sp1, sp2, sp3, cn1, cn2, cn3, cn4, cn5, cn6, jJa, lk0, lk1, jmS, jmN, s4_0, s4_1, s4_2, s4_3, s4_4, sw0, sw1, cKs, cKn, true_and, and_true, List.map_cons, List.map_nil, Nat.reduceAdd, Nat.zero_add, Int.reduceAdd, Nat.reduceEqDiff, reduceIte, Classical.not_not, b_Rd_term, shH]
  refine ⟨by omega, MS.to (c_Rd_atom_f (by omega) h h8) fun _ => ?_⟩
  simp only [wR, wB, wE0, wE1, wE2, wE3, g0, gS, s10, s11, s1S, s20, s21, s2S, kl0, kl1, kl2, kl3, sp0, sp1, sp2, sp3, cn1, cn2, cn3, cn4, cn5, cn6, jJa, lk0, lk1, jmS, jmN, s4_0, s4_1, s4_2, s4_3, s4_4, sw0, sw1, cKs, cKn, true_and, and_true, List.map_cons, List.map_nil, Nat.reduceAdd, Nat.zero_add, Int.reduceAdd, Nat.reduceEqDiff, reduceIte, Classical.not_not, b_Rd_term, shH, h8, Int.reduceEq, not_true_eq_false, not_false_eq_true, false_imp_iff, true_imp_iff, and_self]
  (repeat' (first | omega | (with_reducible exact True.intro) | exact ⟨by omega, by omega⟩ | (with_reducible exact Or.inr trivial) | (with_reducible exact Or.inl trivial) | (with_reducible assumption) | (with_reducible exact Same.refl) | (with_reducible rfl) | (with_reducible refine And.intro ?_ ?_) | (with_reducible intro _)))
theorem c_Rd_sum_f {v : Int} (hd : 4 ≤ d) (h : M 2 0 ≠ 0) (h8 : M 2 8 = 23) : MS G d mi_Rd_sum [vr 2, vi v] M (fun r M' => r = none ∧ M' = M) := by
  refine MS.run ck_Rd_sum [some (vr 2), some (vi v), none, none] [33] 14 fun _ _ => ?_
  simp only [wR, wB, wE0, wE1, wE2, wE3, g0, gS, s10, s11, s1S, s20, s21, s2S, kl0, kl1, kl2, kl3, sp0, sp1, sp2, sp3, cn1, cn2, cn3, cn4, cn5, cn6, jJa, lk0, lk1, jmS, jmN, s4_0, s4_1, s4_2, s4_3, s4_4, sw0, sw1, cKs, cKn, true_and, and_true, List.map_cons, List.map_nil, Nat.reduceAdd, Nat.zero_add, Int.reduceAdd, Nat.reduceEqDiff, reduceIte, Classical.not_not, b_Rd_sum, shH]
  refine ⟨by omega, MS.to (c_Rd_term_f (by omega) h h8) fun _ => ?_⟩
  simp only [wR, wB, wE0, wE1, wE2, wE3, g0, gS, s10, s11, s1S, s20, s21, s2S, kl0, kl1, kl2, kl3, sp0, sp1, sp2, sp3, cn1, cn2, cn3, cn4, cn5, cn6, jJa, lk0, lk1, jmS, jmN, s4_0, s4_1, s4_2, s4_3, s4_4, sw0, sw1, cKs, cKn, true_and, and_true, List.map_cons, List.map_nil, Nat.reduceAdd, Nat.zero_add, Int.reduceAdd, Nat.reduceEqDiff, reduceIte, Classical.not_not, b_Rd_sum, shH, h8, Int.reduceEq, not_true_eq_false, not_false_eq_true, false_imp_iff, true_imp_iff, and_self]
  (repeat' (first | omega | (with_reducible exact True.intro) | exact ⟨by omega, by omega⟩ | (with_reducible exact Or.inr trivial) | (with_reducible exact Or.inl trivial) | (with_reducible assumption) | (with_reducible exact Same.refl) | (with_reducible rfl) | (with_reducible refine And.intro ?_ ?_) | (with_reducible intro _)))
theorem c_Rd_comparison_f {v : Int} (hd : 5 ≤ d) (h : M 2 0 ≠ 0) (h8 : M 2 8 = 23) : MS G d mi_Rd_comparison [vr 2, vi v] M (fun r M' => r = none ∧ M' = M) := by
  have hr := c_Rd_refuse_g (G := G) (d := d - 1) (w := 2) h h8
  refine MS.run ck_Rd_comparison [some (vr 2), some (vi v), none] [59] 14 fun _ _ => ?_
  simp only [wR, wB, wE0, wE1, wE2, wE3, g0, gS, s10, s11, s1S, s20, s21, s2S, kl0, kl1, kl2, kl3, sp0, sp1, sp2, sp3, cn1, cn2, cn3, cn4, cn5, cn6, jJa, lk0, lk1, jmS, jmN, s4_0, s4_1, s4_2, s4_3, s4_4, sw0, sw1, cKs, cKn, true_and, and_true, List.map_cons, List.map_nil, Nat.reduceAdd, Nat.zero_add, Int.reduceAdd, Nat.reduceEqDiff, reduceIte, Classical.not_not, b_Rd_comparison, shH]
  refine ⟨by omega, MS.to (c_Rd_sum_f (by omega) h h8) fun _ => ?_⟩
  simp only [wR, wB, wE0, wE1, wE2, wE3, g0, gS, s10, s11, s1S, s20, s21, s2S, kl0, kl1, kl2, kl3, sp0, sp1, sp2, sp3, cn1, cn2, cn3, cn4, cn5, cn6, jJa, lk0, lk1, jmS, jmN, s4_0, s4_1, s4_2, s4_3, s4_4, sw0, sw1, cKs, cKn, true_and, and_true, List.map_cons, List.map_nil, Nat.reduceAdd, Nat.zero_add, Int.reduceAdd, Nat.reduceEqDiff, reduceIte, Classical.not_not, b_Rd_comparison, shH, h8, Int.reduceEq, not_true_eq_false, not_false_eq_true, false_imp_iff, true_imp_iff, and_self]
  refine ⟨by omega, MS.to hr fun _ => ?_⟩
  simp only [wR, wB, wE0, wE1, wE2, wE3, g0, gS, s10, s11, s1S, s20, s21, s2S, kl0, kl1, kl2, kl3, sp0, sp1, sp2, sp3, cn1, cn2, cn3, cn4, cn5, cn6, jJa, lk0, lk1, jmS, jmN, s4_0, s4_1, s4_2, s4_3, s4_4, sw0, sw1, cKs, cKn, true_and, and_true, List.map_cons, List.map_nil, Nat.reduceAdd, Nat.zero_add, Int.reduceAdd, Nat.reduceEqDiff, reduceIte, Classical.not_not, b_Rd_comparison, shH, h8, Int.reduceEq, not_true_eq_false, not_false_eq_true, false_imp_iff, true_imp_iff, and_self]
theorem c_Rd_unit_f {v : Int} (hd : 6 ≤ d) (h : M 2 0 ≠ 0) (h8 : M 2 8 = 23) : MS G d mi_Rd_unit [vr 2, vi v] M (fun r M' => r = none ∧ M' = M) := by
  refine MS.run ck_Rd_unit [some (vr 2), some (vi v)] [] 14 fun _ _ => ?_
  simp only [wR, wB, wE0, wE1, wE2, wE3, g0, gS, s10, s11, s1S, s20, s21, s2S, kl0, kl1, kl2, kl3, sp0, sp1, sp2, sp3, cn1, cn2, cn3, cn4, cn5, cn6, jJa, lk0, lk1, jmS, jmN, s4_0, s4_1, s4_2, s4_3, s4_4, sw0, sw1, cKs, cKn, true_and, and_true, List.map_cons, List.map_nil, Nat.reduceAdd, Nat.zero_add, Int.reduceAdd, Nat.reduceEqDiff, reduceIte, Classical.not_not, b_Rd_unit, shH, h8, Int.reduceEq, not_true_eq_false, not_false_eq_true, false_imp_iff, true_imp_iff, and_self]
  refine ⟨by omega, MS.to (c_Rd_comparison_f (by omega) h h8) fun _ => ?_⟩
  simp only [wR, wB, wE0, wE1, wE2, wE3, g0, gS, s10, s11, s1S, s20, s21, s2S, kl0, kl1, kl2, kl3, sp0, sp1, sp2, sp3, cn1, cn2, cn3, cn4, cn5, cn6, jJa, lk0, lk1, jmS, jmN, s4_0, s4_1, s4_2, s4_3, s4_4, sw0, sw1, cKs, cKn, true_and, and_true, List.map_cons, List.map_nil, Nat.reduceAdd, Nat.zero_add, Int.reduceAdd, Nat.reduceEqDiff, reduceIte, Classical.not_not, b_Rd_unit, shH, Int.reduceEq, not_true_eq_false, not_false_eq_true, false_imp_iff, true_imp_iff, and_self]
theorem c_Rd_both_f {v : Int} (hd : 7 ≤ d) (h : M 2 0 ≠ 0) (h8 : M 2 8 = 23) : MS G d mi_Rd_both [vr 2, vi v] M (fun r M' => r = none ∧ M' = M) := by
  refine MS.run ck_Rd_both [some (vr 2), some (vi v), none] [] 14 fun _ _ => ?_
  simp only [wR, wB, wE0, wE1, wE2, wE3, g0, gS, s10, s11, s1S, s20, s21, s2S, kl0, kl1, kl2, kl3, sp0, sp1, sp2, sp3, cn1, cn2, cn3, cn4, cn5, cn6, jJa, lk0, lk1, jmS, jmN, s4_0, s4_1, s4_2, s4_3, s4_4, sw0, sw1, cKs, cKn, true_and, and_true, List.map_cons, List.map_nil, Nat.reduceAdd, Nat.zero_add, Int.reduceAdd, Nat.reduceEqDiff, reduceIte, Classical.not_not, b_Rd_both, shH]
  refine ⟨by omega, MS.to (c_Rd_unit_f (by omega) h h8) fun _ => ?_⟩
  simp only [wR, wB, wE0, wE1, wE2, wE3, g0, gS, s10, s11, s1S, s20, s21, s2S, kl0, kl1, kl2, kl3, sp0, sp1, sp2, sp3, cn1, cn2, cn3, cn4, cn5, cn6, jJa, lk0, lk1, jmS, jmN, s4_0, s4_1, s4_2, s4_3, s4_4, sw0, sw1, cKs, cKn, true_and, and_true, List.map_cons, List.map_nil, Nat.reduceAdd, Nat.zero_add, Int.reduceAdd, Nat.reduceEqDiff, reduceIte, Classical.not_not, b_Rd_both, shH, h8, Int.reduceEq, not_true_eq_false, not_false_eq_true, false_imp_iff, true_imp_iff, and_self]
  (repeat' (first | omega | (with_reducible exact True.intro) | exact ⟨by omega, by omega⟩ | (with_reducible exact Or.inr trivial) | (with_reducible exact Or.inl trivial) | (with_reducible assumption) | (with_reducible exact Same.refl) | (with_reducible rfl) | (with_reducible refine And.intro ?_ ?_) | (with_reducible intro _)))
theorem c_Rd_truth_f {v : Int} (hd : 8 ≤ d) (h : M 2 0 ≠ 0) (h8 : M 2 8 = 23) : MS G d mi_Rd_truth [vr 2, vi v] M (fun r M' => r = none ∧ M' = M) := by
  refine MS.run ck_Rd_truth [some (vr 2), some (vi v), none] [] 14 fun _ _ => ?_
  simp only [wR, wB, wE0, wE1, wE2, wE3, g0, gS, s10, s11, s1S, s20, s21, s2S, kl0, kl1, kl2, kl3, sp0, sp1, sp2, sp3, cn1, cn2, cn3, cn4, cn5, cn6, jJa, lk0, lk1, jmS, jmN, s4_0, s4_1, s4_2, s4_3, s4_4, sw0, sw1, cKs, cKn, true_and, and_true, List.map_cons, List.map_nil, Nat.reduceAdd, Nat.zero_add, Int.reduceAdd, Nat.reduceEqDiff, reduceIte, Classical.not_not, b_Rd_truth, shH]
  refine ⟨by omega, MS.to (c_Rd_both_f (by omega) h h8) fun _ => ?_⟩
  simp only [wR, wB, wE0, wE1, wE2, wE3, g0, gS, s10, s11, s1S, s20, s21, s2S, kl0, kl1, kl2, kl3, sp0, sp1, sp2, sp3, cn1, cn2, cn3, cn4, cn5, cn6, jJa, lk0, lk1, jmS, jmN, s4_0, s4_1, s4_2, s4_3, s4_4, sw0, sw1, cKs, cKn, true_and, and_true, List.map_cons, List.map_nil, Nat.reduceAdd, Nat.zero_add, Int.reduceAdd, Nat.reduceEqDiff, reduceIte, Classical.not_not, b_Rd_truth, shH, h8, Int.reduceEq, not_true_eq_false, not_false_eq_true, false_imp_iff, true_imp_iff, and_self]
  (repeat' (first | omega | (with_reducible exact True.intro) | exact ⟨by omega, by omega⟩ | (with_reducible exact Or.inr trivial) | (with_reducible exact Or.inl trivial) | (with_reducible assumption) | (with_reducible exact Same.refl) | (with_reducible rfl) | (with_reducible refine And.intro ?_ ?_) | (with_reducible intro _)))
end QA
