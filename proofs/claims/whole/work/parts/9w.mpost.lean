section PK
variable {t : Nat → Nat} {n c k w : Nat} {M N K : AM} {cs : List Int}
theorem gdl {a b : List Int} {i : Nat} (h : i < a.length) : (a ++ b).getD i 0 = a.getD i 0 := by
  rw [List.getD_eq_getElem?_getD, List.getD_eq_getElem?_getD, List.getElem?_append_left h]
theorem gdr {a b : List Int} {i : Nat} (h : a.length ≤ i) : (a ++ b).getD i 0 = b.getD (i - a.length) 0 := by
  rw [List.getD_eq_getElem?_getD, List.getD_eq_getElem?_getD, List.getElem?_append_right h]
theorem rs_cases (r : Rs) : (∃ w k, r = Rs.bad w k) ∨ ∃ k cs, r = Rs.good k cs := by
  cases r with
  | inl x => exact Or.inl ⟨x.1, x.2, rfl⟩
  | inr x => exact Or.inr ⟨x.1, x.2, rfl⟩
theorem bad_bd {g : Nat → List Int → Rs} : (Rs.bad w k).bd g = Rs.bad w k := rfl
theorem good_bd {g : Nat → List Int → Rs} : (Rs.good k cs).bd g = g k cs := rfl
/-- what the model's reading may change -/
def FrM (M N : AM) : Prop := Same [117, 121] M N ∧ (∀ y : Int, y ≠ 6 → y ≠ 7 → y ≠ 9 → y ≠ 10 → y ≠ 11 → y ≠ 12 → N 117 y = M 117 y) ∧ ∀ y : Int, y < 152 → N 121 y = M 121 y
theorem FrM.refl : FrM M M := ⟨Same.refl, fun _ _ _ _ _ _ _ => rfl, fun _ _ => rfl⟩
theorem FrM.trans (h : FrM M N) (g : FrM N K) : FrM M K := ⟨fun x hx => (g.1 x hx).trans (h.1 x hx), fun y a b e f i j => (g.2.1 y a b e f i j).trans (h.2.1 y a b e f i j), fun y hy => (g.2.2 y hy).trans (h.2.2 y hy)⟩
theorem Fn.fr (h : Fn M N) : FrM M N := ⟨fun x hx => h.1 x (fun q => hx (by simp only [List.mem_cons, List.not_mem_nil, or_false] at q ⊢; omega)), fun y a b e f _ _ => h.2 y a b e f, fun y _ => by rw [h.1 121 (by simp)]⟩
def GdM (t : Nat → Nat) (n c : Nat) (M N : AM) (k : Nat) (cs : List Int) : Prop := FrM M N ∧ AtM N t n k ∧ N 121 152 = ((c + cs.length : Nat) : Int) ∧ (∀ i : Nat, i < c → N 121 (153 + (i : Int)) = M 121 (153 + (i : Int))) ∧ ∀ i : Nat, i < cs.length → N 121 (153 + ((c + i : Nat) : Int)) = cs.getD i 0
def BdM (t : Nat → Nat) (n : Nat) (M N : AM) (w k : Nat) : Prop := FrM M N ∧ N 117 11 = ((fkd (kin t n (pls t n (k))) w : Nat) : Int) ∧ N 117 12 = ((pls t n k : Nat) : Int) ∧ w ≠ 0
theorem BdM.ne (h : BdM t n M N w k) : N 117 11 ≠ 0 := by
  obtain ⟨_, h1, _, h2⟩ := h
  rw [h1]
  unfold fkd
  split <;> omega
def PoM (t : Nat → Nat) (n c : Nat) (M N : AM) (r : Rs) : Prop :=
  match r with
  | Sum.inl x => BdM t n M N x.1 x.2
  | Sum.inr x => GdM t n c M N x.1 x.2
theorem PoM.bad (h : PoM t n c M N (Rs.bad w k)) : BdM t n M N w k := h
theorem PoM.good (h : PoM t n c M N (Rs.good k cs)) : GdM t n c M N k cs := h
theorem BdM.po (h : BdM t n M N w k) : PoM t n c M N (Rs.bad w k) := h
theorem GdM.po (h : GdM t n c M N k cs) : PoM t n c M N (Rs.good k cs) := h
theorem GdM.refl (h : AtM M t n k) (hc : M 121 152 = (c : Int)) : GdM t n c M M k [] := ⟨FrM.refl, h, hc, fun _ _ => rfl, fun i hi => absurd hi (by simp)⟩
theorem BdM.of (g : FrM M N) (h : BdM t n N K w k) : BdM t n M K w k := ⟨g.trans h.1, h.2⟩
theorem GdM.step {k' : Nat} (g : GdM t n c M N k cs) (h : AtM K t n k') (hf : Fn N K) : GdM t n c M K k' cs := by
  obtain ⟨h1, h2, h3, h4, h5⟩ := g
  have e := hf.1 121 (by simp)
  exact ⟨h1.trans hf.fr, h, by rw [e]; exact h3, fun i hi => by rw [e]; exact h4 i hi, fun i hi => by rw [e]; exact h5 i hi⟩
theorem AtM.code {z y v : Int} (h : AtM M t n k) (hz : z = 121) : AtM (up M z y v) t n k := by
  subst hz
  obtain ⟨⟨a, b, c, e⟩, ⟨f, g, i, j⟩, l⟩ := h
  refine ⟨⟨by rw [up_ne1 (by omega)]; exact a, b, fun k hk => by rw [up_ne1 (by omega)]; exact c k hk, e⟩, ⟨by rw [up_ne1 (by omega)]; exact f, by rw [up_ne1 (by omega)]; exact g, fun q => by rw [up_ne1 (by omega)]; exact i q, fun q => by rw [up_ne1 (by omega)]; exact j q⟩, by rw [up_ne1 (by omega)]; exact l⟩
theorem FrM.code {x y v : Int} (h : FrM M N) (hy : 152 ≤ y) (hx : x = 121) : FrM M (up N x y v) := by
  subst hx
  refine ⟨fun x hx => ?_, fun y a b e f i j => by rw [up_ne1 (by omega)]; exact h.2.1 y a b e f i j, fun y hy => by rw [up_ne2 (by omega)]; exact h.2.2 y hy⟩
  have : x ≠ 121 := fun e => hx (by simp [e])
  rw [← h.1 x hx]
  funext y
  exact up_ne1 this
theorem GdM.code {v : Int} (g : GdM t n c M N k cs) : GdM t n c M (up (up N 121 (153 + ((c + cs.length : Nat) : Int)) v) 121 152 ((c + cs.length + 1 : Nat) : Int)) k (cs ++ [v]) := by
  obtain ⟨h1, h2, h3, h4, h5⟩ := g
  refine ⟨(h1.code (by omega) rfl).code (by omega) rfl, (h2.code rfl).code rfl, by rw [up_eq]; simp only [List.length_append, List.length_cons, List.length_nil]; omega, fun i hi => ?_, fun i hi => ?_⟩
  · rw [up_ne2 (by omega), up_ne2 (by omega)]; exact h4 i hi
  · simp only [List.length_append, List.length_cons, List.length_nil] at hi
    rw [up_ne2 (by omega)]
    by_cases q : i < cs.length
    · rw [up_ne2 (by omega), h5 i q, gdl q]
    · rw [show i = cs.length by omega, up_eq, gdr (Nat.le_refl _), Nat.sub_self]
      rfl
theorem GdM.seq {k' : Nat} {cs' : List Int} (g : GdM t n c M N k cs) (h : GdM t n (c + cs.length) N K k' cs') : GdM t n c M K k' (cs ++ cs') := by
  obtain ⟨h1, h2, h3, h4, h5⟩ := g
  obtain ⟨g1, g2, g3, g4, g5⟩ := h
  refine ⟨h1.trans g1, g2, by rw [g3, List.length_append]; omega, fun i hi => by rw [g4 i (by omega)]; exact h4 i hi, fun i hi => ?_⟩
  rw [List.length_append] at hi
  by_cases q : i < cs.length
  · rw [g4 (c + i) (by omega), h5 i q, gdl q]
  · rw [gdr (show cs.length ≤ i by omega), ← g5 (i - cs.length) (by omega)]
    rw [show c + cs.length + (i - cs.length) = c + i by omega]
theorem PoM.seq {r : Rs} (g : GdM t n c M N k cs) (h : PoM t n (c + cs.length) N K r) : PoM t n c M K (r.bd fun k2 c2 => Rs.good k2 (cs ++ c2)) := by
  rcases rs_cases r with ⟨w, k', rfl⟩ | ⟨k', cs', rfl⟩
  · exact BdM.of g.1 h.bad
  · exact g.seq h.good
theorem PoM.seqx {r : Rs} {x : Int} {c' : Nat} (g : GdM t n c M N k (cs ++ [x])) (hc : c' = c + cs.length + 1) (h : PoM t n c' N K r) : PoM t n c M K (r.bd fun k2 c2 => Rs.good k2 (cs ++ x :: c2)) := by
  have e : c' = c + (cs ++ [x]).length := by simp only [List.length_append, List.length_cons, List.length_nil]; omega
  subst e
  rcases rs_cases r with ⟨w, k', rfl⟩ | ⟨k', cs', rfl⟩
  · exact BdM.of g.1 h.bad
  · have := g.seq h.good
    rw [List.append_assoc] at this
    exact this
theorem BdM.mk' {k : Nat} (hf : FrM M N) (hw : w ≠ 0) : BdM t n M (up (up N 117 11 ((fkd (kin t n (pls t n (k))) w : Nat) : Int)) 117 12 ((pls t n k : Nat) : Int)) w k := by
  refine ⟨⟨fun x hx => ?_, fun y a b e f i j => by rw [up_ne2 (by omega), up_ne2 (by omega)]; exact hf.2.1 y a b e f i j, fun y hy => by rw [up_ne1 (by omega), up_ne1 (by omega)]; exact hf.2.2 y hy⟩, by rw [up_ne2 (by omega), up_eq], up_eq _ _ _ _, hw⟩
  have : x ≠ 117 := fun e => hx (by simp [e])
  rw [← hf.1 x hx]
  funext y
  rw [up_ne1 this, up_ne1 this]
theorem kn_lt (h : kin t n (pls t n (k)) ≠ 24) : k < n := by
  have := kin_lt h
  have := pls_ge (t := t) (n := n) k
  omega
/-- where codes can lie -/
theorem AtM.n9 (h : AtM M t n k) : n ≤ 900 := h.1.2.1
end PK
