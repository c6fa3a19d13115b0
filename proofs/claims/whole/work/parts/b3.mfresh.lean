section SC
def stA (A : Int → Int) (i v : Int) : Int → Int := fun y => if y = i then v else A y
theorem up_stA {M : AM} {z i v : Int} : up M z i v z = stA (M z) i v := by
  funext y
  unfold stA
  rw [up_rd]
  by_cases q : y = i
  · rw [if_pos ⟨rfl, q⟩, if_pos q]
  · rw [if_neg (fun e => q e.2), if_neg q]
theorem stA_ne {A : Int → Int} {i v y : Int} (h : y ≠ i) : stA A i v y = A y := if_neg h
theorem stA_eq {A : Int → Int} {i v : Int} : stA A i v i = v := if_pos rfl
def LwF (A : Int → Int) (l n : Nat) (code : Nat → Int) (c : Nat) : Prop := A (3 + (l : Int)) = (if n = 0 then 0 else 1) ∧ (n ≠ 0 → ∃ f : Nat, A (5 + (l : Int)) = f ∧ A (7 + (l : Int)) = n ∧ f + n ≤ c ∧ ∀ k : Nat, k < n → A (153 + (f : Int) + k) = code k)
variable {A B : Int → Int} {l n c c' pp : Nat} {code : Nat → Int} {h : Hl} {m : Mo}
theorem LwF.eq (H : LwF A l n code c) (hc : c ≤ c') (h3 : B (3 + (l : Int)) = A (3 + (l : Int))) (h5 : B (5 + (l : Int)) = A (5 + (l : Int))) (h7 : B (7 + (l : Int)) = A (7 + (l : Int))) (h2 : ∀ y : Int, 153 ≤ y → y < 153 + c → B y = A y) : LwF B l n code c' := by
  obtain ⟨a, b⟩ := H
  refine ⟨by rw [h3]; exact a, fun q => ?_⟩
  obtain ⟨f, b1, b2, b3, b4⟩ := b q
  refine ⟨f, by rw [h5]; exact b1, by rw [h7]; exact b2, by omega, fun k hk => ?_⟩
  rw [h2 _ (by omega) (by omega)]
  exact b4 k hk
theorem LwF.st {i v : Int} (H : LwF A l n code c) (hl : l ≤ 1) (hi : i < 3 ∨ 8 < i) (hi2 : i < 153) : LwF (stA A i v) l n code c :=
  H.eq (Nat.le_refl _) (stA_ne (by omega)) (stA_ne (by omega)) (stA_ne (by omega)) (fun y h1 h2 => stA_ne (by omega))
/-- a hall in the model's fresh row -/
def MF (A : Int → Int) (h : Hl) (m : Mo) (c pp : Nat) : Prop := (A 0 = h.lines ∧ A 1 = pp ∧ A 2 = h.must) ∧ (∀ p : Nat, p < h.P → A (9 + (p : Int)) = h.wt p ∧ A (14 + (p : Int)) = h.rd p ∧ A (19 + (p : Int)) = m.sd p ∧ A (24 + (p : Int)) = m.st p) ∧ (∀ p : Nat, h.P ≤ p → p < 5 → A (14 + (p : Int)) = 0) ∧ (A 29 = m.cold ∧ A 30 = 0 ∧ A 31 = 0) ∧ LwF A 0 h.tN h.tC c ∧ LwF A 1 h.cN h.cC c ∧ A 152 = c
theorem MF.must {x : Nat} (hP : h.P ≤ 5) (H : MF A h m c pp) : MF (stA A 2 x) (h.sMust x) m c pp := by
  obtain ⟨⟨a0, a1, a2⟩, b, e, ⟨f1, f2, f3⟩, g0', g1, i⟩ := H
  refine ⟨⟨?_, ?_, stA_eq⟩, fun p hp => ?_, fun p h1 h2 => ?_, ⟨?_, ?_, ?_⟩, g0'.st (by omega) (by omega) (by omega), g1.st (by omega) (by omega) (by omega), ?_⟩
  case refine_3 =>
    have hp' : p < h.P := hp
    rw [stA_ne (by omega), stA_ne (by omega), stA_ne (by omega), stA_ne (by omega)]
    exact b p hp
  all_goals rw [stA_ne (by omega)]
  · exact a0
  · exact a1
  · exact e p h1 h2
  · exact f1
  · exact f2
  · exact f3
  · exact i
theorem MF.line (hP : h.P ≤ 5) (H : MF A h m c pp) : MF (stA A 0 ((h.lines + 1 : Nat) : Int)) h.sLine m c pp := by
  obtain ⟨⟨a0, a1, a2⟩, b, e, ⟨f1, f2, f3⟩, g0', g1, i⟩ := H
  refine ⟨⟨stA_eq, ?_, ?_⟩, fun p hp => ?_, fun p h1 h2 => ?_, ⟨?_, ?_, ?_⟩, g0'.st (by omega) (by omega) (by omega), g1.st (by omega) (by omega) (by omega), ?_⟩
  case refine_3 =>
    have hp' : p < h.P := hp
    rw [stA_ne (by omega), stA_ne (by omega), stA_ne (by omega), stA_ne (by omega)]
    exact b p hp
  all_goals rw [stA_ne (by omega)]
  · exact a1
  · exact a2
  · exact e p h1 h2
  · exact f1
  · exact f2
  · exact f3
  · exact i
theorem MF.setP {p' : Nat} (hP : h.P ≤ 5) (H : MF A h m c pp) : MF (stA A 1 (p' : Int)) h m c p' := by
  obtain ⟨⟨a0, a1, a2⟩, b, e, ⟨f1, f2, f3⟩, g0', g1, i⟩ := H
  refine ⟨⟨?_, stA_eq, ?_⟩, fun p hp => ?_, fun p h1 h2 => ?_, ⟨?_, ?_, ?_⟩, g0'.st (by omega) (by omega) (by omega), g1.st (by omega) (by omega) (by omega), ?_⟩
  case refine_3 =>
    have hp' : p < h.P := hp
    rw [stA_ne (by omega), stA_ne (by omega), stA_ne (by omega), stA_ne (by omega)]
    exact b p hp
  all_goals rw [stA_ne (by omega)]
  · exact a0
  · exact a2
  · exact e p h1 h2
  · exact f1
  · exact f2
  · exact f3
  · exact i
theorem MF.cold {x : Nat} (hP : h.P ≤ 5) (H : MF A h m c pp) : MF (stA A 29 (x : Int)) h (m.chill x) c pp := by
  obtain ⟨⟨a0, a1, a2⟩, b, e, ⟨f1, f2, f3⟩, g0', g1, i⟩ := H
  refine ⟨⟨?_, ?_, ?_⟩, fun p hp => ?_, fun p h1 h2 => ?_, ⟨stA_eq, ?_, ?_⟩, g0'.st (by omega) (by omega) (by omega), g1.st (by omega) (by omega) (by omega), ?_⟩
  case refine_4 =>
    have hp' : p < h.P := hp
    rw [stA_ne (by omega), stA_ne (by omega), stA_ne (by omega), stA_ne (by omega)]
    exact b p hp
  all_goals rw [stA_ne (by omega)]
  · exact a0
  · exact a1
  · exact a2
  · exact e p h1 h2
  · exact f2
  · exact f3
  · exact i
theorem MF.add {x : Nat} (hP : h.P < 5) (H : MF A h m c pp) : MF (stA (stA (stA A (19 + (h.P : Int)) x) (24 + (h.P : Int)) 4) (9 + (h.P : Int)) 1) h.sAdd (m.sAdd h.P x) c pp := by
  obtain ⟨⟨a0, a1, a2⟩, b, e, ⟨f1, f2, f3⟩, g0', g1, i⟩ := H
  refine ⟨⟨?_, ?_, ?_⟩, fun p hp => ?_, fun p h1 h2 => ?_, ⟨?_, ?_, ?_⟩, ((g0'.st (by omega) (by omega) (by omega)).st (by omega) (by omega) (by omega)).st (by omega) (by omega) (by omega), ((g1.st (by omega) (by omega) (by omega)).st (by omega) (by omega) (by omega)).st (by omega) (by omega) (by omega), ?_⟩
  case refine_4 =>
    have hp' : p < h.P + 1 := hp
    by_cases q : p = h.P
    · subst q
      refine ⟨?_, ?_, ?_, ?_⟩
      · rw [stA_eq]; show (1 : Int) = ((if h.P = h.P then 1 else _ : Nat) : Int); rw [if_pos rfl]; rfl
      · rw [stA_ne (by omega), stA_ne (by omega), stA_ne (by omega), e _ (Nat.le_refl _) hP]; show (0 : Int) = ((if h.P = h.P then 0 else _ : Nat) : Int); rw [if_pos rfl]; rfl
      · rw [stA_ne (by omega), stA_ne (by omega), stA_eq]; show (x : Int) = ((if h.P = h.P then x else _ : Nat) : Int); rw [if_pos rfl]
      · rw [stA_ne (by omega), stA_eq]; show (4 : Int) = ((if h.P = h.P then 4 else _ : Nat) : Int); rw [if_pos rfl]; rfl
    · obtain ⟨b1, b2, b3, b4⟩ := b p (by omega)
      refine ⟨?_, ?_, ?_, ?_⟩
      · rw [stA_ne (by omega), stA_ne (by omega), stA_ne (by omega), b1]; show _ = ((if p = h.P then 1 else h.wt p : Nat) : Int); rw [if_neg q]
      · rw [stA_ne (by omega), stA_ne (by omega), stA_ne (by omega), b2]; show _ = ((if p = h.P then 0 else h.rd p : Nat) : Int); rw [if_neg q]
      · rw [stA_ne (by omega), stA_ne (by omega), stA_ne (by omega), b3]; show _ = ((if p = h.P then x else m.sd p : Nat) : Int); rw [if_neg q]
      · rw [stA_ne (by omega), stA_ne (by omega), stA_ne (by omega), b4]; show _ = ((if p = h.P then 4 else m.st p : Nat) : Int); rw [if_neg q]
  case refine_5 =>
    have h1' : h.P + 1 ≤ p := h1
    rw [stA_ne (by omega), stA_ne (by omega), stA_ne (by omega)]
    exact e p (by omega) h2
  all_goals rw [stA_ne (by omega), stA_ne (by omega), stA_ne (by omega)]
  · exact a0
  · exact a1
  · exact a2
  · exact f1
  · exact f2
  · exact f3
  · exact i
theorem MF.wt {p x : Nat} (hP : h.P ≤ 5) (hp : p < h.P) (H : MF A h m c pp) : MF (stA A (9 + (p : Int)) x) (h.sWt p x) m c pp := by
  obtain ⟨⟨a0, a1, a2⟩, b, e, ⟨f1, f2, f3⟩, g0', g1, i⟩ := H
  refine ⟨⟨?_, ?_, ?_⟩, fun q hq => ?_, fun q h1 h2 => ?_, ⟨?_, ?_, ?_⟩, g0'.st (by omega) (by omega) (by omega), g1.st (by omega) (by omega) (by omega), ?_⟩
  case refine_4 =>
    have hq' : q < h.P := hq
    obtain ⟨b1, b2, b3, b4⟩ := b q hq
    refine ⟨?_, by rw [stA_ne (by omega)]; exact b2, by rw [stA_ne (by omega)]; exact b3, by rw [stA_ne (by omega)]; exact b4⟩
    show _ = ((if q = p then x else h.wt q : Nat) : Int)
    by_cases e' : q = p
    · rw [e', stA_eq, if_pos rfl]
    · rw [stA_ne (by omega), if_neg e']; exact b1
  all_goals rw [stA_ne (by omega)]
  · exact a0
  · exact a1
  · exact a2
  · exact e q h1 h2
  · exact f1
  · exact f2
  · exact f3
  · exact i
theorem MF.strn {p x : Nat} (hP : h.P ≤ 5) (hp : p < h.P) (H : MF A h m c pp) : MF (stA A (24 + (p : Int)) x) h (m.sSt p x) c pp := by
  obtain ⟨⟨a0, a1, a2⟩, b, e, ⟨f1, f2, f3⟩, g0', g1, i⟩ := H
  refine ⟨⟨?_, ?_, ?_⟩, fun q hq => ?_, fun q h1 h2 => ?_, ⟨?_, ?_, ?_⟩, g0'.st (by omega) (by omega) (by omega), g1.st (by omega) (by omega) (by omega), ?_⟩
  case refine_4 =>
    obtain ⟨b1, b2, b3, b4⟩ := b q hq
    refine ⟨by rw [stA_ne (by omega)]; exact b1, by rw [stA_ne (by omega)]; exact b2, by rw [stA_ne (by omega)]; exact b3, ?_⟩
    show _ = ((if q = p then x else m.st q : Nat) : Int)
    by_cases e' : q = p
    · rw [e', stA_eq, if_pos rfl]
    · rw [stA_ne (by omega), if_neg e']; exact b4
  all_goals rw [stA_ne (by omega)]
  · exact a0
  · exact a1
  · exact a2
  · exact e q h1 h2
  · exact f1
  · exact f2
  · exact f3
  · exact i
theorem MF.rod {p : Nat} (hP : h.P ≤ 5) (hp : p < h.P) (H : MF A h m c pp) : MF (stA A (14 + (p : Int)) 1) (h.sRd p) m c pp := by
  obtain ⟨⟨a0, a1, a2⟩, b, e, ⟨f1, f2, f3⟩, g0', g1, i⟩ := H
  refine ⟨⟨?_, ?_, ?_⟩, fun q hq => ?_, fun q h1 h2 => ?_, ⟨?_, ?_, ?_⟩, g0'.st (by omega) (by omega) (by omega), g1.st (by omega) (by omega) (by omega), ?_⟩
  case refine_4 =>
    have hq' : q < h.P := hq
    obtain ⟨b1, b2, b3, b4⟩ := b q hq
    refine ⟨by rw [stA_ne (by omega)]; exact b1, ?_, by rw [stA_ne (by omega)]; exact b3, by rw [stA_ne (by omega)]; exact b4⟩
    show _ = ((if q = p then 1 else h.rd q : Nat) : Int)
    by_cases e' : q = p
    · rw [e', stA_eq, if_pos rfl]; rfl
    · rw [stA_ne (by omega), if_neg e']; exact b2
  case refine_5 =>
    have h1' : h.P ≤ q := h1
    rw [stA_ne (by omega)]
    exact e q h1 h2
  all_goals rw [stA_ne (by omega)]
  · exact a0
  · exact a1
  · exact a2
  · exact f1
  · exact f2
  · exact f3
  · exact i
/-- a law read into the fresh row -/
theorem MF.law {cs : List Int} {l : Nat} (hl : l ≤ 1) (hn : cs.length ≠ 0) (hP : h.P ≤ 5) (H : MF A h m c pp) (hs : ∀ y : Int, y < 152 → B y = A y) (h152 : B 152 = ((c + cs.length : Nat) : Int)) (hk : ∀ i : Nat, i < c → B (153 + (i : Int)) = A (153 + (i : Int))) (hcs : ∀ i : Nat, i < cs.length → B (153 + ((c + i : Nat) : Int)) = cs.getD i 0) : MF (stA (stA (stA B (3 + (l : Int)) 1) (5 + (l : Int)) (c : Int)) (7 + (l : Int)) ((cs.length : Nat) : Int)) (if l = 0 then h.sT cs else h.sC cs) m (c + cs.length) pp := by
  obtain ⟨⟨a0, a1, a2⟩, b, e, ⟨f1, f2, f3⟩, g0', g1, i⟩ := H
  have old : ∀ {l' n' : Nat} {code' : Nat → Int}, l' ≤ 1 → l' ≠ l → LwF A l' n' code' c → LwF (stA (stA (stA B (3 + (l : Int)) 1) (5 + (l : Int)) (c : Int)) (7 + (l : Int)) ((cs.length : Nat) : Int)) l' n' code' (c + cs.length) := by
    intro l' n' code' h1 h2 H
    refine H.eq (by omega) ?_ ?_ ?_ (fun y h1 h2 => ?_)
    · rw [stA_ne (by omega), stA_ne (by omega), stA_ne (by omega), hs _ (by omega)]
    · rw [stA_ne (by omega), stA_ne (by omega), stA_ne (by omega), hs _ (by omega)]
    · rw [stA_ne (by omega), stA_ne (by omega), stA_ne (by omega), hs _ (by omega)]
    · rw [stA_ne (by omega), stA_ne (by omega), stA_ne (by omega)]
      have := hk (y - 153).toNat (by omega)
      rwa [show 153 + ((y - 153).toNat : Int) = y by omega] at this
  have new : LwF (stA (stA (stA B (3 + (l : Int)) 1) (5 + (l : Int)) (c : Int)) (7 + (l : Int)) ((cs.length : Nat) : Int)) l cs.length (fun i => cs.getD i 0) (c + cs.length) := by
    refine ⟨?_, fun _ => ⟨c, ?_, stA_eq, Nat.le_refl _, fun k hk' => ?_⟩⟩
    · rw [stA_ne (by omega), stA_ne (by omega), stA_eq, if_neg hn]
    · rw [stA_ne (by omega), stA_eq]
    · rw [stA_ne (by omega), stA_ne (by omega), stA_ne (by omega), show 153 + (c : Int) + k = 153 + ((c + k : Nat) : Int) by omega]
      exact hcs k hk'
  have com : ∀ y : Int, y < 3 ∨ (8 < y ∧ y < 152) → stA (stA (stA B (3 + (l : Int)) 1) (5 + (l : Int)) (c : Int)) (7 + (l : Int)) ((cs.length : Nat) : Int) y = A y := by
    intro y hy
    rw [stA_ne (by omega), stA_ne (by omega), stA_ne (by omega), hs _ (by omega)]
  have c152 : stA (stA (stA B (3 + (l : Int)) 1) (5 + (l : Int)) (c : Int)) (7 + (l : Int)) ((cs.length : Nat) : Int) 152 = ((c + cs.length : Nat) : Int) := by
    rw [stA_ne (by omega), stA_ne (by omega), stA_ne (by omega)]
    exact h152
  rcases (show l = 0 ∨ l = 1 by omega) with rfl | rfl
  · rw [if_pos rfl]
    refine ⟨⟨?_, ?_, ?_⟩, fun p hp => ?_, fun p h1 h2 => ?_, ⟨?_, ?_, ?_⟩, new, old (by omega) (by omega) g1, c152⟩
    · rw [com _ (by omega)]; exact a0
    · rw [com _ (by omega)]; exact a1
    · rw [com _ (by omega)]; exact a2
    · have hp' : p < h.P := hp
      rw [com _ (by omega), com _ (by omega), com _ (by omega), com _ (by omega)]; exact b p hp
    · rw [com _ (by omega)]; exact e p h1 h2
    · rw [com _ (by omega)]; exact f1
    · rw [com _ (by omega)]; exact f2
    · rw [com _ (by omega)]; exact f3
  · rw [if_neg (by omega)]
    refine ⟨⟨?_, ?_, ?_⟩, fun p hp => ?_, fun p h1 h2 => ?_, ⟨?_, ?_, ?_⟩, old (by omega) (by omega) g0', new, c152⟩
    · rw [com _ (by omega)]; exact a0
    · rw [com _ (by omega)]; exact a1
    · rw [com _ (by omega)]; exact a2
    · have hp' : p < h.P := hp
      rw [com _ (by omega), com _ (by omega), com _ (by omega), com _ (by omega)]; exact b p hp
    · rw [com _ (by omega)]; exact e p h1 h2
    · rw [com _ (by omega)]; exact f1
    · rw [com _ (by omega)]; exact f2
    · rw [com _ (by omega)]; exact f3
end SC
