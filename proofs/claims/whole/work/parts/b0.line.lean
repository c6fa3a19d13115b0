section SA
/-! the lines of a hall, told -/
def hl0 : Hl := (0, 1, 0, fun _ => 0, fun _ => 0, (0, fun _ => 0), 0, fun _ => 0)
def mo0 : Mo := (fun _ => 0, fun _ => 0, 0, 0)
def Hl.sMust (h : Hl) (x : Nat) : Hl := (h.P, x, h.lines, h.wt, h.rd, (h.tN, h.tC), h.cN, h.cC)
def Hl.sLine (h : Hl) : Hl := (h.P, h.must, h.lines + 1, h.wt, h.rd, (h.tN, h.tC), h.cN, h.cC)
def Hl.sAdd (h : Hl) : Hl := (h.P + 1, h.must, h.lines, fun q => if q = h.P then 1 else h.wt q, fun q => if q = h.P then 0 else h.rd q, (h.tN, h.tC), h.cN, h.cC)
def Hl.sWt (h : Hl) (p x : Nat) : Hl := (h.P, h.must, h.lines, fun q => if q = p then x else h.wt q, h.rd, (h.tN, h.tC), h.cN, h.cC)
def Hl.sRd (h : Hl) (p : Nat) : Hl := (h.P, h.must, h.lines, h.wt, fun q => if q = p then 1 else h.rd q, (h.tN, h.tC), h.cN, h.cC)
def Hl.sT (h : Hl) (cs : List Int) : Hl := (h.P, h.must, h.lines, h.wt, h.rd, (cs.length, fun i => cs.getD i 0), h.cN, h.cC)
def Hl.sC (h : Hl) (cs : List Int) : Hl := (h.P, h.must, h.lines, h.wt, h.rd, (h.tN, h.tC), cs.length, fun i => cs.getD i 0)
def Mo.sAdd (m : Mo) (p x : Nat) : Mo := (fun q => if q = p then x else m.sd q, fun q => if q = p then 4 else m.st q, m.cold, m.hrs)
def Mo.sSt (m : Mo) (p x : Nat) : Mo := (m.sd, fun q => if q = p then x else m.st q, m.cold, m.hrs)
def Rz : Type := Sum (Nat × Nat) (Nat × Hl × Mo)
def Rz.bad (w k : Nat) : Rz := Sum.inl (w, k)
def Rz.good (k : Nat) (h : Hl) (m : Mo) : Rz := Sum.inr (k, h, m)
def Rz.bz (r : Rz) (g : Nat → Hl → Mo → Rz) : Rz :=
  match r with
  | Sum.inl x => Sum.inl x
  | Sum.inr x => g x.1 x.2.1 x.2.2
def Rs.lz (r : Rs) (g : Nat → List Int → Rz) : Rz :=
  match r with
  | Sum.inl x => Sum.inl x
  | Sum.inr x => g x.1 x.2
/-- a number, at most so great -/
noncomputable def nuZ (t : Nat → Nat) (n most k : Nat) (g : Nat → Rz) : Rz := if kin t n (pls t n (k)) = 23 then (if vlu t (pls t n (k)) (tEnd t n (pls t n (k)) - pls t n (k)) ≤ (most : Int) then g (vlu t (pls t n (k)) (tEnd t n (pls t n (k)) - pls t n (k))).toNat else Rz.bad 3 k) else Rz.bad 2 k
noncomputable def FL (t : Nat → Nat) (n : Nat) : Nat → Nat → Nat → Hl → Mo → Rz
  | 0, _, k, _, _ => Rz.bad 0 k
  | f + 1, p, k, h, m => if kin t n (pls t n (k)) = 4 then nuZ t n 4 (k + 1) (fun x => FL t n f p (k + 2) h (m.sSt p x)) else if kin t n (pls t n (k)) = 5 then nuZ t n 9 (k + 1) (fun x => FL t n f p (k + 2) (h.sWt p x) m) else if kin t n (pls t n (k)) = 6 then FL t n f p (k + 1) (h.sRd p) m else Rz.good k h m
noncomputable def LIp (t : Nat → Nat) (n F k : Nat) (h : Hl) (m : Mo) : Rz := if h.P = 5 then Rz.bad 4 k else if kin t n (pls t n (k + 1)) = 3 then nuZ t n 1 (k + 2) (fun x => FL t n F h.P (k + 3) h.sAdd (m.sAdd h.P x)) else Rz.bad 2 (k + 1)
noncomputable def LIt (t : Nat → Nat) (n F k : Nat) (h : Hl) (m : Mo) : Rz := if kin t n (pls t n (k + 1)) = 31 then (PR t n 0 F 0 0 (k + 2)).lz (fun k' cs => Rz.good k' (h.sT cs) m) else Rz.bad 2 (k + 1)
noncomputable def LIc (t : Nat → Nat) (n F k : Nat) (h : Hl) (m : Mo) : Rz := if kin t n (pls t n (k + 1)) = 31 then (PR t n 1 F 5 0 (k + 2)).lz (fun k' cs => Rz.good k' (h.sC cs) m) else Rz.bad 2 (k + 1)
noncomputable def LI (t : Nat → Nat) (n F k : Nat) (h : Hl) (m : Mo) : Rz := if kin t n (pls t n (k)) = 2 then LIp t n F k h m else if kin t n (pls t n (k)) = 7 then nuZ t n 9 (k + 1) (fun x => Rz.good (k + 2) h (m.chill x)) else if kin t n (pls t n (k)) = 8 then LIt t n F k h m else if kin t n (pls t n (k)) = 9 then LIc t n F k h m else Rz.bad 2 k
noncomputable def LNS (t : Nat → Nat) (n F : Nat) : Nat → Nat → Hl → Mo → Rz
  | 0, k, _, _ => Rz.bad 0 k
  | f + 1, k, h, m => if kin t n (pls t n (k)) = 24 then Rz.good k h m else (LI t n F k h m).bz (fun k1 h1 m1 => if kin t n (pls t n (k1)) = 30 then LNS t n F f (k1 + 1) h1.sLine m1 else Rz.bad 2 k1)
noncomputable def HA (t : Nat → Nat) (n F : Nat) : Rz := if kin t n (pls t n (0)) = 0 then (if kin t n (pls t n (1)) = 1 then nuZ t n 5 2 (fun x => if kin t n (pls t n (3)) = 30 then LNS t n F F 4 ((hl0.sMust x).sLine) mo0 else Rz.bad 2 3) else Rz.bad 2 1) else Rz.bad 2 0
variable {t : Nat → Nat} {n F : Nat}
theorem FL_s {f p k : Nat} {h : Hl} {m : Mo} : FL t n (f + 1) p k h m = if kin t n (pls t n (k)) = 4 then nuZ t n 4 (k + 1) (fun x => FL t n f p (k + 2) h (m.sSt p x)) else if kin t n (pls t n (k)) = 5 then nuZ t n 9 (k + 1) (fun x => FL t n f p (k + 2) (h.sWt p x) m) else if kin t n (pls t n (k)) = 6 then FL t n f p (k + 1) (h.sRd p) m else Rz.good k h m := rfl
theorem LNS_s {f k : Nat} {h : Hl} {m : Mo} : LNS t n F (f + 1) k h m = if kin t n (pls t n (k)) = 24 then Rz.good k h m else (LI t n F k h m).bz (fun k1 h1 m1 => if kin t n (pls t n (k1)) = 30 then LNS t n F f (k1 + 1) h1.sLine m1 else Rz.bad 2 k1) := rfl
theorem rz_cases (r : Rz) : (∃ w k, r = Rz.bad w k) ∨ ∃ k h m, r = Rz.good k h m := by
  cases r with
  | inl x => exact Or.inl ⟨x.1, x.2, rfl⟩
  | inr x => exact Or.inr ⟨x.1, x.2.1, x.2.2, rfl⟩
theorem zgood_inj {k k' : Nat} {h h' : Hl} {m m' : Mo} (e : Rz.good k h m = Rz.good k' h' m') : k = k' ∧ h = h' ∧ m = m' := by
  cases e
  exact ⟨rfl, rfl, rfl⟩
theorem zbad_good {w k k' : Nat} {h : Hl} {m : Mo} (e : Rz.bad w k = Rz.good k' h m) : False := by cases e
theorem bz_good {r : Rz} {g : Nat → Hl → Mo → Rz} {k : Nat} {h : Hl} {m : Mo} (e : r.bz g = Rz.good k h m) : ∃ k1 h1 m1, r = Rz.good k1 h1 m1 ∧ g k1 h1 m1 = Rz.good k h m := by
  rcases rz_cases r with ⟨w, k1, rfl⟩ | ⟨k1, h1, m1, rfl⟩
  · cases e
  · exact ⟨k1, h1, m1, rfl, e⟩
theorem lz_good {r : Rs} {g : Nat → List Int → Rz} {k : Nat} {h : Hl} {m : Mo} (e : r.lz g = Rz.good k h m) : ∃ k1 cs, r = Rs.good k1 cs ∧ g k1 cs = Rz.good k h m := by
  rcases rs_cases r with ⟨w, k1, rfl⟩ | ⟨k1, cs, rfl⟩
  · cases e
  · exact ⟨k1, cs, rfl, e⟩
theorem nu_good {most k k' : Nat} {g : Nat → Rz} {h : Hl} {m : Mo} (e : nuZ t n most k g = Rz.good k' h m) : kin t n (pls t n (k)) = 23 ∧ ∃ x : Nat, x ≤ most ∧ vlu t (pls t n (k)) (tEnd t n (pls t n (k)) - pls t n (k)) = (x : Int) ∧ g x = Rz.good k' h m := by
  unfold nuZ at e
  split at e
  · next q =>
    split at e
    · next q2 =>
      have := vn_b q
      exact ⟨q, (vlu t (pls t n (k)) (tEnd t n (pls t n (k)) - pls t n (k))).toNat, by omega, by omega, e⟩
    · cases e
  · cases e
/-- not cut short by want of fuel -/
def okZ (r : Rz) : Prop := ∀ k, r ≠ Rz.bad 0 k
theorem okZ.gd {k : Nat} {h : Hl} {m : Mo} : okZ (Rz.good k h m) := fun j e => by cases e
theorem okZ.bdd {k w : Nat} (h : w ≠ 0) : okZ (Rz.bad w k) := fun j e => by
  unfold Rz.bad at e
  cases e
  exact h rfl
theorem okZ.bz {r : Rz} {g : Nat → Hl → Mo → Rz} (h : okZ (r.bz g)) : okZ r := fun k e => by subst e; exact h k rfl
theorem okZ.nu {most k : Nat} {g : Nat → Rz} (h : ∀ x : Nat, kin t n (pls t n (k)) = 23 → okZ (g x)) : okZ (nuZ t n most k g) := by
  unfold nuZ
  split
  · next q =>
    split
    · exact h _ q
    · exact okZ.bdd (by omega)
  · exact okZ.bdd (by omega)
theorem nxN {N k x : Nat} (hN : kin t n (pls t n (N)) = 24 ∨ kin t n (pls t n (N)) = 25) (hk : k ≤ N) (e : kin t n (pls t n (k)) = x) (h1 : x ≠ 24) (h2 : x ≠ 25) : k + 1 ≤ N := by
  rcases Nat.lt_or_ge k N with q | q
  · omega
  · have e' : k = N := by omega
    rw [e'] at e
    omega
end SA
