/-! the state that both keep, and how the class and the model keep it -/
def Sg : Type := (Nat × (Nat → Nat)) × (Int × Int) × Hl × Mo × (Nat × (Nat → Mo)) × (Nat → Int × Nat × (Nat → Int)) × (Nat → Option (Hl × Mo))
def Sg.tn (σ : Sg) : Nat := σ.1.1
def Sg.tp (σ : Sg) : Nat → Nat := σ.1.2
def Sg.fk (σ : Sg) : Int := σ.2.1.1
def Sg.fp (σ : Sg) : Int := σ.2.1.2
def Sg.h (σ : Sg) : Hl := σ.2.2.1
def Sg.m (σ : Sg) : Mo := σ.2.2.2.1
def Sg.np (σ : Sg) : Nat := σ.2.2.2.2.1.1
def Sg.pm (σ : Sg) : Nat → Mo := σ.2.2.2.2.1.2
def Sg.tr (σ : Sg) : Nat → Int × Nat × (Nat → Int) := σ.2.2.2.2.2.1
def Sg.im (σ : Sg) : Nat → Option (Hl × Mo) := σ.2.2.2.2.2.2
def mkS (tn : Nat) (tp : Nat → Nat) (fk fp : Int) (h : Hl) (m : Mo) (np : Nat) (pm : Nat → Mo) (tr : Nat → Int × Nat × (Nat → Int)) (im : Nat → Option (Hl × Mo)) : Sg := ((tn, tp), (fk, fp), h, m, (np, pm), tr, im)
def MoB (B : Nat) (m : Mo) : Prop := MoOK m ∧ m.hrs ≤ B
def SgOK (B : Nat) (σ : Sg) : Prop := σ.tn ≤ 900 ∧ (∀ k, σ.tp k ≤ 255) ∧ HlOK σ.h ∧ MoB B σ.m ∧ σ.np ≤ 10 ∧ (∀ i, i < σ.np → MoB B (σ.pm i)) ∧ (∀ i, i < 4 → -1 ≤ (σ.tr i).1 ∧ (σ.tr i).1 ≤ 3 ∧ (σ.tr i).2.1 ≤ 40) ∧ ∀ i x, i < 2 → σ.im i = some x → HlOK x.1 ∧ MoB B x.2
/-- a byte of the tape, as the class keeps it -/
def sgn (b : Nat) : Int := if b < 128 then (b : Int) else (b : Int) - 256
def Ctape (M : AM) (σ : Sg) : Prop := M 0 1 = σ.tn ∧ ∀ k : Nat, k < σ.tn → M 1 k = sgn (σ.tp k)
def Cflt (M : AM) (σ : Sg) : Prop := M 2 0 = σ.fk ∧ M 2 1 = σ.fp
def Chs (M : AM) (z : Int) (σ : Sg) : Prop := M 0 3 = z ∧ M 0 4 = 23 - z ∧ (z = 7 ∨ z = 16) ∧ CH M z σ.h
def Cpast (M : AM) (σ : Sg) : Prop := M 0 8 = σ.np ∧ σ.np ≤ 10 ∧ ∃ q : Nat → Int, (∀ i : Nat, i < 10 → M 29 i = q i ∧ isO (q i) 4 ∧ 67 ≤ q i ∧ q i ≤ 85) ∧ (∀ i j : Nat, i < 10 → j < 10 → q i = q j → i = j) ∧ ∀ i : Nat, i < σ.np → CM M (q i) σ.h.P (σ.pm i)
def Ctr (M : AM) (i : Nat) (t : Int × Nat × (Nat → Int)) : Prop := M 30 i = 87 + 2 * (i : Int) ∧ M (87 + 2 * (i : Int)) 0 = (if t.1 = -1 then -1 else (t.2.1 : Int)) ∧ 0 ≤ M (87 + 2 * (i : Int)) 1 ∧ (t.1 ≠ -1 → M (87 + 2 * (i : Int)) 1 = t.1 ∧ ∀ k : Nat, k < t.2.1 → M (88 + 2 * (i : Int)) k = t.2.2 k)
def Cim (M : AM) (σ : Sg) : Prop := M 31 0 = 95 ∧ M 31 1 = 106 ∧ M 32 0 = 104 ∧ M 32 1 = 115 ∧ M 0 12 = ((bitsP (fun i => (σ.im i).isSome) 2 : Nat) : Int) ∧ ∀ (i : Nat) x, i < 2 → σ.im i = some x → CH M (95 + 11 * (i : Int)) x.1 ∧ CM M (104 + 11 * (i : Int)) x.1.P x.2
/-- what the fronts of the rows keep: no ways but of the states listed -/
def FrI (M : AM) (z : Int) : Prop := ∃ L : List Nat, M z 1 = L.length ∧ (∀ j : Nat, j < L.length → M (z + 1) j = L.getD j 0) ∧ L.Nodup ∧ (∀ s, s ∈ L → s < 3125) ∧ ∀ s : Nat, s < 3125 → ¬ s ∈ L → M (z + 2) s = 0
def RwInv (M : AM) : Prop := ∃ a b : Int, M 56 1 = a ∧ M 56 2 = b ∧ ((a = 58 ∧ b = 62) ∨ (a = 62 ∧ b = 58)) ∧ FrI M a ∧ FrI M b
theorem FrI.eq {M N : AM} {z : Int} (h : FrI M z) (h0 : N z = M z) (h1 : N (z + 1) = M (z + 1)) (h2 : N (z + 2) = M (z + 2)) : FrI N z := by
  unfold FrI
  rw [h0, h1, h2]
  exact h
theorem RwInv.eq {M N : AM} (h : RwInv M) (hs : ∀ x : Int, x = 56 ∨ (58 ≤ x ∧ x ≤ 65) → N x = M x) : RwInv N := by
  obtain ⟨a, b, h1, h2, h3, h4, h5⟩ := h
  refine ⟨a, b, by rw [hs 56 (by omega)]; exact h1, by rw [hs 56 (by omega)]; exact h2, h3, h4.eq (hs _ (by omega)) (hs _ (by omega)) (hs _ (by omega)), h5.eq (hs _ (by omega)) (hs _ (by omega)) (hs _ (by omega))⟩
def CR (M : AM) (σ : Sg) : Prop := ∃ z, Chs M z σ ∧ Ctape M σ ∧ Cflt M σ ∧ CM M 25 σ.h.P σ.m ∧ Cpast M σ ∧ (∀ i : Nat, i < 4 → Ctr M i (σ.tr i)) ∧ Cim M σ ∧ StInv M σ.h ∧ RwInv M
/-- only the class's working places have changed -/
def Scr (M N : AM) : Prop := ∀ x : Int, (x < 14 ∨ (15 < x ∧ x < 23) ∨ (24 < x ∧ x < 27) ∨ (28 < x ∧ x < 33) ∨ (55 < x ∧ x ≠ 57)) → N x = M x
theorem Scr.refl {M : AM} : Scr M M := fun _ _ => rfl
theorem Scr.trans {M N K : AM} (h : Scr M N) (h2 : Scr N K) : Scr M K := fun x hx => (h2 x hx).trans (h x hx)
theorem Same.scr {M N : AM} {ps : List Int} (h : Same ps M N) (hp : ∀ x ∈ ps, ¬ (x < 14 ∨ (15 < x ∧ x < 23) ∨ (24 < x ∧ x < 27) ∨ (28 < x ∧ x < 33) ∨ (55 < x ∧ x ≠ 57))) : Scr M N := fun x hx => h x (fun q => hp x q hx)
theorem CLaw.eq {M N : AM} {z : Int} {n : Nat} {code : Nat → Int} (h : CLaw M z n code) (h0 : N z = M z) (h1 : N (z + 1) = M (z + 1)) : CLaw N z n code := by
  unfold CLaw
  rw [h0, h1]
  exact h
theorem CH.eq {M N : AM} {z : Int} {h : Hl} (hh : CH M z h) (h0 : N z = M z) (h2 : N (z + 2) = M (z + 2)) (h3 : N (z + 3) = M (z + 3)) (h4 : N (z + 3 + 1) = M (z + 3 + 1)) (h5 : N (z + 5) = M (z + 5)) (h6 : N (z + 5 + 1) = M (z + 5 + 1)) : CH N z h := by
  obtain ⟨a, b, c, e, f, g, i⟩ := hh
  exact ⟨by rw [h0]; exact a, by rw [h0]; exact b, by rw [h0]; exact c, by rw [h0]; exact e, fun p hp => by rw [h2]; exact f p hp, g.eq h3 h4, i.eq h5 h6⟩
theorem CM.eq {M N : AM} {z : Int} {P : Nat} {m : Mo} (h : CM M z P m) (h0 : N z = M z) (h1 : N (z + 1) = M (z + 1)) : CM N z P m := by
  obtain ⟨a, b, c, e⟩ := h
  exact ⟨by rw [h0]; exact a, by rw [h0]; exact b, by rw [h0]; exact c, fun p hp => by rw [h1]; exact e p hp⟩
theorem Chs.eq {M N : AM} {z : Int} {σ : Sg} (h : Chs M z σ) (hs : ∀ x : Int, x = 0 ∨ (7 ≤ x ∧ x < 14) ∨ (15 < x ∧ x < 23) → N x = M x) : Chs N z σ := by
  obtain ⟨a, b, c, e⟩ := h
  have h0 := hs 0 (by omega)
  exact ⟨by rw [h0]; exact a, by rw [h0]; exact b, c, e.eq (hs _ (by omega)) (hs _ (by omega)) (hs _ (by omega)) (hs _ (by omega)) (hs _ (by omega)) (hs _ (by omega))⟩
theorem Cpast.eq {M N : AM} {σ : Sg} (h : Cpast M σ) (h0 : N 0 8 = M 0 8) (hs : ∀ x : Int, x = 29 ∨ (67 ≤ x ∧ x ≤ 86) → N x = M x) : Cpast N σ := by
  obtain ⟨a, a2, q, b, c, e⟩ := h
  have h29 := hs 29 (by omega)
  refine ⟨by rw [h0]; exact a, a2, q, fun i hi => by rw [h29]; exact b i hi, c, fun i hi => (e i hi).eq (hs _ ?_) (hs _ ?_)⟩
  all_goals
    have := b i (by omega)
    omega
theorem Ctr.eq {M N : AM} {i : Nat} {t : Int × Nat × (Nat → Int)} (h : Ctr M i t) (h30 : N 30 = M 30) (h1 : N (87 + 2 * (i : Int)) = M (87 + 2 * (i : Int))) (h2 : N (88 + 2 * (i : Int)) = M (88 + 2 * (i : Int))) : Ctr N i t := by
  unfold Ctr
  rw [h30, h1, h2]
  exact h
theorem Cim.eq {M N : AM} {σ : Sg} (h : Cim M σ) (h0 : N 0 12 = M 0 12) (hs : ∀ x : Int, x = 31 ∨ x = 32 ∨ (95 ≤ x ∧ x ≤ 116) → N x = M x) : Cim N σ := by
  obtain ⟨a, b, c, e, f, g⟩ := h
  have h31 := hs 31 (by omega)
  have h32 := hs 32 (by omega)
  refine ⟨by rw [h31]; exact a, by rw [h31]; exact b, by rw [h32]; exact c, by rw [h32]; exact e, by rw [h0]; exact f, fun i x hi hx => ?_⟩
  obtain ⟨u, v⟩ := g i x hi hx
  exact ⟨u.eq (hs _ (by omega)) (hs _ (by omega)) (hs _ (by omega)) (hs _ (by omega)) (hs _ (by omega)) (hs _ (by omega)), v.eq (hs _ (by omega)) (hs _ (by omega))⟩
theorem CR.scr {M N : AM} {σ : Sg} (h : CR M σ) (hs : Scr M N) (hI : StInv N σ.h) : CR N σ := by
  obtain ⟨z, a, b, c, e, f, g, i, j⟩ := h
  have h0 := hs 0 (by omega)
  have h1 := hs 1 (by omega)
  have h2 := hs 2 (by omega)
  refine ⟨z, a.eq (fun x hx => hs x (by omega)), ?_, ?_, e.eq (hs _ (by omega)) (hs _ (by omega)), f.eq (by rw [h0]) (fun x hx => hs x (by omega)), fun k hk => (g k hk).eq (hs _ (by omega)) (hs _ (by omega)) (hs _ (by omega)), i.eq (by rw [h0]) (fun x hx => hs x (by omega)), hI, j.2.eq (fun x hx => hs x (by omega))⟩
  · unfold Ctape; rw [h0, h1]; exact b
  · unfold Cflt; rw [h2]; exact c
def Hi (M N : AM) : Prop := ∀ x : Int, 117 ≤ x → N x = M x
def Lo (M N : AM) : Prop := ∀ x : Int, x < 117 → N x = M x
theorem Hi.refl {M : AM} : Hi M M := fun _ _ => rfl
theorem Lo.refl {M : AM} : Lo M M := fun _ _ => rfl
theorem Scr.hi {M N : AM} (h : Scr M N) : Hi M N := fun x hx => h x (by omega)
theorem StInv.eq {M N : AM} {h : Hl} (H : StInv M h) (hs : ∀ x : Int, 33 ≤ x → x ≤ 42 → N x = M x) : StInv N h := by
  rcases H with q | ⟨sd, cold, W, a, b⟩
  · left; rw [hs 33 (by omega) (by omega)]; exact q
  · right
    refine ⟨sd, cold, W, a, ?_⟩
    obtain ⟨b1, b2, b3, b4, b5⟩ := b
    have e : ∀ x : Int, 33 ≤ x → x ≤ 42 → N x = M x := hs
    unfold StOK StB PT LY
    rw [e 33 (by omega) (by omega), e 34 (by omega) (by omega), e 35 (by omega) (by omega), e 36 (by omega) (by omega), e 37 (by omega) (by omega), e 38 (by omega) (by omega), e 39 (by omega) (by omega), e 40 (by omega) (by omega), e 41 (by omega) (by omega), e 42 (by omega) (by omega)]
    exact ⟨b1, b2, b3, b4, b5⟩
/-- what the class keeps lies below the model's places -/
theorem CR.lo {M N : AM} {σ : Sg} (h : CR M σ) (hs : Lo M N) : CR N σ := by
  obtain ⟨z, a, b, c, e, f, g, i, j⟩ := h
  have h0 := hs 0 (by omega)
  refine ⟨z, a.eq (fun x hx => hs x (by omega)), ?_, ?_, e.eq (hs _ (by omega)) (hs _ (by omega)), f.eq (by rw [h0]) (fun x hx => hs x (by omega)), fun k hk => (g k hk).eq (hs _ (by omega)) (hs _ (by omega)) (hs _ (by omega)), i.eq (by rw [h0]) (fun x hx => hs x (by omega)), j.1.eq (fun x _ hx => hs x (by omega)), j.2.eq (fun x hx => hs x (by omega))⟩
  · unfold Ctape; rw [h0, hs 1 (by omega)]; exact b
  · unfold Cflt; rw [hs 2 (by omega)]; exact c
/-- a moment in a row of the model -/
def MRow (A : Int → Int) (P : Nat) (m : Mo) : Prop := (∀ p : Nat, p < P → A p = m.sd p ∧ A (5 + (p : Int)) = m.st p) ∧ A 10 = m.cold ∧ A 11 = m.hrs
def MR (M : AM) (σ : Sg) : Prop := (M 117 5 = σ.tn ∧ ∀ k : Nat, k < σ.tn → M 120 k = σ.tp k) ∧ (M 117 13 = σ.fk ∧ M 117 14 = σ.fp) ∧ MH (M 118) σ.h ∧ MRow (fun y => M 118 (19 + y)) σ.h.P σ.m ∧ (M 118 31 = σ.np ∧ ∀ i : Nat, i < σ.np → MRow (fun y => M 118 (32 + 12 * (i : Int) + y)) σ.h.P (σ.pm i)) ∧ (∀ i : Nat, i < 4 → M 135 i = (σ.tr i).1 ∧ ((σ.tr i).1 ≠ -1 → M 136 i = (σ.tr i).2.1 ∧ ∀ k : Nat, k < (σ.tr i).2.1 → M 137 (40 * (i : Int) + k) = (σ.tr i).2.2 k)) ∧ ∀ i : Nat, i < 2 → (M 119 i = if (σ.im i).isSome = true then 1 else 0) ∧ ∀ x, σ.im i = some x → MH (fun y => M 118 (1053 * ((i : Int) + 1) + y)) x.1 ∧ MRow (fun y => M 118 (1053 * ((i : Int) + 1) + (19 + y))) x.1.P x.2
theorem MR.eq {M N : AM} {σ : Sg} (h : MR M σ) (h5 : N 117 5 = M 117 5) (h13 : N 117 13 = M 117 13) (h14 : N 117 14 = M 117 14) (hs : ∀ x : Int, x = 118 ∨ x = 119 ∨ x = 120 ∨ (135 ≤ x ∧ x ≤ 137) → N x = M x) : MR N σ := by
  unfold MR
  rw [h5, h13, h14, hs 118 (by omega), hs 119 (by omega), hs 120 (by omega), hs 135 (by omega), hs 136 (by omega), hs 137 (by omega)]
  exact h
theorem MR.hi {M N : AM} {σ : Sg} (h : MR M σ) (hs : Hi M N) : MR N σ := h.eq (by rw [hs 117 (by omega)]) (by rw [hs 117 (by omega)]) (by rw [hs 117 (by omega)]) (fun x hx => hs x (by omega))
theorem MRow.sd {A : Int → Int} {P : Nat} {m : Mo} (h : MRow (fun y => A (19 + y)) P m) (ok : MoOK m) : MSd A P m.sd := fun p hp => ⟨(h.1 p hp).1, (ok.1 p).1⟩
theorem MRow.st {A : Int → Int} {P : Nat} {m : Mo} (h : MRow (fun y => A (19 + y)) P m) (ok : MoOK m) : MSt A P m.st := fun p hp => ⟨by have e : A (19 + (5 + (p : Int))) = m.st p := (h.1 p hp).2; rwa [show (19 : Int) + (5 + (p : Int)) = 24 + p by omega] at e, (ok.1 p).2⟩
