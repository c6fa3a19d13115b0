section SF
variable {t : Nat → Nat} {n F : Nat}
/-- a hall as it can be told -/
def HK (h : Hl) (m : Mo) : Prop := HlOK h ∧ MoOK m ∧ m.hrs = 0
theorem HK.st {h : Hl} {m : Mo} {p x : Nat} (H : HK h m) (hx : x ≤ 4) : HK h (m.sSt p x) := by
  obtain ⟨a, ⟨b, c⟩, e⟩ := H
  refine ⟨a, ⟨fun q => ⟨(b q).1, ?_⟩, c⟩, e⟩
  show (if q = p then x else m.st q) ≤ 4
  split
  · exact hx
  · exact (b q).2
theorem HK.wt {h : Hl} {m : Mo} {p x : Nat} (H : HK h m) (hx : x ≤ 9) : HK (h.sWt p x) m := by
  obtain ⟨⟨a1, a2, a3, a4⟩, b⟩ := H
  refine ⟨⟨a1, a2, fun q => ⟨?_, (a3 q).2⟩, a4⟩, b⟩
  show (if q = p then x else h.wt q) ≤ 9
  split
  · exact hx
  · exact (a3 q).1
theorem HK.rd {h : Hl} {m : Mo} {p : Nat} (H : HK h m) : HK (h.sRd p) m := by
  obtain ⟨⟨a1, a2, a3, a4⟩, b⟩ := H
  refine ⟨⟨a1, a2, fun q => ⟨(a3 q).1, ?_⟩, a4⟩, b⟩
  show (if q = p then 1 else h.rd q) ≤ 1
  split
  · omega
  · exact (a3 q).2
theorem HK.add {h : Hl} {m : Mo} {x : Nat} (H : HK h m) (hP : h.P < 5) (hx : x ≤ 1) : HK h.sAdd (m.sAdd h.P x) := by
  obtain ⟨⟨a1, a2, a3, a4⟩, ⟨b, c⟩, e⟩ := H
  refine ⟨⟨by show h.P + 1 ≤ 5; omega, a2, fun q => ⟨?_, ?_⟩, a4⟩, ⟨fun q => ⟨?_, ?_⟩, c⟩, e⟩
  · show (if q = h.P then 1 else h.wt q) ≤ 9
    split
    · omega
    · exact (a3 q).1
  · show (if q = h.P then 0 else h.rd q) ≤ 1
    split
    · omega
    · exact (a3 q).2
  · show (if q = h.P then x else m.sd q) ≤ 1
    split
    · exact hx
    · exact (b q).1
  · show (if q = h.P then 4 else m.st q) ≤ 4
    split
    · omega
    · exact (b q).2
theorem HK.cold {h : Hl} {m : Mo} {x : Nat} (H : HK h m) (hx : x ≤ 9) : HK h (m.chill x) := ⟨H.1, ⟨H.2.1.1, hx⟩, H.2.2⟩
theorem HK.tir {h : Hl} {m : Mo} {f k k' : Nat} {cs : List Int} (H : HK h m) (e : PR t n 0 f 0 0 k = Rs.good k' cs) (hk : k' ≤ 900) : HK (h.sT cs) m := by
  obtain ⟨⟨a1, a2, a3, a4, a5, a6, a7, a8, a9⟩, b⟩ := H
  have h1 := PR_ln _ _ _ _ (by omega) _ _ e
  exact ⟨⟨a1, a2, a3, fun _ => (PR_wf e (Or.inl ⟨rfl, rfl⟩)).1, a5, a6, by show cs.length ≤ 900; omega, a8, a9⟩, b⟩
theorem HK.cnt {h : Hl} {m : Mo} {f k k' : Nat} {cs : List Int} (H : HK h m) (e : PR t n 1 f 5 0 k = Rs.good k' cs) (hk : k' ≤ 900) : HK (h.sC cs) m := by
  obtain ⟨⟨a1, a2, a3, a4, a5, a6, a7, a8, a9⟩, b⟩ := H
  have h1 := PR_ln _ _ _ _ (by omega) _ _ e
  refine ⟨⟨a1, a2, a3, a4, fun _ => (PR_wf e (Or.inr ⟨rfl, rfl⟩)).1, fun j hj => ?_, a7, by show cs.length ≤ 900; omega, a9⟩, b⟩
  have hj' : j < cs.length := hj
  refine PR_cd _ _ _ _ (by omega) _ _ e (by omega) _ ?_
  show cs.getD j 0 ∈ cs
  rw [List.getD_eq_getElem?_getD, List.getElem?_eq_getElem hj']
  exact List.getElem_mem hj'
theorem FL1_K {p k k' : Nat} {h h' : Hl} {m m' : Mo} (H : HK h m) (e : FL1 t n p k h m = Rz.good k' h' m') : HK h' m' ∧ h'.lines = h.lines := by
  unfold FL1 at e
  split at e
  · obtain ⟨_, x, hx, _, e⟩ := nu_good e
    obtain ⟨_, rfl, rfl⟩ := zgood_inj e
    exact ⟨H.st hx, rfl⟩
  · split at e
    · obtain ⟨_, x, hx, _, e⟩ := nu_good e
      obtain ⟨_, rfl, rfl⟩ := zgood_inj e
      exact ⟨H.wt hx, rfl⟩
    · obtain ⟨_, rfl, rfl⟩ := zgood_inj e
      exact ⟨H.rd, rfl⟩
theorem FL_K : ∀ f p k h m k' h' m', HK h m → FL t n f p k h m = Rz.good k' h' m' → HK h' m' ∧ h'.lines = h.lines
  | 0, p, k, h, m, k', h', m', H, e => absurd e (fun e => zbad_good e)
  | f + 1, p, k, h, m, k', h', m', H, e => by
    by_cases q : kin t n (pls t n (k)) = 4 ∨ kin t n (pls t n (k)) = 5 ∨ kin t n (pls t n (k)) = 6
    · rw [FL_1 q] at e
      obtain ⟨k1, h1, m1, e1, e⟩ := bz_good e
      obtain ⟨a, b⟩ := FL1_K H e1
      obtain ⟨a', b'⟩ := FL_K f _ _ _ _ _ _ _ a e
      exact ⟨a', b'.trans b⟩
    · rw [FL_0 q] at e
      obtain ⟨_, rfl, rfl⟩ := zgood_inj e
      exact ⟨H, rfl⟩
theorem LI_K {N k k' : Nat} {h h' : Hl} {m m' : Mo} (hN : kin t n (pls t n (N)) = 24 ∨ kin t n (pls t n (N)) = 25) (hN9 : N ≤ 900) (hk : k ≤ N) (H : HK h m) (e : LI t n F k h m = Rz.good k' h' m') : HK h' m' ∧ h'.lines = h.lines := by
  have hle := (LI_go hN hk e).2
  unfold LI LIp LIt LIc at e
  split at e
  · split at e
    · exact absurd e (fun e => zbad_good e)
    · next q5 =>
      split at e
      · obtain ⟨q2, x, hx, _, e⟩ := nu_good e
        have hP := H.1.1
        have r := FL_K F _ _ _ _ _ _ _ (H.add (by omega) hx) e
        exact ⟨r.1, r.2⟩
      · exact absurd e (fun e => zbad_good e)
  · split at e
    · obtain ⟨q2, x, hx, _, e⟩ := nu_good e
      obtain ⟨_, rfl, rfl⟩ := zgood_inj e
      exact ⟨H.cold hx, rfl⟩
    · split at e
      · split at e
        · obtain ⟨k1, cs, e1, e⟩ := lz_good e
          obtain ⟨rfl, rfl, rfl⟩ := zgood_inj e
          exact ⟨H.tir e1 (by omega), rfl⟩
        · exact absurd e (fun e => zbad_good e)
      · split at e
        · split at e
          · obtain ⟨k1, cs, e1, e⟩ := lz_good e
            obtain ⟨rfl, rfl, rfl⟩ := zgood_inj e
            exact ⟨H.cnt e1 (by omega), rfl⟩
          · exact absurd e (fun e => zbad_good e)
        · exact absurd e (fun e => zbad_good e)
theorem HK.line {h : Hl} {m : Mo} (H : HK h m) (hl : h.lines ≤ 999) : HK h.sLine m := by
  obtain ⟨⟨a1, a2, a3, a4, a5, a6, a7, a8, a9⟩, b⟩ := H
  exact ⟨⟨a1, a2, a3, a4, a5, a6, a7, a8, by show h.lines + 1 ≤ 1000; omega⟩, b⟩
theorem LNS_K {N : Nat} (hN : kin t n (pls t n (N)) = 24 ∨ kin t n (pls t n (N)) = 25) (hN9 : N ≤ 900) : ∀ f k h m k' h' m', k ≤ N → h.lines ≤ k → HK h m → LNS t n F f k h m = Rz.good k' h' m' → HK h' m'
  | 0, k, h, m, k', h', m', hk, hl, H, e => absurd e (fun e => zbad_good e)
  | f + 1, k, h, m, k', h', m', hk, hl, H, e => by
    rw [LNS_s] at e
    split at e
    · obtain ⟨_, rfl, rfl⟩ := zgood_inj e
      exact H
    · obtain ⟨k1, h1, m1, e1, e⟩ := bz_good e
      obtain ⟨a, b⟩ := LI_K hN hN9 hk H e1
      have hg := LI_go hN hk e1
      split at e
      · next q =>
        have h2 := nxN hN hg.2 q (by omega) (by omega)
        exact LNS_K hN hN9 f _ _ _ _ _ _ h2 (by show h1.lines + 1 ≤ k1 + 1; omega) (a.line (by omega)) e
      · exact absurd e (fun e => zbad_good e)
end SF
