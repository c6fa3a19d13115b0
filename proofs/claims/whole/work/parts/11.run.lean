/-! walks with cut points at which the walk is known -/
theorem cuts_ok {G : AG} {d : Nat} {mi : MI} {Q : Option AV → AM → Prop} : ∀ (ts : List Nat) (t : Nat) (I : PK), lkI (ts.map fun t => (t, AW G d mi Q t)) t = some I → ∀ L S M, I L S M → AW G d mi Q t L S M
  | [], t, I, h => by cases h
  | q :: ts, t, I, h => by
    simp only [List.map_cons, lkI] at h
    split at h
    · next e => cases h; subst e; exact fun _ _ _ h => h
    · exact cuts_ok ts t I h
theorem AW.run {G : AG} {d : Nat} {mi : MI} {Q : Option AV → AM → Prop} {cd : List (Nat × List XI)} (hc : CK mi cd) (ts : List Nat) (n pc : Nat) {L : AL} {S : List AV} {M : AM} (h : wpR G d Q cd (ts.map fun t => (t, AW G d mi Q t)) n pc L S M) : AW G d mi Q pc L S M :=
  wpR_ok hc.1 (cuts_ok ts) n pc L S M h
theorem MS.run {G : AG} {d : Nat} {mi : MI} {as : List AV} {M : AM} {Q : Option AV → AM → Prop} {cd : List (Nat × List XI)} (hc : CK mi cd) (L : AL) (ts : List Nat) (n : Nat) (h : okS as → okM M → wpR G d Q cd (ts.map fun t => (t, AW G d mi Q t)) n 0 L [] M) (hp : plainName mi.1.cls = true := by decide) (hw : Nat.ble (wgt as) mi.2.2.1 = true := by rfl) (hL : ent mi.2.2.1 as = L := by rfl) : MS G d mi as M Q :=
  MS.of hc.2 hp (Nat.le_of_ble_eq_true hw) hL fun h1 h2 => AW.run hc ts n 0 (h h1 h2)
theorem MS.by {G : AG} {d : Nat} {mi : MI} {as : List AV} {M : AM} {Q : Option AV → AM → Prop} {cd : List (Nat × List XI)} (hc : CK mi cd) (L : AL) (h : okS as → okM M → AW G d mi Q 0 L [] M) (hp : plainName mi.1.cls = true := by decide) (hw : Nat.ble (wgt as) mi.2.2.1 = true := by rfl) (hL : ent mi.2.2.1 as = L := by rfl) : MS G d mi as M Q :=
  MS.of hc.2 hp (Nat.le_of_ble_eq_true hw) hL h
/-- the answer and the memory are known -/
theorem MS.to {G : AG} {d : Nat} {mi : MI} {as : List AV} {M M1 : AM} {r1 : Option AV} {Q : Option AV → AM → Prop} (h : MS G d mi as M (fun r M' => r = r1 ∧ M' = M1)) (hq : okM M1 → Q r1 M1) : MS G d mi as M Q :=
  h.mono fun r M' hok hr => by obtain ⟨rfl, rfl⟩ := hr; exact hq hok
theorem cmp3_lt {x y : Int} : (cmp3 x y < 0) ↔ x < y := by unfold cmp3; split <;> (try split) <;> omega
theorem cmp3_le {x y : Int} : (cmp3 x y ≤ 0) ↔ x ≤ y := by unfold cmp3; split <;> (try split) <;> omega
theorem cmp3_gt {x y : Int} : (0 < cmp3 x y) ↔ y < x := by unfold cmp3; split <;> (try split) <;> omega
theorem cmp3_ge {x y : Int} : (0 ≤ cmp3 x y) ↔ y ≤ x := by unfold cmp3; split <;> (try split) <;> omega
theorem cmp3_eq {x y : Int} : (cmp3 x y = 0) ↔ x = y := by unfold cmp3; split <;> (try split) <;> omega
theorem ce (i : Nat) : (i : Int) + 1 = ((i + 1 : Nat) : Int) := rfl
