/-! THE ABSTRACT MACHINE: values, locals, memory; how they lie in the heap -/
abbrev AV : Type := Int ⊕ Int ⊕ Int
abbrev vi (x : Int) : AV := .inl x
abbrev vl (x : Int) : AV := .inr (.inl x)
abbrev vr (x : Int) : AV := .inr (.inr x)
abbrev AL : Type := List (Option AV)
abbrev AM : Type := Int → Int → Int
/-- a method: its name, bytes, locals, return type -/
abbrev MI : Type := MethodName × ByteArray × Nat × Option FieldType
/-- an instruction with what its operands stand for -/
abbrev XI : Type := Instr × List Nat × Int × Option MI
/-- what is fixed while the law runs behind the constructors: the launch; classes and slots; the places' addresses; their array classes; the script; a formatter (-1 null, -40) -/
abbrev AG : Type := Launch × va_G × (Int → Nat) × (Int → ClassId) × (Nat × Nat × (Nat → Int32)) × Int
def up (M : AM) (k i v : Int) : AM := fun a b => if a = k ∧ b = i then v else M a b
theorem up_eq (M : AM) (k i v : Int) : up M k i v k i = v := by simp [up]
theorem up_ne1 {M : AM} {k i v a b : Int} (h : a ≠ k) : up M k i v a b = M a b := by simp [up, h]
theorem up_ne2 {M : AM} {k i v a b : Int} (h : b ≠ i) : up M k i v a b = M a b := by simp [up, h]
def adr (G : AG) (z : Int) : Option Nat := if z = -1 then none else some (G.2.2.1 z)
def cv (G : AG) (v : AV) : Value := match v with
  | .inl x => .int (i3 x)
  | .inr (.inl x) => .long (i6 x)
  | .inr (.inr z) => va_rf (adr G z)
def okV (v : AV) : Prop := match v with
  | .inl x => inI x
  | .inr (.inl x) => inL x
  | .inr (.inr _) => True
def okS (S : List AV) : Prop := ∀ v ∈ S, okV v
def okL (L : AL) : Prop := ∀ v, some v ∈ L → okV v
/-! the locals -/
def getL : AL → Nat → Option AV
  | [], _ => none
  | v :: _, 0 => v
  | _ :: L, i + 1 => getL L i
def kl (u : Option AV) : Option AV := match u with
  | some (.inr (.inl _)) => none
  | u => u
def st1 : AL → Nat → AV → AL
  | [], _, _ => []
  | _ :: L, 0, v => some v :: L
  | u :: L, 1, v => kl u :: st1 L 0 v
  | u :: L, i + 2, v => u :: st1 L (i + 1) v
def st2 : AL → Nat → AV → AL
  | [], _, _ => []
  | _ :: L, 0, v => some v :: (match L with
    | [] => []
    | _ :: L' => none :: L')
  | u :: L, 1, v => kl u :: st2 L 0 v
  | u :: L, i + 2, v => u :: st2 L (i + 1) v
def asc (G : AG) : Nat → AL → List (Nat × Value)
  | _, [] => []
  | i, some v :: L => (i, cv G v) :: asc G (i + 1) L
  | i, none :: L => asc G (i + 1) L
theorem asc_mem {G : AG} : ∀ (L : AL) (i : Nat) (q : Nat × Value), q ∈ asc G i L ↔ ∃ (k : Nat) (v : AV), L[k]? = some (some v) ∧ q = (i + k, cv G v)
  | [], i, q => by simp [asc]
  | some w :: L, i, q => by
    simp only [asc, List.mem_cons, asc_mem L]
    constructor
    · rintro (rfl | ⟨k, v, h, rfl⟩)
      · exact ⟨0, w, rfl, rfl⟩
      · exact ⟨k + 1, v, by simpa using h, by simp; omega⟩
    · rintro ⟨k, v, h, rfl⟩
      cases k with
      | zero => left; simp at h; simp [h]
      | succ k => right; exact ⟨k, v, by simpa using h, by simp; omega⟩
  | none :: L, i, q => by
    simp only [asc, asc_mem L]
    constructor
    · rintro ⟨k, v, h, rfl⟩
      exact ⟨k + 1, v, by simpa using h, by simp; omega⟩
    · rintro ⟨k, v, h, rfl⟩
      cases k with
      | zero => simp at h
      | succ k => exact ⟨k, v, by simpa using h, by simp; omega⟩
theorem getL_eq : ∀ {L : AL} {i : Nat} {v : AV}, getL L i = some v → L[i]? = some (some v)
  | _ :: _, 0, v, h => by simp only [getL] at h; subst h; rfl
  | _ :: L, i + 1, v, h => by simp only [getL] at h; simpa using getL_eq h
theorem st1_get : ∀ (L : AL) (i : Nat) (v : AV) (j : Nat) (w : AV), (st1 L i v)[j]? = some (some w) → (j = i ∧ w = v) ∨ (j ≠ i ∧ L[j]? = some (some w) ∧ (j + 1 = i → ∀ x, w ≠ vl x))
  | [], i, v, j, w, h => by simp [st1] at h
  | u :: L, 0, v, j, w, h => by
    simp only [st1] at h
    cases j with
    | zero => left; simp at h; exact ⟨rfl, h.symm⟩
    | succ j => right; exact ⟨by omega, by simpa using h, by omega⟩
  | u :: L, 1, v, j, w, h => by
    simp only [st1] at h
    cases j with
    | zero =>
      right
      refine ⟨by omega, ?_, ?_⟩
      · simp only [List.getElem?_cons_zero, Option.some.injEq] at h ⊢
        unfold kl at h
        split at h
        · cases h
        · exact h
      · intro _ x e
        subst e
        simp only [List.getElem?_cons_zero, Option.some.injEq] at h
        unfold kl at h
        split at h
        · cases h
        · next hn => exact hn x h
    | succ j =>
      rcases st1_get L 0 v j w (by simpa using h) with ⟨h1, h2⟩ | ⟨h1, h2, h3⟩
      · left; exact ⟨by omega, h2⟩
      · right; exact ⟨by omega, by simpa using h2, by omega⟩
  | u :: L, i + 2, v, j, w, h => by
    simp only [st1] at h
    cases j with
    | zero => right; exact ⟨by omega, by simpa using h, by omega⟩
    | succ j =>
      rcases st1_get L (i + 1) v j w (by simpa using h) with ⟨h1, h2⟩ | ⟨h1, h2, h3⟩
      · left; exact ⟨by omega, h2⟩
      · right; exact ⟨by omega, by simpa using h2, fun e => h3 (by omega)⟩
theorem st2_get : ∀ (L : AL) (i : Nat) (v : AV) (j : Nat) (w : AV), (st2 L i v)[j]? = some (some w) → (j = i ∧ w = v) ∨ (j ≠ i ∧ j ≠ i + 1 ∧ L[j]? = some (some w) ∧ (j + 1 = i → ∀ x, w ≠ vl x))
  | [], i, v, j, w, h => by simp [st2] at h
  | u :: L, 0, v, j, w, h => by
    cases L with
    | nil =>
      simp only [st2] at h
      cases j with
      | zero => left; simp at h; exact ⟨rfl, h.symm⟩
      | succ j => simp at h
    | cons u2 L =>
      simp only [st2] at h
      match j, h with
      | 0, h => left; simp at h; exact ⟨rfl, h.symm⟩
      | 1, h => simp at h
      | j + 2, h => right; exact ⟨by omega, by omega, by simpa using h, by omega⟩
  | u :: L, 1, v, j, w, h => by
    simp only [st2] at h
    cases j with
    | zero =>
      right
      refine ⟨by omega, by omega, ?_, ?_⟩
      · simp only [List.getElem?_cons_zero, Option.some.injEq] at h ⊢
        unfold kl at h
        split at h
        · cases h
        · exact h
      · intro _ x e
        subst e
        simp only [List.getElem?_cons_zero, Option.some.injEq] at h
        unfold kl at h
        split at h
        · cases h
        · next hn => exact hn x h
    | succ j =>
      rcases st2_get L 0 v j w (by simpa using h) with ⟨h1, h2⟩ | ⟨h1, h1b, h2, h3⟩
      · left; exact ⟨by omega, h2⟩
      · right; exact ⟨by omega, by omega, by simpa using h2, by omega⟩
  | u :: L, i + 2, v, j, w, h => by
    simp only [st2] at h
    cases j with
    | zero => right; exact ⟨by omega, by omega, by simpa using h, by omega⟩
    | succ j =>
      rcases st2_get L (i + 1) v j w (by simpa using h) with ⟨h1, h2⟩ | ⟨h1, h1b, h2, h3⟩
      · left; exact ⟨by omega, h2⟩
      · right; exact ⟨by omega, by omega, by simpa using h2, fun e => h3 (by omega)⟩
theorem st1_len : ∀ (L : AL) (i : Nat) (v : AV), (st1 L i v).length = L.length
  | [], _, _ => rfl
  | _ :: _, 0, _ => rfl
  | _ :: L, 1, v => by simp [st1, st1_len L]
  | _ :: L, i + 2, v => by simp [st1, st1_len L]
theorem st2_len : ∀ (L : AL) (i : Nat) (v : AV), (st2 L i v).length = L.length
  | [], _, _ => rfl
  | [_], 0, _ => rfl
  | _ :: _ :: _, 0, _ => rfl
  | _ :: L, 1, v => by simp [st2, st2_len L]
  | _ :: L, i + 2, v => by simp [st2, st2_len L]
theorem cv_cat (G : AG) (v : AV) : (cv G v).category = 2 → ∃ x, v = vl x := by
  rcases v with x | x | x
  · intro h; simp [cv, Value.category] at h
  · intro _; exact ⟨x, rfl⟩
  · intro h
    simp only [cv] at h
    unfold va_rf at h
    split at h <;> simp [Value.category] at h
theorem asc_st1 {G : AG} {L : AL} {i : Nat} {v : AV} : ∀ q ∈ asc G 0 (st1 L i v), q ∈ (i, cv G v) :: (asc G 0 L).filter (fun q => !(q.1 == i) && !(q.1 + 1 == i && q.2.category == 2)) := by
  intro q hq
  obtain ⟨k, w, h, rfl⟩ := (asc_mem _ _ _).mp hq
  rcases st1_get L i v k w h with ⟨h1, h2⟩ | ⟨h1, h2, h3⟩
  · subst h1; subst h2; simp
  · refine List.mem_cons_of_mem _ (List.mem_filter.mpr ⟨(asc_mem _ _ _).mpr ⟨k, w, h2, rfl⟩, ?_⟩)
    simp only [Nat.zero_add, Bool.and_eq_true, Bool.not_eq_true', beq_eq_false_iff_ne, ne_eq, Bool.and_eq_false_iff]
    refine ⟨h1, ?_⟩
    by_cases h4 : k + 1 = i
    · right
      intro hc
      obtain ⟨x, hx⟩ := cv_cat G w (by simpa using hc)
      exact h3 h4 x hx
    · left; exact h4
theorem asc_st2 {G : AG} {L : AL} {i : Nat} {v : AV} : ∀ q ∈ asc G 0 (st2 L i v), q ∈ (i, cv G v) :: (asc G 0 L).filter (fun q => !(q.1 == i) && (!(q.1 == i + 1) && !(q.1 + 1 == i && q.2.category == 2))) := by
  intro q hq
  obtain ⟨k, w, h, rfl⟩ := (asc_mem _ _ _).mp hq
  rcases st2_get L i v k w h with ⟨h1, h2⟩ | ⟨h1, h1b, h2, h3⟩
  · subst h1; subst h2; simp
  · refine List.mem_cons_of_mem _ (List.mem_filter.mpr ⟨(asc_mem _ _ _).mpr ⟨k, w, h2, rfl⟩, ?_⟩)
    simp only [Nat.zero_add, Bool.and_eq_true, Bool.not_eq_true', beq_eq_false_iff_ne, ne_eq, Bool.and_eq_false_iff]
    refine ⟨h1, h1b, ?_⟩
    by_cases h4 : k + 1 = i
    · right
      intro hc
      obtain ⟨x, hx⟩ := cv_cat G w (by simpa using hc)
      exact h3 h4 x hx
    · left; exact h4
theorem st1_ok {L : AL} {i : Nat} {v : AV} (h : okL L) (hv : okV v) : okL (st1 L i v) := by
  intro w hw
  obtain ⟨j, hj⟩ := List.getElem?_of_mem hw
  rcases st1_get L i v j w hj with ⟨_, h2⟩ | ⟨_, h2, _⟩
  · rw [h2]; exact hv
  · exact h w (List.mem_of_getElem? h2)
theorem st2_ok {L : AL} {i : Nat} {v : AV} (h : okL L) (hv : okV v) : okL (st2 L i v) := by
  intro w hw
  obtain ⟨j, hj⟩ := List.getElem?_of_mem hw
  rcases st2_get L i v j w hj with ⟨_, h2⟩ | ⟨_, _, h2, _⟩
  · rw [h2]; exact hv
  · exact h w (List.mem_of_getElem? h2)
theorem getL_ok {L : AL} {i : Nat} {v : AV} (h : okL L) (hg : getL L i = some v) : okV v := h v (List.mem_of_getElem? (getL_eq hg))
/-- the locals lie in the frame -/
def LR (G : AG) (ls : Array Slot) (n : Nat) (L : AL) : Prop := lv_has ls n (asc G 0 L) ∧ L.length = n
theorem LR.at {G : AG} {ls : Array Slot} {n : Nat} {L : AL} {i : Nat} {v : AV} (h : LR G ls n L) (hg : getL L i = some v) : ls[i]? = some (.val (cv G v)) :=
  h.1.2.2 (i, cv G v) ((asc_mem _ _ _).mpr ⟨i, v, getL_eq hg, by simp⟩)
theorem LR.st1 {G : AG} {ls : Array Slot} {n : Nat} {L : AL} {i : Nat} {v : AV} (h : L.length = n) (hl : lv_has ls n ((i, cv G v) :: (asc G 0 L).filter (fun q => !(q.1 == i) && !(q.1 + 1 == i && q.2.category == 2)))) : LR G ls n (st1 L i v) :=
  ⟨⟨hl.1, hl.2.1, fun q hq => hl.2.2 q (asc_st1 q hq)⟩, by rw [st1_len]; exact h⟩
theorem LR.st2 {G : AG} {ls : Array Slot} {n : Nat} {L : AL} {i : Nat} {v : AV} (h : L.length = n) (hl : lv_has ls n ((i, cv G v) :: (asc G 0 L).filter (fun q => !(q.1 == i) && (!(q.1 == i + 1) && !(q.1 + 1 == i && q.2.category == 2))))) : LR G ls n (st2 L i v) :=
  ⟨⟨hl.1, hl.2.1, fun q hq => hl.2.2 q (asc_st2 q hq)⟩, by rw [st2_len]; exact h⟩
