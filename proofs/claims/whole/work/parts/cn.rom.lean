section XI
def FLT : List Jvm.Cond := flatC (Jvm.Cond.and given_1 narrow_1)
def tmS (i : Nat) : Jvm.Term := .string (romO i) (romK i)
def tmV (i : Nat) : Jvm.Term := .field (tmS i) "java/lang/String" "value" "[B"
theorem rom_str {s : State} {args : Array Value} {A : Nat → Prop} {i N : Nat} (hA : ∀ a : Nat, a < s.heap.size → ¬ A a) (hs : ∀ w ∈ FLT, w.before args s = true) (hN : (romL (-20 - (i : Int))).length = N) (hN9 : N ≤ 1000) (m1 : Jvm.Cond.exactly (tmS i) "java/lang/String" ∈ FLT) (m2 : Jvm.Cond.eq (.field (tmS i) "java/lang/String" "coder" "B") (.int 0) ∈ FLT) (m3 : Jvm.Cond.arrayOf (tmV i) .byte ∈ FLT) (m4 : Jvm.Cond.eq (.length (tmV i)) (.int (Int32.ofNat N)) ∈ FLT) (m5 : ∀ j : Fin N, Jvm.Cond.eq (.elem (tmV i) (.int (Int32.ofNat j.val))) (.int (i3 (romA (-20 - (i : Int)) (j.val : Int)))) ∈ FLT) :
    ∃ a v : Nat, (tmS i).eval args s none [] s = some (.ref a) ∧ va_O "java/lang/String" a A s s.heap ∧ va_OF "java/lang/String" "coder" "B" (.int 0) a A s s.heap ∧ va_OF "java/lang/String" "value" "[B" (.ref v) a A s s.heap ∧ va_T .byte v (romL (-20 - (i : Int))).length (fun j => .int (i3 (romA (-20 - (i : Int)) (j : Int)))) A s s.heap := by
  rw [hN]
  obtain ⟨a, c, cell, k, q1, q2, q3, q4, q5, q6, -⟩ := Jvm.Cond.exactly_spec (hs _ m1)
  obtain ⟨v, hv, hT⟩ := va_Tof (f := fun j => .int (i3 (romA (-20 - (i : Int)) (j : Int)))) (A := A) (by omega) (hs _ m3) (va_eqt (hs _ m4)) (fun j hj => va_eqt (hs _ (m5 ⟨j, hj⟩))) hA
  exact ⟨a, v, q1, ⟨cell, q3, q5, by rw [q6]; exact q2, hA a (Array.getElem?_eq_some_iff.mp q3).1⟩, vk_OFof q1 (va_eqt (hs _ m2)) hA, vk_OFof q1 hv hA, hT⟩
def lsS (i N : Nat) : List Jvm.Cond := [Jvm.Cond.exactly (tmS i) "java/lang/String", Jvm.Cond.eq (.field (tmS i) "java/lang/String" "coder" "B") (.int 0), Jvm.Cond.arrayOf (tmV i) .byte, Jvm.Cond.eq (.length (tmV i)) (.int (Int32.ofNat N))] ++ (List.range N).map (fun j => Jvm.Cond.eq (.elem (tmV i) (.int (Int32.ofNat j))) (.int (i3 (romA (-20 - (i : Int)) (j : Int)))))
theorem lsS_in {i N p q : Nat} (h : (FLT.drop p).take q = lsS i N) : ∀ w ∈ lsS i N, w ∈ FLT := fun w hw => by
  rw [← h] at hw
  exact List.mem_of_mem_drop (List.mem_of_mem_take hw)
theorem lsS_m {i N : Nat} (h : ∀ w ∈ lsS i N, w ∈ FLT) : Jvm.Cond.exactly (tmS i) "java/lang/String" ∈ FLT ∧ Jvm.Cond.eq (.field (tmS i) "java/lang/String" "coder" "B") (.int 0) ∈ FLT ∧ Jvm.Cond.arrayOf (tmV i) .byte ∈ FLT ∧ Jvm.Cond.eq (.length (tmV i)) (.int (Int32.ofNat N)) ∈ FLT ∧ ∀ j : Fin N, Jvm.Cond.eq (.elem (tmV i) (.int (Int32.ofNat j.val))) (.int (i3 (romA (-20 - (i : Int)) (j.val : Int)))) ∈ FLT := by
  unfold lsS at h
  refine ⟨h _ (List.mem_append_left _ (by simp)), h _ (List.mem_append_left _ (by simp)), h _ (List.mem_append_left _ (by simp)), h _ (List.mem_append_left _ (by simp)), fun j => h _ (List.mem_append_right _ (List.mem_map.mpr ⟨j.val, List.mem_range.mpr j.isLt, rfl⟩))⟩
set_option maxRecDepth 100000 in
theorem rom_e0 : (FLT.drop 57).take 110 = lsS 0 106 := by decide +kernel
set_option maxRecDepth 100000 in
theorem rom_e1 : (FLT.drop 167).take 16 = lsS 1 12 := by decide +kernel
set_option maxRecDepth 100000 in
theorem rom_e2 : (FLT.drop 184).take 111 = lsS 2 107 := by decide +kernel
set_option maxRecDepth 100000 in
theorem rom_e3 : (FLT.drop 297).take 16 = lsS 3 12 := by decide +kernel
theorem rom_strs {s : State} {args : Array Value} {A : Nat → Prop} (hA : ∀ a : Nat, a < s.heap.size → ¬ A a) (hs : ∀ w ∈ FLT, w.before args s = true) : ∃ q : Nat → Nat × Nat, ∀ i : Nat, i < 4 → (tmS i).eval args s none [] s = some (.ref (q i).1) ∧ va_O "java/lang/String" (q i).1 A s s.heap ∧ va_OF "java/lang/String" "coder" "B" (.int 0) (q i).1 A s s.heap ∧ va_OF "java/lang/String" "value" "[B" (.ref (q i).2) (q i).1 A s s.heap ∧ va_T .byte (q i).2 (romL (-20 - (i : Int))).length (fun j => .int (i3 (romA (-20 - (i : Int)) (j : Int)))) A s s.heap := by
  refine Classical.axiomOfChoice (r := fun i (q : Nat × Nat) => i < 4 → (tmS i).eval args s none [] s = some (.ref q.1) ∧ va_O "java/lang/String" q.1 A s s.heap ∧ va_OF "java/lang/String" "coder" "B" (.int 0) q.1 A s s.heap ∧ va_OF "java/lang/String" "value" "[B" (.ref q.2) q.1 A s s.heap ∧ va_T .byte q.2 (romL (-20 - (i : Int))).length (fun j => .int (i3 (romA (-20 - (i : Int)) (j : Int)))) A s s.heap) fun i => ?_
  match i with
  | 0 =>
    obtain ⟨m1, m2, m3, m4, m5⟩ := lsS_m (lsS_in rom_e0)
    obtain ⟨a, v, h⟩ := rom_str (A := A) hA hs (i := 0) (N := 106) (by decide +kernel) (by omega) m1 m2 m3 m4 m5
    exact ⟨(a, v), fun _ => h⟩
  | 1 =>
    obtain ⟨m1, m2, m3, m4, m5⟩ := lsS_m (lsS_in rom_e1)
    obtain ⟨a, v, h⟩ := rom_str (A := A) hA hs (i := 1) (N := 12) (by decide +kernel) (by omega) m1 m2 m3 m4 m5
    exact ⟨(a, v), fun _ => h⟩
  | 2 =>
    obtain ⟨m1, m2, m3, m4, m5⟩ := lsS_m (lsS_in rom_e2)
    obtain ⟨a, v, h⟩ := rom_str (A := A) hA hs (i := 2) (N := 107) (by decide +kernel) (by omega) m1 m2 m3 m4 m5
    exact ⟨(a, v), fun _ => h⟩
  | 3 =>
    obtain ⟨m1, m2, m3, m4, m5⟩ := lsS_m (lsS_in rom_e3)
    obtain ⟨a, v, h⟩ := rom_str (A := A) hA hs (i := 3) (N := 12) (by decide +kernel) (by omega) m1 m2 m3 m4 m5
    exact ⟨(a, v), fun _ => h⟩
  | k + 4 => exact ⟨(0, 0), fun h => absurd h (by omega)⟩
set_option maxRecDepth 100000 in
theorem rom_pm : Jvm.Cond.arrayOf (.static "HandsHeld" "POWER" "[I") .int ∈ FLT ∧ Jvm.Cond.eq (.length (.static "HandsHeld" "POWER" "[I")) (.int (Int32.ofNat 6)) ∈ FLT ∧ (∀ j : Fin 6, Jvm.Cond.eq (.elem (.static "HandsHeld" "POWER" "[I") (.int (Int32.ofNat j.val))) (.int (i3 (romA (-2) (j.val : Int)))) ∈ FLT) ∧ Jvm.Cond.eq (.static "java/lang/String" "COMPACT_STRINGS" "Z") (.int 1) ∈ FLT ∧ Jvm.Cond.isRef (.static "jdk/internal/util/Preconditions" "SIOOBE_FORMATTER" "Ljava/util/function/BiFunction;") ∈ FLT := by decide +kernel
theorem nest_ok {s : State} {args : Array Value} (hts : ∀ w ∈ lw_tbl, w.before args s = true) : NestOK s := by
  intro w hw hn
  have h := hts w hw
  unfold isNest at hn
  split at hn
  · exact va_Nw.of rfl h
  · exact va_Nw.of rfl h
  · cases hn
theorem aos_ok {s : State} {args : Array Value} (hts : ∀ w ∈ lw_tbl, w.before args s = true) : AOs s := ⟨va_AO.of (hts _ (tbN_in (i := 1185) (by decide +kernel))), va_AO.of (hts _ (tbN_in (i := 1182) (by decide +kernel))), va_AO.of (hts _ (tbN_in (i := 1184) (by decide +kernel)))⟩
theorem cls_ok {s : State} {args : Array Value} (hts : ∀ w ∈ lw_tbl, w.before args s = true) : ∃ D : va_G, ∀ (c : Nat) (q : vw_C), vcl[c]? = some q → u_Kn s q.1 q.2.1 q.2.2 (D.1 c) (D.2 c) := by
  have key : ∀ c : Nat, ∃ r : ClassId × (Nat → Nat), ∀ q : vw_C, vcl[c]? = some q → u_Kn s q.1 q.2.1 q.2.2 r.1 r.2 := by
    intro c
    by_cases hc : c < 13
    · obtain ⟨q, hq⟩ := vcl_get hc
      have hi : (Jvm.Cond.instantiable q.1 q.2.2).before args s = true := by
        have hh : ∀ c : Fin 13, ∃ i : Nat, tbN i (Jvm.Cond.instantiable (vcl[c.val]!).1 (vcl[c.val]!).2.2) = true := by
          intro c
          match c with
          | 0 => exact ⟨1024, by decide +kernel⟩
          | 1 => exact ⟨1032, by decide +kernel⟩
          | 2 => exact ⟨1076, by decide +kernel⟩
          | 3 => exact ⟨1082, by decide +kernel⟩
          | 4 => exact ⟨1154, by decide +kernel⟩
          | 5 => exact ⟨1187, by decide +kernel⟩
          | 6 => exact ⟨2028, by decide +kernel⟩
          | 7 => exact ⟨2056, by decide +kernel⟩
          | 8 => exact ⟨2081, by decide +kernel⟩
          | 9 => exact ⟨2100, by decide +kernel⟩
          | 10 => exact ⟨2106, by decide +kernel⟩
          | 11 => exact ⟨2146, by decide +kernel⟩
          | 12 => exact ⟨6127, by decide +kernel⟩
        obtain ⟨i, hi⟩ := hh ⟨c, hc⟩
        have e2 : vcl[c]! = q := by rw [List.getElem!_eq_getElem?_getD, hq]; rfl
        rw [show vcl[(⟨c, hc⟩ : Fin 13).val]! = q from e2] at hi
        exact hts _ (tbN_in hi)
      obtain ⟨cC, iS, h⟩ := u_known (C := q.1) (T := q.2.1) (N := q.2.2) hts (vcl_in c q hq) hi
      refine ⟨(cC, iS), fun q' hq' => ?_⟩
      rw [hq] at hq'
      cases hq'
      exact h
    · refine ⟨(0, fun _ => 0), fun q hq => absurd (List.getElem?_eq_some_iff.mp hq).1 hc⟩
  obtain ⟨r, hr⟩ := Classical.axiomOfChoice key
  exact ⟨(fun c => (r c).1, fun c => (r c).2), hr⟩
theorem arr_ex {s : State} {args : Array Value} (hts : ∀ w ∈ lw_tbl, w.before args s = true) {ty : FieldType} (h : ty ∈ [FieldType.int, .long, .byte, .boolean, .object "HandsHeld$Hall", .object "HandsHeld$Moment", .object "HandsHeld$Tray"]) : ∃ cA : ClassId, ArrOfT s cA ty ∧ va_RA s cA ty := by
  simp only [List.mem_cons, List.not_mem_nil, or_false] at h
  rcases h with rfl | rfl | rfl | rfl | rfl | rfl | rfl
  · obtain ⟨cA, kA, comp, h1, h2, h3⟩ := Jvm.Cond.arrayClass_spec (type := .int) (hts _ (tbN_in (i := 1074) (by decide +kernel)))
    exact ⟨cA, fun n z => ⟨fun k h => (by cases h), kA, h2, comp, h3⟩, h1⟩
  · obtain ⟨cA, kA, comp, h1, h2, h3⟩ := Jvm.Cond.arrayClass_spec (type := .long) (hts _ (tbN_in (i := 2128) (by decide +kernel)))
    exact ⟨cA, fun n z => ⟨fun k h => (by cases h), kA, h2, comp, h3⟩, h1⟩
  · obtain ⟨cA, kA, comp, h1, h2, h3⟩ := Jvm.Cond.arrayClass_spec (type := .byte) (hts _ (tbN_in (i := 1073) (by decide +kernel)))
    exact ⟨cA, fun n z => ⟨fun k h => (by cases h), kA, h2, comp, h3⟩, h1⟩
  · obtain ⟨cA, kA, comp, h1, h2, h3⟩ := Jvm.Cond.arrayClass_spec (type := .boolean) (hts _ (tbN_in (i := 2026) (by decide +kernel)))
    exact ⟨cA, fun n z => ⟨fun k h => (by cases h), kA, h2, comp, h3⟩, h1⟩
  · obtain ⟨comp, cA, kA, h1, -, h2, h3, h4⟩ := Jvm.Cond.arrayOver_spec (hts (Jvm.Cond.arrayOver (.object "HandsHeld$Hall")) (tbN_in (i := 1185) (by decide +kernel)))
    exact ⟨cA, fun n z => ⟨fun k h => (by cases h), kA, h2, comp, h3⟩, kA, comp, h2, h3, h1, h4⟩
  · obtain ⟨comp, cA, kA, h1, -, h2, h3, h4⟩ := Jvm.Cond.arrayOver_spec (hts (Jvm.Cond.arrayOver (.object "HandsHeld$Moment")) (tbN_in (i := 1182) (by decide +kernel)))
    exact ⟨cA, fun n z => ⟨fun k h => (by cases h), kA, h2, comp, h3⟩, kA, comp, h2, h3, h1, h4⟩
  · obtain ⟨comp, cA, kA, h1, -, h2, h3, h4⟩ := Jvm.Cond.arrayOver_spec (hts (Jvm.Cond.arrayOver (.object "HandsHeld$Tray")) (tbN_in (i := 1184) (by decide +kernel)))
    exact ⟨cA, fun n z => ⟨fun k h => (by cases h), kA, h2, comp, h3⟩, kA, comp, h2, h3, h1, h4⟩
theorem arr_ok {s : State} {args : Array Value} (hts : ∀ w ∈ lw_tbl, w.before args s = true) : ∃ a : Int → ClassId, ∀ (k : Nat) (ty : FieldType) (n : Nat), shL[k]? = some (.inl (ty, n)) → ArrOfT s (a k) ty ∧ va_RA s (a k) ty := by
  have key : ∀ z : Int, ∃ cA : ClassId, ∀ (k : Nat) (ty : FieldType) (n : Nat), z = k → shL[k]? = some (.inl (ty, n)) → ArrOfT s cA ty ∧ va_RA s cA ty := by
    intro z
    by_cases hz : ∃ (k : Nat) (ty : FieldType) (n : Nat), z = k ∧ shL[k]? = some (.inl (ty, n))
    · obtain ⟨k, ty, n, rfl, hs⟩ := hz
      have hk : (List.range 138).all (fun k => match shL[k]? with
        | some (.inl (ty, _)) => decide (ty ∈ [FieldType.int, .long, .byte, .boolean, .object "HandsHeld$Hall", .object "HandsHeld$Moment", .object "HandsHeld$Tray"])
        | _ => true) = true := by decide +kernel
      have h1 := List.all_eq_true.mp hk k (List.mem_range.mpr (shL_lt hs))
      rw [hs] at h1
      obtain ⟨cA, h⟩ := arr_ex hts (of_decide_eq_true h1)
      refine ⟨cA, fun k' ty' n' e hs' => ?_⟩
      have e' : k = k' := by omega
      subst e'
      rw [hs] at hs'
      cases hs'
      exact h
    · exact ⟨0, fun k ty n e hs => absurd ⟨k, ty, n, e, hs⟩ hz⟩
  obtain ⟨a, ha⟩ := Classical.axiomOfChoice key
  exact ⟨a, fun k ty n hs => ha k k ty n rfl hs⟩
end XI
