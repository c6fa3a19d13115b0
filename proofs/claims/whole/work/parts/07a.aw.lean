/-! the judgement at a pc, and a row an instruction -/
def Sit (G : AG) (d : Nat) (mi : MI) (p : Program) (R : Room) (s : State) (m : MethodId) (args : Array Value) (c : Code) : Prop :=
  p.tables.exec = Jvm.exec ∧ c.code = mi.2.1 ∧ c.maxLocals = mi.2.2.1 ∧ s.vm.findClass mi.1.cls = some m.cls ∧ (∀ w ∈ TG, w.before args s = true) ∧ d ≤ R.frames ∧ 64 * d ≤ R.locals ∧ va_K G.2.1 vcl (tysOf G) s ∧ Rom G s s.heap ∧ inj G
def Now (G : AG) (mi : MI) (s : State) (H : Heap) (locs : List Loc) (ls : Array Slot) (L : AL) (S : List AV) (M : AM) : Prop :=
  va_P G.2.1 vcl (wsOf G M) H ∧ va_S (Aof G) s.heap H locs ∧ LR G ls mi.2.2.1 L ∧ okL L ∧ okS S ∧ okM M
def retI (r : Option AV) : Instr := match r with
  | none => .return_
  | some (.inl _) => .ireturn
  | some (.inr (.inl _)) => .lreturn
  | some (.inr (.inr _)) => .areturn
def fitR (ret : Option FieldType) (r : Option AV) : Prop := match ret, r with
  | none, none => True
  | some .long, some (.inr (.inl x)) => inL x
  | some .int, some (.inl x) => inI x
  | some .boolean, some (.inl x) => x = 0 ∨ x = 1
  | some .char, some (.inl x) => 0 ≤ x ∧ x ≤ 65535
  | some .byte, some (.inl x) => -128 ≤ x ∧ x ≤ 127
  | _, _ => False
def RetOK (G : AG) (mi : MI) (Q : Option AV → AM → Prop) (p : Program) (e : Env) (R : Room) (s : State) (m : MethodId) (args : Array Value) (below : List Frame) (meth : Method) (c : Code) (cells slots : Nat) (Z : State → Prop) : Prop :=
  ∀ (r : Option AV) (M' : AM) (H' : Heap) (locs' : List Loc) (ls' : Array Slot) (pc' : Nat), Q r M' → fitR mi.2.2.2 r → va_P G.2.1 vcl (wsOf G M') H' → va_S (Aof G) s.heap H' locs' → okM M' → decode mi.2.1 pc' = .ok (retI r, 1) → W p G.1 e R s m args below meth c H' locs' cells slots Z (F0 m pc' ls' (r.toList.map (cv G)))
def AW (G : AG) (d : Nat) (mi : MI) (Q : Option AV → AM → Prop) (pc : Nat) (L : AL) (S : List AV) (M : AM) : Prop :=
  ∀ (p : Program) (e : Env) (R : Room) (s : State) (m : MethodId) (args : Array Value) (below : List Frame) (meth : Method) (c : Code) (cells slots : Nat) (Z : State → Prop) (H : Heap) (locs : List Loc) (ls : Array Slot), Sit G d mi p R s m args c → (cells ≤ R.cells ∧ slots ≤ R.slots) → RetOK G mi Q p e R s m args below meth c cells slots Z → Now G mi s H locs ls L S M →
    W p G.1 e R s m args below meth c H locs cells slots Z (F0 m pc ls (S.map (cv G)))
theorem Now.to {G : AG} {mi : MI} {s : State} {H : Heap} {locs : List Loc} {ls : Array Slot} {L : AL} {S S' : List AV} {M : AM} (h : Now G mi s H locs ls L S M) (h' : okS S → okS S') : Now G mi s H locs ls L S' M := ⟨h.1, h.2.1, h.2.2.1, h.2.2.2.1, h' h.2.2.2.2.1, h.2.2.2.2.2⟩
theorem okS_c {v : AV} {S : List AV} : okS (v :: S) ↔ okV v ∧ okS S := List.forall_mem_cons
theorem okS_i {x : Int} {S : List AV} : okS (vi x :: S) ↔ inI x ∧ okS S := okS_c
theorem okS_l {x : Int} {S : List AV} : okS (vl x :: S) ↔ inL x ∧ okS S := okS_c
theorem okS_r {x : Int} {S : List AV} : okS (vr x :: S) ↔ okS S := okS_c.trans ⟨fun h => h.2, fun h => ⟨trivial, h⟩⟩
section AWR
variable {G : AG} {d : Nat} {mi : MI} {Q : Option AV → AM → Prop} {pc : Nat} {L : AL} {S : List AV} {M : AM}
/-- push a constant -/
theorem aw_iconst {n : Int} (hd : decode mi.2.1 pc = .ok (.iconst n, 1)) (hn : inI n) (k : AW G d mi Q (pc + 1) L (vi n :: S) M) : AW G d mi Q pc L S M := by
  intro p e R s m args below meth c cells slots Z H locs ls hS hc hR hN
  exact lv_iconst hS.1 hS.2.1 hd rfl (k p e R s m args below meth c cells slots Z H locs ls hS hc hR (hN.to fun h => okS_i.mpr ⟨hn, h⟩))
theorem i8_3 : ∀ n : Int, -128 ≤ n → n ≤ 127 → (Int8.ofInt n).toInt32 = i3 n := by
  intro n h1 h2
  apply Int32.toInt_inj.mp
  rw [Int8.toInt_toInt32, Int8.toInt_ofInt_of_le (by omega) (by omega), i3_to ⟨by omega, by omega⟩]
theorem i16_3 : ∀ n : Int, -32768 ≤ n → n ≤ 32767 → (Int16.ofInt n).toInt32 = i3 n := by
  intro n h1 h2
  apply Int32.toInt_inj.mp
  rw [Int16.toInt_toInt32, Int16.toInt_ofInt_of_le (by omega) (by omega), i3_to ⟨by omega, by omega⟩]
theorem aw_bipush {n : Int} (hd : decode mi.2.1 pc = .ok (.bipush n, 2)) (h1 : -128 ≤ n) (h2 : n ≤ 127) (k : AW G d mi Q (pc + 2) L (vi n :: S) M) : AW G d mi Q pc L S M := by
  intro p e R s m args below meth c cells slots Z H locs ls hS hc hR hN
  exact lv_bipush hS.1 hS.2.1 hd (i8_3 n h1 h2) (k p e R s m args below meth c cells slots Z H locs ls hS hc hR (hN.to fun h => okS_i.mpr ⟨⟨by omega, by omega⟩, h⟩))
theorem aw_sipush {n : Int} (hd : decode mi.2.1 pc = .ok (.sipush n, 3)) (h1 : -32768 ≤ n) (h2 : n ≤ 32767) (k : AW G d mi Q (pc + 3) L (vi n :: S) M) : AW G d mi Q pc L S M := by
  intro p e R s m args below meth c cells slots Z H locs ls hS hc hR hN
  exact lv_sipush hS.1 hS.2.1 hd (i16_3 n h1 h2) (k p e R s m args below meth c cells slots Z H locs ls hS hc hR (hN.to fun h => okS_i.mpr ⟨⟨by omega, by omega⟩, h⟩))
theorem aw_lconst {n : Fin 2} {v : Int} (hd : decode mi.2.1 pc = .ok (.lconst n, 1)) (hv : (n.val : Int) = v) (k : AW G d mi Q (pc + 1) L (vl v :: S) M) : AW G d mi Q pc L S M := by
  intro p e R s m args below meth c cells slots Z H locs ls hS hc hR hN
  subst hv
  exact lv_lconst hS.1 hS.2.1 hd rfl (k p e R s m args below meth c cells slots Z H locs ls hS hc hR (hN.to fun h => okS_l.mpr ⟨⟨by omega, by omega⟩, h⟩))
theorem aw_ldc {ix : Nat} {v : Int} (hd : decode mi.2.1 pc = .ok (.ldc ix, 2)) (hv : inI v) (hw : Jvm.Cond.constant mi.1.cls ix (i3 v) ∈ TG) (k : AW G d mi Q (pc + 2) L (vi v :: S) M) : AW G d mi Q pc L S M := by
  intro p e R s m args below meth c cells slots Z H locs ls hS hc hR hN
  exact lv_ldc hS.1 hS.2.1 hS.2.2.2.1 (hS.2.2.2.2.1 _ hw) hd (k p e R s m args below meth c cells slots Z H locs ls hS hc hR (hN.to fun h => okS_i.mpr ⟨hv, h⟩))
theorem aw_ldcw {ix : Nat} {v : Int} (hd : decode mi.2.1 pc = .ok (.ldc_w ix, 3)) (hv : inI v) (hw : Jvm.Cond.constant mi.1.cls ix (i3 v) ∈ TG) (k : AW G d mi Q (pc + 3) L (vi v :: S) M) : AW G d mi Q pc L S M := by
  intro p e R s m args below meth c cells slots Z H locs ls hS hc hR hN
  exact lv_ldcw hS.1 hS.2.1 hS.2.2.2.1 (hS.2.2.2.2.1 _ hw) hd (k p e R s m args below meth c cells slots Z H locs ls hS hc hR (hN.to fun h => okS_i.mpr ⟨hv, h⟩))
theorem aw_ldc2 {ix : Nat} {v : Int} (hd : decode mi.2.1 pc = .ok (.ldc2_w ix, 3)) (hv : inL v) (hw : Jvm.Cond.constantLong mi.1.cls ix (i6 v) ∈ TG) (k : AW G d mi Q (pc + 3) L (vl v :: S) M) : AW G d mi Q pc L S M := by
  intro p e R s m args below meth c cells slots Z H locs ls hS hc hR hN
  exact lv_ldc2 hS.1 hS.2.1 hS.2.2.2.1 (hS.2.2.2.2.1 _ hw) hd (k p e R s m args below meth c cells slots Z H locs ls hS hc hR (hN.to fun h => okS_l.mpr ⟨hv, h⟩))
/-! locals -/
theorem aw_iload {i : Nat} {a : Int} (hd : decode mi.2.1 pc = .ok (.iload i, 2)) (hl : getL L i = some (.inl a)) (k : AW G d mi Q (pc + 2) L (vi a :: S) M) : AW G d mi Q pc L S M := by
  intro p e R s m args below meth c cells slots Z H locs ls hS hc hR hN
  exact lv_iload hS.1 hS.2.1 hd (hN.2.2.1.at hl) (k p e R s m args below meth c cells slots Z H locs ls hS hc hR (hN.to fun h => okS_i.mpr ⟨getL_ok hN.2.2.2.1 hl, h⟩))
theorem aw_iload_n {n : Fin 4} {i : Nat} {a : Int} (hd : decode mi.2.1 pc = .ok (.iload_n n, 1)) (hi : n.val = i) (hl : getL L i = some (.inl a)) (k : AW G d mi Q (pc + 1) L (vi a :: S) M) : AW G d mi Q pc L S M := by
  intro p e R s m args below meth c cells slots Z H locs ls hS hc hR hN
  exact lv_iload_n hS.1 hS.2.1 hd hi (hN.2.2.1.at hl) (k p e R s m args below meth c cells slots Z H locs ls hS hc hR (hN.to fun h => okS_i.mpr ⟨getL_ok hN.2.2.2.1 hl, h⟩))
theorem aw_lload {i : Nat} {a : Int} (hd : decode mi.2.1 pc = .ok (.lload i, 2)) (hl : getL L i = some (.inr (.inl a))) (k : AW G d mi Q (pc + 2) L (vl a :: S) M) : AW G d mi Q pc L S M := by
  intro p e R s m args below meth c cells slots Z H locs ls hS hc hR hN
  exact lv_lload hS.1 hS.2.1 hd (hN.2.2.1.at hl) (k p e R s m args below meth c cells slots Z H locs ls hS hc hR (hN.to fun h => okS_l.mpr ⟨getL_ok hN.2.2.2.1 hl, h⟩))
theorem aw_lload_n {n : Fin 4} {i : Nat} {a : Int} (hd : decode mi.2.1 pc = .ok (.lload_n n, 1)) (hi : n.val = i) (hl : getL L i = some (.inr (.inl a))) (k : AW G d mi Q (pc + 1) L (vl a :: S) M) : AW G d mi Q pc L S M := by
  intro p e R s m args below meth c cells slots Z H locs ls hS hc hR hN
  exact lv_lload_n hS.1 hS.2.1 hd hi (hN.2.2.1.at hl) (k p e R s m args below meth c cells slots Z H locs ls hS hc hR (hN.to fun h => okS_l.mpr ⟨getL_ok hN.2.2.2.1 hl, h⟩))
theorem ab_aload {p : Program} {l : Launch} {e : Env} {R : Room} {s : State} {m : MethodId} {args : Array Value} {below : List Frame} {meth : Method} {c : Code} {H : Heap} {locs : List Loc} {cells slots : Nat} {Z : State → Prop} {cc : ByteArray} {pc : Nat} {ls : Array Slot} {rest : List Value} (hexec : p.tables.exec = Jvm.exec) (hb : c.code = cc) {i : Nat} {x : Option Nat} (hdg : decode cc pc = .ok (.aload i, 2)) (hl : ls[i]? = some (.val (va_rf x)))
    (k : W p l e R s m args below meth c H locs cells slots Z (F0 m (pc + 2) ls (va_rf x :: rest))) : W p l e R s m args below meth c H locs cells slots Z (F0 m pc ls rest) := by
  cases x with
  | some x => exact lv_aload hexec hb hdg hl k
  | none =>
    have hl : ls[i]? = some (.val .null) := hl
    intro T hT X
    obtain ⟨t, a, b⟩ := k T hT X
    refine ⟨t, ?_, b⟩
    jvm_step X.here [X.here.top, hexec, hb, hdg, hl, Value.isRef]
    exact a
theorem ab_aload_n {p : Program} {l : Launch} {e : Env} {R : Room} {s : State} {m : MethodId} {args : Array Value} {below : List Frame} {meth : Method} {c : Code} {H : Heap} {locs : List Loc} {cells slots : Nat} {Z : State → Prop} {cc : ByteArray} {pc : Nat} {ls : Array Slot} {rest : List Value} (hexec : p.tables.exec = Jvm.exec) (hb : c.code = cc) {n : Fin 4} {i : Nat} {x : Option Nat} (hdg : decode cc pc = .ok (.aload_n n, 1)) (hi : n.val = i) (hl : ls[i]? = some (.val (va_rf x)))
    (k : W p l e R s m args below meth c H locs cells slots Z (F0 m (pc + 1) ls (va_rf x :: rest))) : W p l e R s m args below meth c H locs cells slots Z (F0 m pc ls rest) := by
  cases x with
  | some x => exact lv_aload_n hexec hb hdg hi hl k
  | none =>
    subst hi
    have hl : ls[n.val]? = some (.val .null) := hl
    intro T hT X
    obtain ⟨t, a, b⟩ := k T hT X
    refine ⟨t, ?_, b⟩
    jvm_step X.here [X.here.top, hexec, hb, hdg, hl, Value.isRef]
    exact a
theorem aw_aload {i : Nat} {a : Int} (hd : decode mi.2.1 pc = .ok (.aload i, 2)) (hl : getL L i = some (.inr (.inr a))) (k : AW G d mi Q (pc + 2) L (vr a :: S) M) : AW G d mi Q pc L S M := by
  intro p e R s m args below meth c cells slots Z H locs ls hS hc hR hN
  exact ab_aload hS.1 hS.2.1 hd (hN.2.2.1.at hl) (k p e R s m args below meth c cells slots Z H locs ls hS hc hR (hN.to fun h => okS_r.mpr h))
theorem aw_aload_n {n : Fin 4} {i : Nat} {a : Int} (hd : decode mi.2.1 pc = .ok (.aload_n n, 1)) (hi : n.val = i) (hl : getL L i = some (.inr (.inr a))) (k : AW G d mi Q (pc + 1) L (vr a :: S) M) : AW G d mi Q pc L S M := by
  intro p e R s m args below meth c cells slots Z H locs ls hS hc hR hN
  exact ab_aload_n hS.1 hS.2.1 hd hi (hN.2.2.1.at hl) (k p e R s m args below meth c cells slots Z H locs ls hS hc hR (hN.to fun h => okS_r.mpr h))
theorem Now.st1 {s : State} {H : Heap} {locs : List Loc} {ls ls' : Array Slot} {i : Nat} {v : AV} (h : Now G mi s H locs ls L (v :: S) M) (hl : lv_has ls' mi.2.2.1 ((i, cv G v) :: (asc G 0 L).filter (fun q => !(q.1 == i) && !(q.1 + 1 == i && q.2.category == 2)))) : Now G mi s H locs ls' (st1 L i v) S M :=
  ⟨h.1, h.2.1, LR.st1 h.2.2.1.2 hl, st1_ok h.2.2.2.1 (okS_c.mp h.2.2.2.2.1).1, (okS_c.mp h.2.2.2.2.1).2, h.2.2.2.2.2⟩
theorem Now.st2 {s : State} {H : Heap} {locs : List Loc} {ls ls' : Array Slot} {i : Nat} {v : AV} (h : Now G mi s H locs ls L (v :: S) M) (hl : lv_has ls' mi.2.2.1 ((i, cv G v) :: (asc G 0 L).filter (fun q => !(q.1 == i) && (!(q.1 == i + 1) && !(q.1 + 1 == i && q.2.category == 2))))) : Now G mi s H locs ls' (st2 L i v) S M :=
  ⟨h.1, h.2.1, LR.st2 h.2.2.1.2 hl, st2_ok h.2.2.2.1 (okS_c.mp h.2.2.2.2.1).1, (okS_c.mp h.2.2.2.2.1).2, h.2.2.2.2.2⟩
theorem aw_istore {i : Nat} {a : Int} (hd : decode mi.2.1 pc = .ok (.istore i, 2)) (hi : i < mi.2.2.1) (k : AW G d mi Q (pc + 2) (st1 L i (vi a)) S M) : AW G d mi Q pc L (vi a :: S) M := by
  intro p e R s m args below meth c cells slots Z H locs ls hS hc hR hN
  exact lv_istore hS.1 hS.2.1 hd hN.2.2.1.1 hi rfl (fun ls' hl => k p e R s m args below meth c cells slots Z H locs ls' hS hc hR (hN.st1 hl))
theorem aw_istore_n {n : Fin 4} {i : Nat} {a : Int} (hd : decode mi.2.1 pc = .ok (.istore_n n, 1)) (hn : n.val = i) (hi : i < mi.2.2.1) (k : AW G d mi Q (pc + 1) (st1 L i (vi a)) S M) : AW G d mi Q pc L (vi a :: S) M := by
  intro p e R s m args below meth c cells slots Z H locs ls hS hc hR hN
  exact lv_istore_n hS.1 hS.2.1 hd hn hN.2.2.1.1 hi rfl (fun ls' hl => k p e R s m args below meth c cells slots Z H locs ls' hS hc hR (hN.st1 hl))
theorem aw_lstore {i : Nat} {a : Int} (hd : decode mi.2.1 pc = .ok (.lstore i, 2)) (hi : i + 1 < mi.2.2.1) (k : AW G d mi Q (pc + 2) (st2 L i (vl a)) S M) : AW G d mi Q pc L (vl a :: S) M := by
  intro p e R s m args below meth c cells slots Z H locs ls hS hc hR hN
  exact lv_lstore hS.1 hS.2.1 hd hN.2.2.1.1 hi rfl (fun ls' hl => k p e R s m args below meth c cells slots Z H locs ls' hS hc hR (hN.st2 hl))
theorem aw_lstore_n {n : Fin 4} {i : Nat} {a : Int} (hd : decode mi.2.1 pc = .ok (.lstore_n n, 1)) (hn : n.val = i) (hi : i + 1 < mi.2.2.1) (k : AW G d mi Q (pc + 1) (st2 L i (vl a)) S M) : AW G d mi Q pc L (vl a :: S) M := by
  intro p e R s m args below meth c cells slots Z H locs ls hS hc hR hN
  exact lv_lstore_n hS.1 hS.2.1 hd hn hN.2.2.1.1 hi rfl (fun ls' hl => k p e R s m args below meth c cells slots Z H locs ls' hS hc hR (hN.st2 hl))
theorem cv_r {a : Int} (h : ¬ a = -1) : cv G (vr a) = .ref (G.2.2.1 a) := by simp [cv, adr, h, va_rf]
theorem aw_astore {i : Nat} {a : Int} (hd : decode mi.2.1 pc = .ok (.astore i, 2)) (hi : i < mi.2.2.1) (ha : ¬ a = -1) (k : AW G d mi Q (pc + 2) (st1 L i (vr a)) S M) : AW G d mi Q pc L (vr a :: S) M := by
  intro p e R s m args below meth c cells slots Z H locs ls hS hc hR hN
  rw [List.map_cons, cv_r ha]
  exact lv_astore hS.1 hS.2.1 hd hN.2.2.1.1 hi rfl (fun ls' hl => k p e R s m args below meth c cells slots Z H locs ls' hS hc hR (hN.st1 (by rw [cv_r ha]; exact hl)))
theorem aw_astore_n {n : Fin 4} {i : Nat} {a : Int} (hd : decode mi.2.1 pc = .ok (.astore_n n, 1)) (hn : n.val = i) (hi : i < mi.2.2.1) (ha : ¬ a = -1) (k : AW G d mi Q (pc + 1) (st1 L i (vr a)) S M) : AW G d mi Q pc L (vr a :: S) M := by
  intro p e R s m args below meth c cells slots Z H locs ls hS hc hR hN
  rw [List.map_cons, cv_r ha]
  exact lv_astore_n hS.1 hS.2.1 hd hn hN.2.2.1.1 hi rfl (fun ls' hl => k p e R s m args below meth c cells slots Z H locs ls' hS hc hR (hN.st1 (by rw [cv_r ha]; exact hl)))
theorem aw_iinc {i : Nat} {n a : Int} (hd : decode mi.2.1 pc = .ok (.iinc i n, 3)) (hi : i < mi.2.2.1) (hl : getL L i = some (.inl a)) (hr : inI (a + n)) (k : AW G d mi Q (pc + 3) (st1 L i (vi (a + n))) S M) : AW G d mi Q pc L S M := by
  intro p e R s m args below meth c cells slots Z H locs ls hS hc hR hN
  obtain ⟨kk, hk⟩ := List.getElem?_of_mem ((asc_mem (G := G) L 0 (i, cv G (vi a))).mpr ⟨i, vi a, getL_eq hl, by simp⟩)
  exact lv_iinc hS.1 hS.2.1 hd hN.2.2.1.1 hk (i3_add a n) hi rfl (fun ls' hl' => k p e R s m args below meth c cells slots Z H locs ls' hS hc hR (Now.st1 (v := vi (a + n)) (hN.to fun h => okS_i.mpr ⟨hr, h⟩) hl'))
end AWR
