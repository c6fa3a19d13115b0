/-! THE CONSTRUCTORS: a world that grows, place by place -/
section XA
def dfl (ty : FieldType) : Int := match ty with
  | .object _ => -1
  | .array _ => -1
  | _ => 0
/-- the memory in which nothing is written yet -/
def D0 : AM := fun z i => match shK z with
  | some (.inl (ty, _)) => dfl ty
  | some (.inr ci) => dfl (tyOf ci i.toNat)
  | none => 0
def Fr (M : AM) (n : Nat) : Prop := ∀ x : Int, (n : Int) ≤ x → M x = D0 x
def Lin (G : AG) : Prop := ∀ k : Nat, G.2.2.1 (k : Int) = G.2.2.1 ((0 : Nat) : Int) + k
variable {G : AG} {M M' : AM} {n : Nat}
theorem Lin.inj (h : Lin G) : inj G := fun i j _ _ e => by
  rw [h i, h j] at e
  omega
theorem Lin.s (h : Lin G) (n : Nat) : G.2.2.1 ((n + 1 : Nat) : Int) = G.2.2.1 (n : Int) + 1 := by
  rw [h (n + 1), h n]
  omega
def AOs (U : State) : Prop := va_AO "HandsHeld$Hall" U ∧ va_AO "HandsHeld$Moment" U ∧ va_AO "HandsHeld$Tray" U
theorem AOs.moved {u U : State} (h : u.vm.Alike U.vm) (a : AOs u) : AOs U := ⟨a.1.moved h, a.2.1.moved h, a.2.2.moved h⟩
def wsN (G : AG) (M : AM) (n : Nat) : va_W := (wsOf G M).take n
theorem wsN_at {k : Nat} {s : (FieldType × Nat) ⊕ Nat} (h : shL[k]? = some s) (hk : k < n) : (wsN G M n)[k]? = some (G.2.2.1 k, cellOf G M k s) := by
  unfold wsN
  rw [List.getElem?_take_of_lt hk]
  exact wsOf_at h
theorem wsN_sub {k : Nat} {q : Nat × va_E} (h : (wsN G M n)[k]? = some q) : k < n ∧ (wsOf G M)[k]? = some q := by
  unfold wsN at h
  rw [List.getElem?_take] at h
  split at h
  · next hk => exact ⟨hk, h⟩
  · cases h
theorem wsN_D (h : inj G) : va_D (Aof G) (wsN G M n) := by
  obtain ⟨a, b⟩ := wsOf_D (M := M) h
  exact ⟨fun i j p q hp hq e => a i j p q (wsN_sub hp).2 (wsN_sub hq).2 e, fun k q hq => b k q (wsN_sub hq).2⟩
theorem wsN_set {k : Nat} {s : (FieldType × Nat) ⊕ Nat} (h : shL[k]? = some s) (ho : ∀ (a : Nat), a ≠ k → ∀ b, M' a b = M a b) : (wsN G M n).set k (G.2.2.1 k, cellOf G M' k s) = wsN G M' n := by
  unfold wsN
  rw [← List.take_set, wsOf_set h ho]
theorem wsN_push {s : (FieldType × Nat) ⊕ Nat} (h : shL[n]? = some s) : wsN G M (n + 1) = wsN G M n ++ [(G.2.2.1 n, cellOf G M n s)] := by
  unfold wsN
  rw [List.take_succ, wsOf_at h]
  rfl
theorem wsN_all : wsN G M NN = wsOf G M := by
  unfold wsN
  exact List.take_of_length_le (by rw [wsOf_len]; exact Nat.le_refl _)
theorem Fr.put {z : Nat} {i v : Int} (h : Fr M n) (hz : z < n) : Fr (up M (z : Int) i v) n := fun x hx => by
  rw [show up M (z : Int) i v x = M x from funext fun y => up_ne1 (by omega)]
  exact h x hx
theorem Fr.s (h : Fr M n) : Fr M (n + 1) := fun x hx => h x (by omega)
theorem Fr.at {s : (FieldType × Nat) ⊕ Nat} (h : Fr M n) (hs : shL[n]? = some s) (i : Int) : M n i = match s with
  | .inl (ty, _) => dfl ty
  | .inr ci => dfl (tyOf ci i.toNat) := by
  rw [h n (by omega)]
  have e : shK (n : Int) = some s := by
    unfold shK
    rw [if_pos (by omega)]
    exact hs
  unfold D0
  rw [e]
  cases s <;> rfl
/-- what is fixed in a constructor's walk -/
def SitC (G : AG) (d : Nat) (mi : MI) (mc ms : Nat) (p : Program) (R : Room) (s : State) (m : MethodId) (args : Array Value) (meth : Method) (c : Code) : Prop :=
  Sit G d mi p R s m args c ∧ Lin G ∧ AOs s ∧ (mc ≤ R.cells ∧ ms ≤ R.slots) ∧ (mi.1.name = "<init>" → meth.name = "<init>")
def NowC (G : AG) (mi : MI) (s : State) (H : Heap) (locs : List Loc) (ls : Array Slot) (L : AL) (S : List AV) (n : Nat) (M : AM) (cl : Nat) : Prop :=
  va_P G.2.1 vcl (wsN G M n) H ∧ H.size = G.2.2.1 (n : Int) ∧ va_S (Aof G) s.heap H locs ∧ LR G ls mi.2.2.1 L ∧ okL L ∧ okS S ∧ Fr M n ∧ n ≤ NN ∧ s.heap.size + cl = G.2.2.1 (n : Int)
abbrev RCt : Type := Program → Env → Room → State → MethodId → Array Value → List Frame → Method → Code → (State → Prop) → Prop
def CW (G : AG) (d : Nat) (mi : MI) (mc ms : Nat) (RC : RCt) (pc : Nat) (L : AL) (S : List AV) (n : Nat) (M : AM) (cl sl : Nat) : Prop :=
  ∀ (p : Program) (e : Env) (R : Room) (s : State) (m : MethodId) (args : Array Value) (below : List Frame) (meth : Method) (c : Code) (Z : State → Prop) (H : Heap) (locs : List Loc) (ls : Array Slot), SitC G d mi mc ms p R s m args meth c → RC p e R s m args below meth c Z → NowC G mi s H locs ls L S n M cl →
    W p G.1 e R s m args below meth c H locs cl sl Z (F0 m pc ls (S.map (cv G)))
theorem NowC.to {mi : MI} {cl : Nat} {s : State} {H : Heap} {locs : List Loc} {ls : Array Slot} {L : AL} {S S' : List AV} (h : NowC G mi s H locs ls L S n M cl) (h' : okS S → okS S') : NowC G mi s H locs ls L S' n M cl := ⟨h.1, h.2.1, h.2.2.1, h.2.2.2.1, h.2.2.2.2.1, h' h.2.2.2.2.2.1, h.2.2.2.2.2.2⟩
end XA
section XB
variable {G : AG} {d : Nat} {mi : MI} {mc ms : Nat} {RC : RCt} {pc : Nat} {L : AL} {S : List AV} {n : Nat} {M : AM} {cl sl : Nat}
theorem cw_aload {k : Fin 4} {i : Nat} {a : Int} (hd : decode mi.2.1 pc = .ok (.aload_n k, 1)) (hi : k.val = i) (hl : getL L i = some (.inr (.inr a))) (kk : CW G d mi mc ms RC (pc + 1) L (vr a :: S) n M cl sl) : CW G d mi mc ms RC pc L S n M cl sl := by
  intro p e R s m args below meth c Z H locs ls hS hR hN
  exact ab_aload_n hS.1.1 hS.1.2.1 hd hi (hN.2.2.2.1.at hl) (kk p e R s m args below meth c Z H locs ls hS hR (hN.to fun h => okS_r.mpr h))
theorem cw_iload {k : Fin 4} {i : Nat} {a : Int} (hd : decode mi.2.1 pc = .ok (.iload_n k, 1)) (hi : k.val = i) (hl : getL L i = some (.inl a)) (kk : CW G d mi mc ms RC (pc + 1) L (vi a :: S) n M cl sl) : CW G d mi mc ms RC pc L S n M cl sl := by
  intro p e R s m args below meth c Z H locs ls hS hR hN
  exact lv_iload_n hS.1.1 hS.1.2.1 hd hi (hN.2.2.2.1.at hl) (kk p e R s m args below meth c Z H locs ls hS hR (hN.to fun h => okS_i.mpr ⟨getL_ok hN.2.2.2.2.1 hl, h⟩))
theorem cw_iconst {x : Int} (hd : decode mi.2.1 pc = .ok (.iconst x, 1)) (hn : inI x) (kk : CW G d mi mc ms RC (pc + 1) L (vi x :: S) n M cl sl) : CW G d mi mc ms RC pc L S n M cl sl := by
  intro p e R s m args below meth c Z H locs ls hS hR hN
  exact lv_iconst hS.1.1 hS.1.2.1 hd rfl (kk p e R s m args below meth c Z H locs ls hS hR (hN.to fun h => okS_i.mpr ⟨hn, h⟩))
theorem cw_bipush {x : Int} (hd : decode mi.2.1 pc = .ok (.bipush x, 2)) (h1 : -128 ≤ x) (h2 : x ≤ 127) (kk : CW G d mi mc ms RC (pc + 2) L (vi x :: S) n M cl sl) : CW G d mi mc ms RC pc L S n M cl sl := by
  intro p e R s m args below meth c Z H locs ls hS hR hN
  exact lv_bipush hS.1.1 hS.1.2.1 hd (i8_3 x h1 h2) (kk p e R s m args below meth c Z H locs ls hS hR (hN.to fun h => okS_i.mpr ⟨⟨by omega, by omega⟩, h⟩))
theorem cw_sipush {x : Int} (hd : decode mi.2.1 pc = .ok (.sipush x, 3)) (h1 : -32768 ≤ x) (h2 : x ≤ 32767) (kk : CW G d mi mc ms RC (pc + 3) L (vi x :: S) n M cl sl) : CW G d mi mc ms RC pc L S n M cl sl := by
  intro p e R s m args below meth c Z H locs ls hS hR hN
  exact lv_sipush hS.1.1 hS.1.2.1 hd (i16_3 x h1 h2) (kk p e R s m args below meth c Z H locs ls hS hR (hN.to fun h => okS_i.mpr ⟨⟨by omega, by omega⟩, h⟩))
theorem cw_ldc {ix : Nat} {v : Int} (hd : decode mi.2.1 pc = .ok (.ldc ix, 2)) (hv : inI v) (hw : Jvm.Cond.constant mi.1.cls ix (i3 v) ∈ TG) (kk : CW G d mi mc ms RC (pc + 2) L (vi v :: S) n M cl sl) : CW G d mi mc ms RC pc L S n M cl sl := by
  intro p e R s m args below meth c Z H locs ls hS hR hN
  exact lv_ldc hS.1.1 hS.1.2.1 hS.1.2.2.2.1 (hS.1.2.2.2.2.1 _ hw) hd (kk p e R s m args below meth c Z H locs ls hS hR (hN.to fun h => okS_i.mpr ⟨hv, h⟩))
theorem cw_dup {v : AV} (hd : decode mi.2.1 pc = .ok (.dup, 1)) (hv : ∀ x, v ≠ vl x) (kk : CW G d mi mc ms RC (pc + 1) L (v :: v :: S) n M cl sl) : CW G d mi mc ms RC pc L (v :: S) n M cl sl := by
  intro p e R s m args below meth c Z H locs ls hS hR hN
  exact lv_dup hS.1.1 hS.1.2.1 hd (cv_1 v hv) (kk p e R s m args below meth c Z H locs ls hS hR (hN.to fun h => okS_c.mpr ⟨(okS_c.mp h).1, h⟩))
theorem cw_istore {k : Fin 4} {i : Nat} {a : Int} (hd : decode mi.2.1 pc = .ok (.istore_n k, 1)) (hk : k.val = i) (hi : i < mi.2.2.1) (kk : CW G d mi mc ms RC (pc + 1) (st1 L i (vi a)) S n M cl sl) : CW G d mi mc ms RC pc L (vi a :: S) n M cl sl := by
  intro p e R s m args below meth c Z H locs ls hS hR hN
  exact lv_istore_n hS.1.1 hS.1.2.1 hd hk hN.2.2.2.1.1 hi rfl (fun ls' hl => kk p e R s m args below meth c Z H locs ls' hS hR ⟨hN.1, hN.2.1, hN.2.2.1, LR.st1 hN.2.2.2.1.2 hl, st1_ok hN.2.2.2.2.1 (okS_c.mp hN.2.2.2.2.2.1).1, (okS_c.mp hN.2.2.2.2.2.1).2, hN.2.2.2.2.2.2⟩)
theorem cw_iadd {a b : Int} (hd : decode mi.2.1 pc = .ok (.iadd, 1)) (hr : inI (a + b)) (kk : CW G d mi mc ms RC (pc + 1) L (vi (a + b) :: S) n M cl sl) : CW G d mi mc ms RC pc L (vi b :: vi a :: S) n M cl sl := by
  intro p e R s m args below meth c Z H locs ls hS hR hN
  refine lv_iadd hS.1.1 hS.1.2.1 hd ?_
  rw [i3_add]
  exact kk p e R s m args below meth c Z H locs ls hS hR (hN.to fun h => okS_i.mpr ⟨hr, (okS_i.mp (okS_i.mp h).2).2⟩)
theorem cw_icmp_ge {a b o : Int} {t : Nat} (hd : decode mi.2.1 pc = .ok (.if_icmp .ge o, 3)) (ht : (pc : Int) + o = (t : Int)) (kt : b ≤ a → CW G d mi mc ms RC t L S n M cl sl) (kf : ¬ b ≤ a → CW G d mi mc ms RC (pc + 3) L S n M cl sl) : CW G d mi mc ms RC pc L (vi b :: vi a :: S) n M cl sl := by
  intro p e R s m args below meth c Z H locs ls hS hR hN
  have hb := (okS_i.mp hN.2.2.2.2.2.1).1
  have ha := (okS_i.mp (okS_i.mp hN.2.2.2.2.2.1).2).1
  have hN2 : NowC G mi s H locs ls L S n M cl := hN.to fun h => (okS_i.mp (okS_i.mp h).2).2
  exact lv_icmp_ge hS.1.1 hS.1.2.1 hd ht (fun q => kt ((i3_le hb ha).mp q) p e R s m args below meth c Z H locs ls hS hR hN2) (fun q => kf (fun z => q ((i3_le hb ha).mpr z)) p e R s m args below meth c Z H locs ls hS hR hN2)
theorem cw_goto {o : Int} {t : Nat} (hd : decode mi.2.1 pc = .ok (.goto o, 3)) (ht : (pc : Int) + o = (t : Int)) (kk : CW G d mi mc ms RC t L S n M cl sl) : CW G d mi mc ms RC pc L S n M cl sl := by
  intro p e R s m args below meth c Z H locs ls hS hR hN
  exact lv_goto hS.1.1 hS.1.2.1 hd ht (kk p e R s m args below meth c Z H locs ls hS hR hN)
theorem cw_obj {ix : Nat} {a : Nat} (hd : decode mi.2.1 pc = .ok (.invokespecial ix, 3)) (hw1 : Jvm.Cond.methodLink mi.1.cls ix Lib.objectInit ∈ TG) (hw2 : Jvm.Cond.instanceMethod Lib.objectInit ∈ TG) (hw3 : Jvm.Cond.code Lib.objectInit ⟨#[0xb1]⟩ 1 none ∈ TG) (h4 : s4 S) (h1 : 1 ≤ d) (kk : CW G d mi mc ms RC (pc + 3) L S n M cl sl) : CW G d mi mc ms RC pc L (vr (a : Int) :: S) n M cl sl := by
  intro p e R s m args below meth c Z H locs ls hS hR hN
  have hl := cat_s4 (G := G) h4
  have hfr := hS.1.2.2.2.2.2.1
  have hlo := hS.1.2.2.2.2.2.2.1
  rw [List.map_cons, cv_r (nat_ne a)]
  refine W.objInit hS.1.1 hS.1.2.1 hS.1.2.2.2.1 (hS.1.2.2.2.2.1 _ hw1) (hS.1.2.2.2.2.1 _ hw2) (hS.1.2.2.2.2.1 _ hw3) (g := F0 m pc ls (.ref (G.2.2.1 (a : Int)) :: S.map (cv G))) rfl (by rw [hS.1.2.2.1]; exact hN.2.2.2.1.1.1) rfl hd (by omega) (by show 2 * 0 + _ + 12 ≤ _; omega) ?_
  exact W.eq (g2 := F0 m (pc + 3) ls (S.map (cv G))) rfl (kk p e R s m args below meth c Z H locs ls hS hR (hN.to fun h => okS_r.mp h))
/-- a place more -/
theorem nowC_push {s : State} {H H1 : Heap} {locs : List Loc} {ls : Array Slot} {S' : List AV} {sh : (FieldType × Nat) ⊕ Nat} (hL : Lin G) (hN : NowC G mi s H locs ls L S n M cl) (hs : shL[n]? = some sh) (hc : va_at G.2.1 vcl (G.2.2.1 (n : Int), cellOf G M n sh) H1) (z1 : H1.size = H.size + 1) (o1 : ∀ q : Nat, q < H.size → H1[q]? = H[q]?) (hS' : okS S → okS S') : NowC G mi s H1 locs ls L S' (n + 1) M (cl + 1) := by
  obtain ⟨hP, hsz, hS, h4, h5, h6, h7, h8, h9⟩ := hN
  have hlt := shL_lt hs
  refine ⟨?_, by rw [z1, hsz, hL.s n], ⟨by have := hS.1; omega, fun q h1 h2 => (o1 q (Nat.lt_of_lt_of_le h1 hS.1)).trans (hS.2.1 q h1 h2), hS.2.2⟩, h4, h5, hS' h6, h7.s, hlt, by rw [hL.s n]; omega⟩
  rw [wsN_push hs]
  refine va_P.app (hP.kept fun k x hx => o1 x.1 (hP k x hx).lt) fun k x hx => ?_
  have hz : k < 1 := (List.getElem?_eq_some_iff.mp hx).1
  rw [show k = 0 by omega] at hx
  cases hx
  exact hc
theorem arr_dfl {cA : ClassId} {N : Nat} {ty : FieldType} (hp : ty = .int ∨ ty = .long ∨ ty = .byte ∨ ty = .boolean) {f : Nat → Int} (hf : ∀ j, f j = dfl ty) : vp_cell cA (N, arrOf G ty f) = arrV cA N (fun _ => defaultValue ty) := by
  rcases hp with rfl | rfl | rfl | rfl
  · show arrV cA N (fun j => .int (i3 (f j))) = _
    congr 1; funext j; rw [hf j]; rfl
  · show arrV cA N (fun j => .long (i6 (f j))) = _
    congr 1; funext j; rw [hf j]; rfl
  · show arrV cA N (fun j => .int (i3 (f j))) = _
    congr 1; funext j; rw [hf j]; rfl
  · show arrV cA N (fun j => .int (i3 (f j))) = _
    congr 1; funext j; rw [hf j]; rfl
theorem cw_newa {aty : ArrayType} {ty : FieldType} {N : Nat} (hd : decode mi.2.1 pc = .ok (.newarray aty, 2)) (hty : newarray.typeOf aty = ty) (hp : ty = .int ∨ ty = .long ∨ ty = .byte ∨ ty = .boolean) (hs : shL[n]? = some (.inl (ty, N))) (hw : Jvm.Cond.arrayClass ty ∈ TG) (hN9 : N ≤ 100000) (hcl : cl + 1 ≤ mc) (hsl : sl + N ≤ ms) (kk : CW G d mi mc ms RC (pc + 2) L (vr (n : Int) :: S) (n + 1) M (cl + 1) (sl + N)) : CW G d mi mc ms RC pc L (vi (N : Int) :: S) n M cl sl := by
  intro p e R s m args below meth c Z H locs ls hS hR hN
  have hin : inI (N : Int) := ⟨by omega, by omega⟩
  have hb : N * componentBytes ty ≤ 536870912 := by
    rcases hp with rfl | rfl | rfl | rfl
    · show N * 4 ≤ _; omega
    · show N * 8 ≤ _; omega
    · show N * 1 ≤ _; omega
    · show N * 1 ≤ _; omega
  subst hty
  refine va_newaK hS.1.1 hS.1.2.1 (hS.1.2.2.2.2.1 _ hw) (g := F0 m pc ls (.int (i3 (N : Int)) :: S.map (cv G))) rfl hd rfl (fun q => ?_) (N := N) (by rw [i3_nat hin (by omega)]; omega) hb (by have := hS.2.2.2.1.1; omega) (by have := hS.2.2.2.1.2; omega) hN.2.1 fun H1 cA e1 z1 o1 hAr hNm => ?_
  · have := (i3_lt hin (show inI 0 from ⟨by omega, by omega⟩)).mp q
    omega
  obtain ⟨t0, ht0⟩ := tysOf_at (G := G) hs
  have hRA := (hS.1.2.2.2.2.2.2.2.1.2 t0 _ ht0).2
  have hcA : cA = G.2.2.2.1 (n : Int) := by
    have h2 : s.vm.findClass ("[" ++ (newarray.typeOf aty).toString) = some (G.2.2.2.1 (n : Int)) := by cases aty <;> exact hRA
    exact Option.some.inj (hNm.symm.trans h2)
  have := kk p e R s m args below meth c Z H1 locs ls hS hR (nowC_push (S' := vr (n : Int) :: S) hS.2.1 hN hs ?_ (by rw [z1, hN.2.1]) (fun q hq => o1 q (by rw [← hN.2.1]; exact hq)) (fun h => okS_r.mpr (okS_i.mp h).2))
  · rw [List.map_cons, cv_r (nat_ne n)] at this
    exact this
  · show H1[G.2.2.1 (n : Int)]? = some (vp_cell _ _)
    rw [e1, ← hcA, arr_dfl hp fun j => hN.2.2.2.2.2.2.1.at hs _]
theorem cw_newq {ix : Nat} {C : String} {N : Nat} (hd : decode mi.2.1 pc = .ok (.anewarray ix, 3)) (hs : shL[n]? = some (.inl (.object C, N))) (hw : Jvm.Cond.classLink mi.1.cls ix C ∈ TG) (hC : C = "HandsHeld$Hall" ∨ C = "HandsHeld$Moment" ∨ C = "HandsHeld$Tray") (hN9 : N ≤ 100000) (hcl : cl + 1 ≤ mc) (hsl : sl + N ≤ ms) (kk : CW G d mi mc ms RC (pc + 3) L (vr (n : Int) :: S) (n + 1) M (cl + 1) (sl + N)) : CW G d mi mc ms RC pc L (vi (N : Int) :: S) n M cl sl := by
  intro p e R s m args below meth c Z H locs ls hS hR hN
  have hin : inI (N : Int) := ⟨by omega, by omega⟩
  have hAO : va_AO C s := by
    rcases hC with rfl | rfl | rfl
    · exact hS.2.2.1.1
    · exact hS.2.2.1.2.1
    · exact hS.2.2.1.2.2
  have hNN : (i3 (N : Int)).toNatClampNeg = N := by rw [i3_nat hin (by omega)]; omega
  refine W.anew hS.1.1 hS.1.2.1 hS.1.2.2.2.1 (hS.1.2.2.2.2.1 _ hw) (va_AO.use hAO) (g := F0 m pc ls (.int (i3 (N : Int)) :: S.map (cv G))) rfl hd rfl (fun q => ?_) (by rw [hNN]; omega) (by have := hS.2.2.2.1.1; omega) (by rw [hNN]; have := hS.2.2.2.1.2; omega) fun cA kA comp f1 f2 f3 f4 => ?_
  · have := (i3_lt hin (show inI 0 from ⟨by omega, by omega⟩)).mp q
    omega
  rw [hNN]
  generalize hH1 : H.push ({ cls := cA, slots := Array.replicate N .null, vm := .none } : Cell) = H1
  have z1 : H1.size = H.size + 1 := by rw [← hH1, Array.size_push]
  have e1 : H1[H.size]? = some (arrV cA N (fun _ => .null)) := by rw [← hH1, Array.getElem?_push_size, ← arrV_new]
  have o1 : ∀ q : Nat, q < H.size → H1[q]? = H[q]? := fun q hq => by rw [← hH1, Array.getElem?_push, if_neg (Nat.ne_of_lt hq)]
  obtain ⟨t0, ht0⟩ := tysOf_at (G := G) hs
  obtain ⟨_, _, _, _, _, hRA⟩ := (hS.1.2.2.2.2.2.2.2.1.2 t0 _ ht0).2
  have hcA : cA = G.2.2.2.1 (n : Int) := Option.some.inj (f1.symm.trans hRA)
  have := kk p e R s m args below meth c Z H1 locs ls hS hR (nowC_push (S' := vr (n : Int) :: S) hS.2.1 hN hs ?_ z1 o1 (fun h => okS_r.mpr (okS_i.mp h).2))
  · rw [List.map_cons, cv_r (nat_ne n), ← hN.2.1] at this
    exact W.eq (g2 := F0 m (pc + 3) ls (.ref H.size :: S.map (cv G))) rfl this
  · show H1[G.2.2.1 (n : Int)]? = some (vp_cell _ _)
    rw [← hN.2.1, e1, ← hcA]
    congr 1
    show arrV cA N (fun _ => .null) = arrV cA N (fun j => va_rf (adr G (M n j)))
    congr 1
    funext j
    rw [hN.2.2.2.2.2.2.1.at hs]
    rfl
end XB
