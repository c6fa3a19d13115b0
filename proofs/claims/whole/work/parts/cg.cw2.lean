section XC
variable {G : AG} {d : Nat} {mi : MI} {mc ms : Nat} {RC : RCt} {pc : Nat} {L : AL} {S : List AV} {n : Nat} {M : AM} {cl sl : Nat}
theorem tyOf_ok {ci j : Nat} (h : ci < 13) (hj : j < nf ci) : tyOf ci j ≠ .float ∧ tyOf ci j ≠ .double := by
  have key : (List.range 13).all (fun c => (List.range (nf c)).all fun j => match tyOf c j with
    | .float => false
    | .double => false
    | _ => true) = true := by decide +kernel
  have h1 := List.all_eq_true.mp (List.all_eq_true.mp key ci (List.mem_range.mpr h)) j (List.mem_range.mpr hj)
  constructor
  · intro e
    rw [e] at h1
    cases h1
  · intro e
    rw [e] at h1
    cases h1
theorem cvT_dfl {ty : FieldType} (h : ty ≠ .float ∧ ty ≠ .double) : cvT G ty (dfl ty) = defaultValue ty := by
  cases ty with
  | float => exact absurd rfl h.1
  | double => exact absurd rfl h.2
  | _ => rfl
theorem cw_new {ix ci : Nat} {q : vw_C} (hd : decode mi.2.1 pc = .ok (.new ix, 3)) (hs : shL[n]? = some (.inr ci)) (hq : vcl[ci]? = some q) (hw1 : Jvm.Cond.classLink mi.1.cls ix q.1 ∈ TG) (hw2 : Jvm.Cond.instantiable q.1 q.2.2 ∈ TG) (hw3 : Jvm.Cond.initialized q.1 ∈ TG) (hcl : cl + 1 ≤ mc) (hsl : sl + q.2.2 ≤ ms) (kk : CW G d mi mc ms RC (pc + 3) L (vr (n : Int) :: S) (n + 1) M (cl + 1) (sl + q.2.2)) : CW G d mi mc ms RC pc L S n M cl sl := by
  intro p e R s m args below meth c Z H locs ls hS hR hN
  have hKn := hS.1.2.2.2.2.2.2.2.1.1 ci _ hq
  refine W.newcK hS.1.1 hS.1.2.1 hS.1.2.2.2.1 (hS.1.2.2.2.2.1 _ hw1) (hS.1.2.2.2.2.1 _ hw2) (hS.1.2.2.2.2.1 _ hw3) (g := F0 m pc ls (S.map (cv G))) rfl hd (by have := hS.2.2.2.1.1; omega) (by have := hS.2.2.2.1.2; omega) hKn.2.1 hN.2.1 fun H1 kC hkC e1 z1 o1 => ?_
  have := kk p e R s m args below meth c Z H1 locs ls hS hR (nowC_push (S' := vr (n : Int) :: S) hS.2.1 hN hs ?_ (by rw [z1, hN.2.1]) (fun q hq => o1 q (by rw [← hN.2.1]; exact hq)) (fun h => okS_r.mpr h))
  · rw [List.map_cons, cv_r (nat_ne n)] at this
    exact W.eq (g2 := F0 m (pc + 3) ls (.ref (G.2.2.1 (n : Int)) :: S.map (cv G))) rfl this
  · refine ⟨q, hq, (u_born (tyOf ci) hS.1.2.2.2.2.1 (vcl_TG hq) hKn hkC e1 (vcl_ty ci q hq)).to fun j hj => ?_⟩
    have hjn : j < nf ci := by rw [← vcl_nf hq]; exact hj
    unfold vp_V
    rw [List.getD_eq_getElem?_getD, List.getElem?_map, List.getElem?_range hjn]
    show defaultValue (tyOf ci j) = cvT G (tyOf ci j) (M n j)
    rw [hN.2.2.2.2.2.2.1.at hs]
    exact (cvT_dfl (tyOf_ok (shO_lt hs) hjn)).symm
/-- the heap's size, by the count of cells -/
theorem W_size {p : Program} {l : Launch} {e : Env} {R : Room} {s : State} {m : MethodId} {args : Array Value} {below : List Frame} {meth : Method} {c : Code} {H : Heap} {locs : List Loc} {cells slots N : Nat} {Z : State → Prop} {g : JFrame} (h1 : s.heap.size + cells = N) (h2 : N ≤ H.size) (k : H.size = N → W p l e R s m args below meth c H locs cells slots Z g) : W p l e R s m args below meth c H locs cells slots Z g := by
  intro T hT X
  have := X.heapSize
  rw [hT] at this
  exact k (by omega) T hT X
theorem vaS_H {A : Nat → Prop} {H0 H : Heap} {locs : List Loc} (h : va_S A H0 H locs) : va_S A H H locs := ⟨Nat.le_refl _, fun _ _ _ => rfl, h.2.2⟩
theorem vaS_tr {A : Nat → Prop} {H0 H H1 : Heap} {locs locs1 : List Loc} (h : va_S A H0 H locs) (h1 : va_S A H H1 locs1) : va_S A H0 H1 locs1 := ⟨Nat.le_trans h.1 h1.1, fun q a b => (h1.2.1 q (Nat.lt_of_lt_of_le a h.1) b).trans (h.2.1 q a b), h1.2.2⟩
/-- behind a write -/
theorem nowC_wr {s : State} {H H1 : Heap} {locs locs1 : List Loc} {ls : Array Slot} {S' : List AV} {z : Nat} {i v : Int} (hN : NowC G mi s H locs ls L S n M cl) (hP1 : va_P G.2.1 vcl (wsN G (up M (z : Int) i v) n) H1) (hz : z < n) (hS1 : va_S (Aof G) H H1 locs1) (hsz : H1.size = G.2.2.1 (n : Int)) (hS' : okS S → okS S') : NowC G mi s H1 locs1 ls L S' n (up M (z : Int) i v) cl := by
  obtain ⟨_, _, h3, h4, h5, h6, h7, h8, h9⟩ := hN
  exact ⟨hP1, hsz, vaS_tr h3 hS1, h4, h5, hS' h6, h7.put hz, h8, h9⟩
theorem cw_putn {ci j ix z : Nat} {x : Int} {q : vw_C} (hd : decode mi.2.1 pc = .ok (.putfield ix, 3)) (hs : shL[z]? = some (.inr ci)) (hz : z < n) (hq : vcl[ci]? = some q) (hj : j < q.2.2) (hw : Jvm.Cond.fieldLink mi.1.cls ix (q.2.1 j).1 (q.2.1 j).2.1 (q.2.1 j).2.2.1 ∈ TG) (hfin : (q.2.1 j).2.2.2 = false) (hfx : fitT (tyOf ci j) x) (kk : CW G d mi mc ms RC (pc + 3) L S n (up M (z : Int) j x) cl sl) : CW G d mi mc ms RC pc L (avT (tyOf ci j) x :: vr (z : Int) :: S) n M cl sl := by
  intro p e R s m args below meth c Z H locs ls hS hR hN
  have hat := wsN_at (G := G) (M := M) hs hz
  have hjn : j < nf ci := by rw [← vcl_nf hq]; exact hj
  obtain ⟨hn, hfit⟩ := fit_cvT (G := G) hfx
  rw [List.map_cons, List.map_cons, cv_r (nat_ne z), cv_avT]
  refine va_put (D := G.2.1) (C := q.1) (T := q.2.1) (N := q.2.2) (ty := tyOf ci j) (v := cvT G (tyOf ci j) x) hS.1.1 hS.1.2.1 hS.1.2.2.2.2.1 (vcl_TG hq) (tyOf ci) (vcl_ty ci q hq) (vcl_nm ci q hq) hS.1.2.2.2.1 hS.1.2.2.2.2.2.2.2.1 hN.1 (wsN_D hS.1.2.2.2.2.2.2.2.2.2) (vaS_H hN.2.2.1) z hat hq j hj (hS.1.2.2.2.2.1 _ hw) (fun _ h9 => h9) hfin (vcl_ty ci q hq j hj) hn hfit (by simp [hjn]) hd (fun H1 locs1 hP1 _ hS1 => ?_)
  rw [cell_put hjn, wsN_set hs up_other] at hP1
  exact W_size hN.2.2.2.2.2.2.2.2 (by rw [← hN.2.1]; exact hS1.1) fun hsz => kk p e R s m args below meth c Z H1 locs1 ls hS hR (nowC_wr hN hP1 hz hS1 hsz fun h => okS_r.mp (okS_c.mp h).2)
theorem cw_putf {ci j ix z : Nat} {x : Int} {q : vw_C} (hd : decode mi.2.1 pc = .ok (.putfield ix, 3)) (hs : shL[z]? = some (.inr ci)) (hz : z < n) (hq : vcl[ci]? = some q) (hj : j < q.2.2) (hw : Jvm.Cond.fieldLink mi.1.cls ix (q.2.1 j).1 (q.2.1 j).2.1 (q.2.1 j).2.2.1 ∈ TG) (hfin : (q.2.1 j).2.2.2 = true) (hown : (q.2.1 j).1 = mi.1.cls) (hini : mi.1.name = "<init>") (hfx : fitT (tyOf ci j) x) (kk : CW G d mi mc ms RC (pc + 3) L S n (up M (z : Int) j x) cl sl) : CW G d mi mc ms RC pc L (avT (tyOf ci j) x :: vr (z : Int) :: S) n M cl sl := by
  intro p e R s m args below meth c Z H locs ls hS hR hN
  have hat := wsN_at (G := G) (M := M) hs hz
  have hjn : j < nf ci := by rw [← vcl_nf hq]; exact hj
  obtain ⟨hn, hfit⟩ := fit_cvT (G := G) hfx
  rw [List.map_cons, List.map_cons, cv_r (nat_ne z), cv_avT]
  refine va_putF (D := G.2.1) (C := q.1) (T := q.2.1) (N := q.2.2) (ty := tyOf ci j) (v := cvT G (tyOf ci j) x) hS.1.1 hS.1.2.1 hS.1.2.2.2.2.1 (vcl_TG hq) (tyOf ci) (vcl_ty ci q hq) (vcl_nm ci q hq) hS.1.2.2.2.1 hS.1.2.2.2.2.2.2.2.1 hN.1 (wsN_D hS.1.2.2.2.2.2.2.2.2.2) (vaS_H hN.2.2.1) z hat hq j hj (hS.1.2.2.2.2.1 _ hw) (fun _ h9 => h9) hfin (hS.2.2.2.2 hini) hown (vcl_ty ci q hq j hj) hn hfit (by simp [hjn]) hd (fun H1 locs1 hP1 _ hS1 => ?_)
  rw [cell_put hjn, wsN_set hs up_other] at hP1
  exact W_size hN.2.2.2.2.2.2.2.2 (by rw [← hN.2.1]; exact hS1.1) fun hsz => kk p e R s m args below meth c Z H1 locs1 ls hS hR (nowC_wr hN hP1 hz hS1 hsz fun h => okS_r.mp (okS_c.mp h).2)
theorem cw_get {ci j ix z : Nat} {q : vw_C} (hd : decode mi.2.1 pc = .ok (.getfield ix, 3)) (hs : shL[z]? = some (.inr ci)) (hz : z < n) (hq : vcl[ci]? = some q) (hj : j < q.2.2) (hw : Jvm.Cond.fieldLink mi.1.cls ix (q.2.1 j).1 (q.2.1 j).2.1 (q.2.1 j).2.2.1 ∈ TG) {v : Int} (hv : M z j = v) (hty : ∀ x, avT (tyOf ci j) x = vr x) (kk : CW G d mi mc ms RC (pc + 3) L (vr v :: S) n M cl sl) : CW G d mi mc ms RC pc L (vr (z : Int) :: S) n M cl sl := by
  intro p e R s m args below meth c Z H locs ls hS hR hN
  have hat := wsN_at (G := G) (M := M) hs hz
  have hjn : j < nf ci := by rw [← vcl_nf hq]; exact hj
  have hk := kk p e R s m args below meth c Z H locs ls hS hR (hN.to fun h => okS_r.mpr (okS_r.mp h))
  rw [List.map_cons, ← hty, cv_avT, ← hv] at hk
  rw [List.map_cons, cv_r (nat_ne z)]
  exact va_get (D := G.2.1) (C := q.1) (T := q.2.1) (N := q.2.2) hS.1.1 hS.1.2.1 hS.1.2.2.2.2.1 (vcl_TG hq) hS.1.2.2.2.1 hS.1.2.2.2.2.2.2.2.1 hN.1 z hat hq j hj (hS.1.2.2.2.2.1 _ hw) (fun _ h9 => h9) (by simp [hjn]) hd hk
theorem cw_aast {z kx i N ci : Nat} (hd : decode mi.2.1 pc = .ok (.aastore, 1)) (hs : shL[z]? = some (.inl (.object (cname ci), N))) (hz : z < n) (hsx : shL[kx]? = some (.inr ci)) (hx : kx < n) (hi : i < N) (kk : CW G d mi mc ms RC (pc + 1) L S n (up M (z : Int) (i : Int) (kx : Int)) cl sl) : CW G d mi mc ms RC pc L (vr (kx : Int) :: vi (i : Int) :: vr (z : Int) :: S) n M cl sl := by
  intro p e R s m args below meth c Z H locs ls hS hR hN
  have hat := wsN_at (G := G) (M := M) hs hz
  have hatx := wsN_at (G := G) (M := M) hsx hx
  obtain ⟨t0, ht0⟩ := tysOf_at (G := G) hs
  obtain ⟨q, hq⟩ := vcl_get (shO_lt hsx)
  have hcn : cname ci = q.1 := by unfold cname; rw [hq]
  rw [hcn] at ht0
  have h2 := okS_r.mp hN.2.2.2.2.2.1
  have hin := (okS_i.mp h2).1
  rw [List.map_cons, List.map_cons, List.map_cons, cv_r (nat_ne z), cv_r (nat_ne kx)]
  refine va_astq hS.1.1 hS.1.2.1 hS.1.2.2.2.2.2.2.2.1 hN.1 (wsN_D hS.1.2.2.2.2.2.2.2.2.2) (vaS_H hN.2.2.1) z t0 kx ci hat ht0 hatx hq (i3_vpin hin (by omega) (by omega)) hd (fun H1 locs1 hP1 _ hS1 => ?_)
  rw [i3_nat hin (by omega), show some (G.2.2.1 (kx : Int)) = adr G kx by simp [adr, nat_ne kx], arr_q (by omega)] at hP1
  have hP2 := (wsN_set (G := G) (M := M) (M' := up M z i kx) (n := n) hs up_other) ▸ hP1
  exact W_size hN.2.2.2.2.2.2.2.2 (by rw [← hN.2.1]; exact hS1.1) fun hsz => kk p e R s m args below meth c Z H1 locs1 ls hS hR (nowC_wr hN hP2 hz hS1 hsz fun h => okS_r.mp (okS_i.mp (okS_r.mp h)).2)
theorem cw_iast {z i N : Nat} {x : Int} (hd : decode mi.2.1 pc = .ok (.iastore, 1)) (hs : shL[z]? = some (.inl (.int, N))) (hz : z < n) (hi : i < N) (kk : CW G d mi mc ms RC (pc + 1) L S n (up M (z : Int) (i : Int) x) cl sl) : CW G d mi mc ms RC pc L (vi x :: vi (i : Int) :: vr (z : Int) :: S) n M cl sl := by
  intro p e R s m args below meth c Z H locs ls hS hR hN
  have hat := wsN_at (G := G) (M := M) hs hz
  obtain ⟨t0, ht0⟩ := tysOf_at (G := G) hs
  have h2 := (okS_i.mp hN.2.2.2.2.2.1).2
  have hin := (okS_i.mp h2).1
  rw [List.map_cons, List.map_cons, List.map_cons, cv_r (nat_ne z)]
  refine va_iast hS.1.1 hS.1.2.1 hS.1.2.2.2.2.2.2.2.1 hN.1 (wsN_D hS.1.2.2.2.2.2.2.2.2.2) (vaS_H hN.2.2.1) z t0 hat ht0 (i3_vpin hin (by omega) (by omega)) hd (fun H1 locs1 hP1 _ hS1 => ?_)
  rw [i3_nat hin (by omega), arr_i (by omega)] at hP1
  have hP2 := (wsN_set (G := G) (M := M) (M' := up M z i x) (n := n) hs up_other) ▸ hP1
  exact W_size hN.2.2.2.2.2.2.2.2 (by rw [← hN.2.1]; exact hS1.1) fun hsz => kk p e R s m args below meth c Z H1 locs1 ls hS hR (nowC_wr hN hP2 hz hS1 hsz fun h => okS_r.mp (okS_i.mp (okS_i.mp h).2).2)
/-! a constructor's contract -/
def rmI (d mc ms : Nat) : Room := { frames := d, cells := mc, slots := ms, locals := 64 * d }
def WdC (G : AG) (M : AM) (n : Nat) (U : State) : Prop := va_K G.2.1 vcl (tysOf G) U ∧ va_P G.2.1 vcl (wsN G M n) U.heap ∧ Rom G U U.heap ∧ U.heap.size = G.2.2.1 (n : Int) ∧ Lin G ∧ AOs U ∧ Fr M n ∧ n ≤ NN
def CI (G : AG) (d : Nat) (mi : MI) (mc ms : Nat) (z n : Nat) (M : AM) (n' : Nat) (M' : AM) : Prop :=
  Jvm.Cond.code mi.1 mi.2.1 mi.2.2.1 mi.2.2.2 ∈ TG ∧ mi.2.2.2 = none ∧ Met G.1 mi.1 (wsM mi) (rmI d mc ms) (va_Pc [cv G (vr (z : Int))] (fun U => WdC G M n U)) (va_Qv (fun _ : Unit => True) (fun _ t => WdC G M' n' t) (Aof G)) mc ms (Aof G)
theorem WdC_blind {z : Nat} : FrameBlind (va_Pc [cv G (vr (z : Int))] (fun U => WdC G M n U)) := by
  intro a U g mk h
  obtain ⟨h1, h2, h3, h4, h5, h6, h7, h8⟩ := h
  exact ⟨h1, va_K.moved (u := U) (U := U.calling g mk a) (Vm.Alike.refl U.vm) h2, h3, Rom.same (s := U) (U := U.calling g mk a) rfl h4, h5, h6, AOs.moved (u := U) (U := U.calling g mk a) (Vm.Alike.refl U.vm) h7, h8⟩
theorem WdC_call {p : Program} {R : Room} {s : State} {m : MethodId} {args : Array Value} {meth : Method} {c : Code} {H : Heap} {locs : List Loc} {ls : Array Slot} (hS : SitC G d mi mc ms p R s m args meth c) (hN : NowC G mi s H locs ls L S n M cl) : ∀ U : State, U.heap = H → s.WarmedH U.vm → WdC G M n U := by
  intro U hU hW
  obtain ⟨⟨-, -, -, -, -, -, -, hK, hRo, hi⟩, hL, hA, -, -⟩ := hS
  refine ⟨va_K.moved hW.alike hK, by rw [hU]; exact hN.1, ?_, by rw [hU]; exact hN.2.1, hL, hA.moved hW.alike, hN.2.2.2.2.2.2.1, hN.2.2.2.2.2.2.2.1⟩
  rw [hU]
  exact Rom.moved hW (hRo.kept hN.2.2.1.1 hN.2.2.1.2.1)
end XC
