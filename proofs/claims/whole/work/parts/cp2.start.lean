section XK
/-- the addresses: the places one behind another from the heap's end on; what is read only where it lies -/
def adF (sz tP b tF : Nat) (q : Nat → Nat × Nat) : Int → Nat := fun z => if 0 ≤ z then sz + z.toNat else if z = -2 then tP else if z = -50 then b else if z = -40 then tF else if -13 ≤ z ∧ z ≤ -10 then (q (-10 - z).toNat).1 else (q (-20 - z).toNat).2
theorem adF_n {sz tP b tF k : Nat} {q : Nat → Nat × Nat} : adF sz tP b tF q (k : Int) = sz + k := by
  unfold adF
  rw [if_pos (by omega)]
  omega
theorem adF_k {sz tP b tF i : Nat} {q : Nat → Nat × Nat} (hi : i < 4) : adF sz tP b tF q (-10 - (i : Int)) = (q i).1 := by
  unfold adF
  rw [if_neg (by omega), if_neg (by omega), if_neg (by omega), if_neg (by omega), if_pos (by omega), show (-10 - (-10 - (i : Int))).toNat = i by omega]
theorem adF_v {sz tP b tF i : Nat} {q : Nat → Nat × Nat} (hi : i < 4) : adF sz tP b tF q (-20 - (i : Int)) = (q i).2 := by
  unfold adF
  rw [if_neg (by omega), if_neg (by omega), if_neg (by omega), if_neg (by omega), if_neg (by omega), show (-20 - (-20 - (i : Int))).toNat = i by omega]
theorem tmS_R {i : Nat} (hi : i < 4) : Jvm.Cond.stringRef (romO i) (romK i) (romT i) ∈ lw_tbl := by
  match i with
  | 0 => exact tbN_in (i := 3028) (by decide +kernel)
  | 1 => exact tbN_in (i := 3077) (by decide +kernel)
  | 2 => exact tbN_in (i := 7028) (by decide +kernel)
  | 3 => exact tbN_in (i := 7034) (by decide +kernel)
  | k + 4 => omega
theorem tysOf_ok {G : AG} {s : State} (h : ∀ (k : Nat) (ty : FieldType) (n : Nat), shL[k]? = some (.inl (ty, n)) → ArrOfT s (G.2.2.2.1 k) ty ∧ va_RA s (G.2.2.2.1 k) ty) : ∀ (k : Nat) (q : ClassId × FieldType), (tysOf G)[k]? = some q → ArrOfT s q.1 q.2 ∧ va_RA s q.1 q.2 := by
  intro k q hq
  obtain ⟨j, -, hj⟩ := List.mem_filterMap.mp (List.mem_of_getElem? hq)
  cases hs : shL[j]? with
  | none => rw [hs] at hj; cases hj
  | some x =>
    rw [hs] at hj
    cases x with
    | inr ci => cases hj
    | inl y =>
      obtain ⟨ty, n⟩ := y
      cases hj
      exact h j ty n hs
theorem whole_start {p : Program} {e : Env} {s : State} {m : MethodId} {below : List Frame} {meth : Method} {c : Code} (l : Launch) {b L : Nat} {xs : Nat → Int32} (hL : L ≤ 3072) (C0 : lw_At p s m meth c b L xs) : W p l e room_1 s m #[Value.ref b] below meth c s.heap [] 0 0 (lw_Z below #[Value.ref b] s) (entryFrame m ([Value.ref b] : List Value).toArray 4) := by
  obtain ⟨hx, hb, hr, hml, hown, hts, hX, hbl, hlocks, hgv⟩ := C0
  have hs : ∀ w ∈ FLT, w.before #[Value.ref b] s = true := flat_of_before _ hgv
  have hA0 : ∀ a : Nat, a < s.heap.size → ¬ (fun q : Nat => s.heap.size ≤ q) a := fun a h1 h2 => absurd h1 (by have h2 : s.heap.size ≤ a := h2; omega)
  obtain ⟨q, hq⟩ := rom_strs (A := fun q : Nat => s.heap.size ≤ q) hA0 hs
  obtain ⟨m1, m2, m3, m4, m5⟩ := rom_pm
  obtain ⟨tP, hP1, hP2⟩ := va_Tof (f := fun j => .int (i3 (romA (-2) (j : Int)))) (A := fun q : Nat => s.heap.size ≤ q) (N := 6) (by omega) (hs _ m1) (va_eqt (hs _ m2)) (fun j hj => va_eqt (hs _ (m3 ⟨j, hj⟩))) hA0
  have hZ1 := va_Zof (A := fun q : Nat => s.heap.size ≤ q) (hts (Jvm.Cond.laysStatic "HandsHeld" "POWER" "[I") (tbN_in (i := 4203) (by decide +kernel))) (hts _ (tbN_in (i := 1001) (w := Jvm.Cond.initialized "HandsHeld") (by decide +kernel))) hP1 hA0
  have hZ2 := va_Zof (A := fun q : Nat => s.heap.size ≤ q) (hts (Jvm.Cond.laysStatic "java/lang/String" "COMPACT_STRINGS" "Z") (tbN_in (i := 3038) (by decide +kernel))) (hts _ (tbN_in (i := 1015) (w := Jvm.Cond.initialized "java/lang/String") (by decide +kernel))) (va_eqt (hs _ m4)) hA0
  have hZ3 := va_Zqof (A := fun q : Nat => s.heap.size ≤ q) (hts (Jvm.Cond.laysStatic "jdk/internal/util/Preconditions" "SIOOBE_FORMATTER" "Ljava/util/function/BiFunction;") (tbN_in (i := 3054) (by decide +kernel))) (hts _ (tbN_in (i := 1017) (w := Jvm.Cond.initialized "jdk/internal/util/Preconditions") (by decide +kernel))) (hs _ m5) hA0
  obtain ⟨D, hD⟩ := cls_ok hts
  obtain ⟨ac, hac⟩ := arr_ok hts
  obtain ⟨tF, fm, hfm⟩ : ∃ (tF : Nat) (fm : Int), va_Z "jdk/internal/util/Preconditions" "SIOOBE_FORMATTER" "Ljava/util/function/BiFunction;" (va_rf (if fm = -1 then none else some (adF s.heap.size tP b tF q fm))) (fun q : Nat => s.heap.size ≤ q) s s.heap := by
    rcases hZ3 with h | ⟨t, h⟩
    · exact ⟨0, -1, by rw [if_pos rfl]; exact h⟩
    · exact ⟨t, -40, by rw [if_neg (by omega), show adF s.heap.size tP b t q (-40) = t from rfl]; exact h⟩
  generalize hG : ((l, D, adF s.heap.size tP b tF q, ac, (0, L, xs), fm) : AG) = G
  have g1 : G.1 = l := by rw [← hG]
  have g2 : G.2.1 = D := by rw [← hG]
  have g3 : G.2.2.1 = adF s.heap.size tP b tF q := by rw [← hG]
  have g4 : G.2.2.2.1 = ac := by rw [← hG]
  have g5 : G.2.2.2.2.1 = (0, L, xs) := by rw [← hG]
  have g6 : G.2.2.2.2.2 = fm := by rw [← hG]
  have a0 : ∀ k : Nat, G.2.2.1 (k : Int) = s.heap.size + k := fun k => by rw [g3, adF_n]
  have hLin : Lin G := fun k => by rw [a0, a0]; omega
  have hAof : ∀ q : Nat, Aof G q → s.heap.size ≤ q := by
    rintro q ⟨k, hk, rfl⟩
    rw [a0]
    omega
  have hK : va_K G.2.1 vcl (tysOf G) s := ⟨by rw [g2]; exact hD, tysOf_ok (by rw [g4]; exact hac)⟩
  have hRom : Rom G s s.heap := by
    refine ⟨?_, ?_, hZ2.narrow hAof, ?_, fun i hi => ?_, ⟨fun i hi => ?_, nest_ok hts⟩, ?_, ?_, ?_, ?_⟩
    · rw [g3]; exact hZ1.narrow hAof
    · rw [g3]; exact hP2.narrow hAof
    · rw [g6]
      unfold adr
      rw [g3]
      exact hfm.narrow hAof
    · obtain ⟨-, h1, h2, h3, h4⟩ := hq i hi
      rw [g3, adF_k hi, adF_v hi]
      exact ⟨h1.narrow hAof, h2.narrow hAof, h3.narrow hAof, h4.narrow hAof⟩
    · rw [g3, adF_k hi]
      exact vk_R.of (hts _ (tmS_R hi)) (hq i hi).1
    · rw [g3, g5]; exact hX
    · rw [g3]; exact hbl
    · intro h
      have := hAof _ h
      rw [g3] at this
      have e : adF s.heap.size tP b tF q (-50) = b := rfl
      rw [e] at this
      omega
    · rw [g5]; exact hL
  have hcv : ([vr (-50)] : List AV).map (cv G) = [Value.ref b] := by
    rw [List.map_cons, cv_r (by omega), g3]
    rfl
  have hl := lv_entry (([vr (-50)] : List AV).map (cv G)) (n := 4) (by rw [wgt_sl]; decide)
  rw [hcv] at hl
  rw [lg_entry_eq]
  generalize (lg_sl ([Value.ref b]) ++ List.replicate (4 - (lg_sl ([Value.ref b])).length) Slot.unset).toArray = ls at hl ⊢
  have hok : okS [vr (-50)] := okS_r.mpr (fun _ h => absurd h List.not_mem_nil)
  have hLR : LR G ls 4 [some (vr (-50)), none, none, none] := by
    refine ⟨⟨hl.1, hl.2.1, fun x hx' => hl.2.2 x ?_⟩, rfl⟩
    have := ent_asc (G := G) [vr (-50)] 4 0 x hx'
    rwa [hcv] at this
  have hcw := lw_cw (G := G) (d := 1000) (by omega) (by rw [g5]; exact hL)
  have hw := hcw p e room_1 s m #[Value.ref b] below meth c (lw_Z below #[Value.ref b] s) s.heap [] ls ⟨⟨hx, hb, hml, hown, fun w hw => hts w (List.mem_filter.mp hw).1, by decide, by decide, hK, hRom, hLin.inj⟩, hLin, aos_ok hts, ⟨by decide, by decide⟩, fun h => absurd h (by decide)⟩ ?_ ⟨fun k x hx' => by simp [wsN] at hx', by rw [a0]; rfl, va_S.rf, hLR, ent_ok [vr (-50)] 4 hok, fun _ h => absurd h List.not_mem_nil, fun _ _ => rfl, by decide, by rw [a0]⟩
  · rw [g1] at hw
    exact hw
  · intro r M' H' locs' ls' pc' hq' hf hP' hS' hM' hd
    obtain rfl : r = some (vi 1) := hq'
    rw [g1]
    refine W.widen (k := 600000) (n := 7302250) (by omega) (by omega) ?_
    refine va_forget (fun x hx' => hAof _ (hS'.2.2 x hx')) ?_
    exact lw_ret hx hb hr hlocks hd
end XK
