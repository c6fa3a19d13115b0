/-! switches, System.arraycopy, calls -/
theorem swT_get {J : Nat → PK} {L : AL} {S : List AV} {M : AM} {x : Int} : ∀ (ts : List Nat) (lo : Int), swT J L S M x lo ts → ∀ (j t : Nat), ts[j]? = some t → x = lo + j → J t L S M
  | [], _, _, j, t, h, _ => by simp at h
  | t0 :: ts, lo, h, j, t, hj, hx => by
    cases j with
    | zero =>
      simp only [List.getElem?_cons_zero, Option.some.injEq] at hj
      subst hj
      exact h.1 (by omega)
    | succ j => exact swT_get ts (lo + 1) h.2 j t (by simpa using hj) (by omega)
theorem spl_eq : ∀ (ts : List Nat) (acc S as S' : List AV), spl ts acc S = some (as, S') → acc.reverse ++ S = (as.reverse ++ S' : List AV) ∧ as.length = ts.length + acc.length
  | [], acc, S, as, S', h => by
    simp only [spl, Option.some.injEq, Prod.mk.injEq] at h
    obtain ⟨rfl, rfl⟩ := h
    exact ⟨rfl, by simp⟩
  | 0 :: ts, acc, .inl x :: S, as, S', h => by
    obtain ⟨h1, h2⟩ := spl_eq ts (.inl x :: acc) S as S' h
    exact ⟨by simpa using h1, by simp at h2 ⊢; omega⟩
  | 1 :: ts, acc, .inr (.inl x) :: S, as, S', h => by
    obtain ⟨h1, h2⟩ := spl_eq ts (.inr (.inl x) :: acc) S as S' h
    exact ⟨by simpa using h1, by simp at h2 ⊢; omega⟩
  | 2 :: ts, acc, .inr (.inr x) :: S, as, S', h => by
    obtain ⟨h1, h2⟩ := spl_eq ts (.inr (.inr x) :: acc) S as S' h
    exact ⟨by simpa using h1, by simp at h2 ⊢; omega⟩
  | 0 :: ts, acc, [], as, S', h => by cases h
  | 0 :: ts, acc, .inr x :: S, as, S', h => by cases h
  | 1 :: ts, acc, [], as, S', h => by cases h
  | 1 :: ts, acc, .inl x :: S, as, S', h => by cases h
  | 1 :: ts, acc, .inr (.inr x) :: S, as, S', h => by cases h
  | 2 :: ts, acc, [], as, S', h => by cases h
  | 2 :: ts, acc, .inl x :: S, as, S', h => by cases h
  | 2 :: ts, acc, .inr (.inl x) :: S, as, S', h => by cases h
  | (n + 3) :: ts, acc, S, as, S', h => by cases h
section AWR
variable {G : AG} {d : Nat} {mi : MI} {Q : Option AV → AM → Prop} {pc : Nat} {L : AL} {S : List AV} {M : AM}
theorem aw_tsw {dflt lo hi a : Int} {offs : Array Int} {len t : Nat} {ts : List Nat} (hd : decode mi.2.1 pc = .ok (.tableswitch dflt lo hi offs, len)) (hdf : (pc : Int) + dflt = (t : Int)) (hn : hi = lo + ts.length - 1) (hof : ∀ (j t' : Nat), ts[j]? = some t' → ∃ o, offs[j]? = some o ∧ (pc : Int) + o = (t' : Int)) (kd : (a < lo ∨ lo + ts.length ≤ a) → AW G d mi Q t L S M) (ks : ∀ (j t' : Nat), ts[j]? = some t' → a = lo + j → AW G d mi Q t' L S M) : AW G d mi Q pc L (vi a :: S) M := by
  intro p e R s m args below meth c cells slots Z H locs ls hS hc hR hN
  have ha := (okS_i.mp hN.2.2.2.2.1).1
  have hN2 : Now G mi s H locs ls L S M := hN.to fun h => (okS_i.mp h).2
  by_cases hx : a < lo ∨ lo + ts.length ≤ a
  · exact lv_tableOut hS.1 hS.2.1 hd (by rw [i3_to ha]; omega) hdf (kd hx p e R s m args below meth c cells slots Z H locs ls hS hc hR hN2)
  · have hj : (a - lo).toNat < ts.length := by omega
    obtain ⟨o, ho, hto⟩ := hof (a - lo).toNat _ (List.getElem?_eq_getElem hj)
    exact lv_tableIn hS.1 hS.2.1 hd (by rw [i3_to ha]; omega) (by rw [i3_to ha]; omega) (by rw [i3_to ha]; exact ho) hto (ks (a - lo).toNat _ (List.getElem?_eq_getElem hj) (by omega) p e R s m args below meth c cells slots Z H locs ls hS hc hR hN2)
theorem cpy_other {M : AM} {a sp dp n : Int} {b : Nat} : ∀ (x : Nat), x ≠ b → ∀ y, cpy M a sp b dp n x y = M x y := by
  intro x hx y
  unfold cpy
  rw [if_neg (by omega)]
theorem arr_cpy {M : AM} {a b : Nat} {sp dp n : Int} (h1 : 0 ≤ sp) (h2 : 0 ≤ dp) (h3 : 0 ≤ n) : va_cpy (fun j : Nat => i3 (M a j)) (fun j : Nat => i3 (M b j)) sp.toNat dp.toNat n.toNat = fun j : Nat => i3 (cpy M a sp b dp n b j) := by
  funext j
  unfold va_cpy cpy
  by_cases h : dp.toNat ≤ j ∧ j < dp.toNat + n.toNat
  · rw [if_pos h, if_pos ⟨rfl, by omega, by omega⟩]
    show i3 (M a ((sp.toNat + (j - dp.toNat) : Nat) : Int)) = i3 (M a (sp + ((j : Int) - dp)))
    rw [show ((sp.toNat + (j - dp.toNat) : Nat) : Int) = sp + ((j : Int) - dp) by omega]
  · rw [if_neg h, if_neg (by omega)]
theorem okM_cpy {M : AM} {a b na nb : Nat} {sp dp n : Int} (h : okM M) (ha : shL[a]? = some (.inl (.int, na))) (hb : shL[b]? = some (.inl (.int, nb))) (h1 : 0 ≤ sp) (h2 : 0 ≤ dp) (h4 : sp + n ≤ na) : okM (cpy M a sp b dp n) := by
  refine ⟨fun k ty m hs i hi => ?_, fun k ci hs j hj => ?_⟩
  · unfold cpy
    split
    · next hc =>
      have hk : k = b := by omega
      subst hk
      rw [hb] at hs
      cases hs
      have := h.1 a .int na ha (sp + (i - dp)).toNat (by omega)
      rwa [show (((sp + (i - dp)).toNat : Nat) : Int) = sp + (i - dp) by omega] at this
    · exact h.1 k ty m hs i hi
  · have hk : k ≠ b := by
      intro e; subst e; rw [hb] at hs; cases hs
    rw [cpy_other k hk]
    exact h.2 k ci hs j hj
theorem aw_copy {a b sp dp n : Int} {ix : Nat} (hd : decode mi.2.1 pc = .ok (.invokestatic ix, 3)) (h1d : 1 ≤ d) (hw1 : Jvm.Cond.methodLink mi.1.cls ix arraycopyName ∈ TG) (hw2 : Jvm.Cond.native arraycopyName ∈ TG) (hw3 : Jvm.Cond.static arraycopyName ∈ TG) (hw4 : Jvm.Cond.initialized "java/lang/System" ∈ TG) (ha : arT a .int) (hb : arT b .int) (hr : 0 ≤ sp ∧ 0 ≤ dp ∧ 0 ≤ n ∧ sp + n ≤ alen a ∧ dp + n ≤ alen b) (k : AW G d mi Q (pc + 3) L [] (cpy M a sp b dp n)) : AW G d mi Q pc L [vi n, vi dp, vr b, vi sp, vr a] M := by
  intro p e R s m args below meth c cells slots Z H locs ls hS hc hR hN
  obtain ⟨ka, na, rfl, hsa, hla⟩ := arT_at ha
  obtain ⟨kb, nb, rfl, hsb, hlb⟩ := arT_at hb
  have hata := wsOf_at (G := G) (M := M) hsa
  have hatb := wsOf_at (G := G) (M := M) hsb
  obtain ⟨t0, ht0⟩ := tysOf_at (G := G) hsa
  obtain ⟨t1, ht1⟩ := tysOf_at (G := G) hsb
  obtain ⟨r1, r2, r3, r4, r5⟩ := hr
  rw [hla] at r4
  rw [hlb] at r5
  have q1 := okS_i.mp hN.2.2.2.2.1
  have q2 := okS_i.mp q1.2
  have q3 := okS_i.mp (okS_r.mp q2.2)
  have hlo := hS.2.2.2.2.2.2.1
  have hloc : (([] : List Value).map fun v => v.category).sum + (nativeFrameWords "java/lang/System" "arraycopy" 5 + 11) ≤ R.locals := by
    have h9 : nativeFrameWords "java/lang/System" "arraycopy" 5 = 7 := by decide +kernel
    rw [h9]
    show 0 + (7 + 11) ≤ R.locals
    omega
  have hml : c.maxLocals = ls.size := by rw [hS.2.2.1]; exact hN.2.2.1.1.1.symm
  show W p G.1 e R s m args below meth c H locs cells slots Z (F0 m pc ls [cv G (vi n), cv G (vi dp), cv G (vr kb), cv G (vi sp), cv G (vr ka)])
  rw [cv_r (nat_ne ka), cv_r (nat_ne kb)]
  refine va_copyi hS.1 hS.2.1 hml hS.2.2.2.1 (hS.2.2.2.2.1 _ hw1) (hS.2.2.2.2.1 _ hw2) (hS.2.2.2.2.1 _ hw3) (hS.2.2.2.2.1 _ hw4) hS.2.2.2.2.2.2.2.1 hN.1 (wsOf_D hS.2.2.2.2.2.2.2.2.2) hN.2.1 ka kb t0 t1 hata hatb ht0 ht1 rfl (n := i3 n) (sp := i3 sp) (dp := i3 dp) ?_ ?_ ?_ ?_ ?_ (fun _ _ => rfl) (by have := hS.2.2.2.2.2.1; omega) hloc hd (fun H1 locs1 hP1 _ hS1 => ?_)
  · rw [show (0 : Int32) = i3 0 from rfl, i3_lt q3.1 in0]; omega
  · rw [show (0 : Int32) = i3 0 from rfl, i3_lt q2.1 in0]; omega
  · rw [show (0 : Int32) = i3 0 from rfl, i3_lt q1.1 in0]; omega
  · rw [i3_nat q3.1 r1, i3_nat q1.1 r3]; omega
  · rw [i3_nat q2.1 r2, i3_nat q1.1 r3]; omega
  · rw [i3_nat q3.1 r1, i3_nat q2.1 r2, i3_nat q1.1 r3, arr_cpy r1 r2 r3] at hP1
    have hP2 := (wsOf_set (G := G) (M := M) (M' := cpy M ka sp kb dp n) hsb cpy_other) ▸ hP1
    exact k p e R s m args below meth c cells slots Z H1 locs1 ls hS hc hR ⟨hP2, hS1, hN.2.2.1, hN.2.2.2.1, (fun _ h => absurd h List.not_mem_nil), okM_cpy hN.2.2.2.2.2 hsa hsb r1 r2 r4⟩
end AWR
