/-! a method's contract out of its walk -/
def ent : Nat → List AV → AL
  | n, [] => List.replicate n none
  | n, .inr (.inl x) :: as => some (.inr (.inl x)) :: none :: ent (n - 2) as
  | n, v :: as => some v :: ent (n - 1) as
def wgt : List AV → Nat
  | [] => 0
  | .inr (.inl _) :: as => 2 + wgt as
  | _ :: as => 1 + wgt as
theorem ent_len : ∀ (as : List AV) (n : Nat), wgt as ≤ n → (ent n as).length = n
  | [], n, _ => by simp [ent]
  | .inl x :: as, n, h => by
    simp only [wgt] at h
    simp only [ent, List.length_cons, ent_len as (n - 1) (by omega)]
    omega
  | .inr (.inl x) :: as, n, h => by
    simp only [wgt] at h
    simp only [ent, List.length_cons, ent_len as (n - 2) (by omega)]
    omega
  | .inr (.inr x) :: as, n, h => by
    simp only [wgt] at h
    simp only [ent, List.length_cons, ent_len as (n - 1) (by omega)]
    omega
theorem asc_rep {G : AG} : ∀ (n i : Nat), asc G i (List.replicate n none) = []
  | 0, _ => rfl
  | n + 1, i => by rw [List.replicate_succ]; exact asc_rep n (i + 1)
theorem va_rf_cat (x : Option Nat) : (va_rf x).category = 1 := by cases x <;> rfl
theorem ent_asc {G : AG} : ∀ (as : List AV) (n i : Nat), ∀ q ∈ asc G i (ent n as), q ∈ lv_args i (as.map (cv G))
  | [], n, i, q, h => by
    rw [ent, asc_rep] at h
    cases h
  | .inl x :: as, n, i, q, h => by
    simp only [ent, asc, List.mem_cons] at h
    show q ∈ (i, cv G (vi x)) :: lv_args (i + 1) (as.map (cv G))
    rcases h with rfl | h
    · exact List.mem_cons_self
    · exact List.mem_cons_of_mem _ (ent_asc as _ _ q h)
  | .inr (.inl x) :: as, n, i, q, h => by
    simp only [ent, asc, List.mem_cons] at h
    show q ∈ (i, cv G (vl x)) :: lv_args (i + 2) (as.map (cv G))
    rcases h with rfl | h
    · exact List.mem_cons_self
    · exact List.mem_cons_of_mem _ (ent_asc as _ _ q h)
  | .inr (.inr x) :: as, n, i, q, h => by
    simp only [ent, asc, List.mem_cons] at h
    have e : lv_args i ((.inr (.inr x) :: as).map (cv G)) = (i, cv G (vr x)) :: lv_args (i + 1) (as.map (cv G)) := by
      show (i, cv G (vr x)) :: lv_args (if (cv G (vr x)).category = 2 then i + 2 else i + 1) (as.map (cv G)) = _
      rw [show (cv G (vr x)).category = 1 from va_rf_cat _]
      rfl
    rw [e]
    rcases h with rfl | h
    · exact List.mem_cons_self
    · exact List.mem_cons_of_mem _ (ent_asc as _ _ q h)
theorem ent_ok : ∀ (as : List AV) (n : Nat), okS as → okL (ent n as)
  | [], n, _ => by
    intro v hv
    rw [ent] at hv
    have := List.eq_of_mem_replicate hv
    cases this
  | .inl x :: as, n, h => by
    intro v hv
    simp only [ent, List.mem_cons, Option.some.injEq] at hv
    rcases hv with rfl | hv
    · exact (okS_c.mp h).1
    · exact ent_ok as _ (okS_c.mp h).2 v hv
  | .inr (.inl x) :: as, n, h => by
    intro v hv
    simp only [ent, List.mem_cons, Option.some.injEq, reduceCtorEq, false_or] at hv
    rcases hv with rfl | hv
    · exact (okS_c.mp h).1
    · exact ent_ok as _ (okS_c.mp h).2 v hv
  | .inr (.inr x) :: as, n, h => by
    intro v hv
    simp only [ent, List.mem_cons, Option.some.injEq] at hv
    rcases hv with rfl | hv
    · exact (okS_c.mp h).1
    · exact ent_ok as _ (okS_c.mp h).2 v hv
theorem wgt_sl {G : AG} : ∀ as : List AV, (lg_sl (as.map (cv G))).length = wgt as
  | [] => rfl
  | .inl x :: as => by
    have := wgt_sl (G := G) as
    simp only [lg_sl, List.map_cons, List.flatMap_cons, List.length_append, wgt] at this ⊢
    rw [this]; rfl
  | .inr (.inl x) :: as => by
    have := wgt_sl (G := G) as
    simp only [lg_sl, List.map_cons, List.flatMap_cons, List.length_append, wgt] at this ⊢
    rw [this]; rfl
  | .inr (.inr x) :: as => by
    have := wgt_sl (G := G) as
    simp only [lg_sl, List.map_cons, List.flatMap_cons, List.length_append, wgt] at this ⊢
    rw [this, show (cv G (.inr (.inr x))).category = 1 from va_rf_cat _]; rfl
/-- a method, out of its walk from pc 0 -/
theorem MS.of {G : AG} {d : Nat} {mi : MI} {as : List AV} {M : AM} {Q : Option AV → AM → Prop} {L : AL} (hcd : Jvm.Cond.code mi.1 mi.2.1 mi.2.2.1 mi.2.2.2 ∈ TG) (hp : plainName mi.1.cls = true) (hw : wgt as ≤ mi.2.2.1) (hL : ent mi.2.2.1 as = L) (h : okS as → okM M → AW G d mi Q 0 L [] M) : MS G d mi as M Q := by
  refine ⟨hcd, ?_⟩
  refine Met.ofW (cc := mi.2.1) (maxL := mi.2.2.1) (ret := mi.2.2.2) hp rfl ?_
  intro p e s m args below meth c s₁ B hml hv
  obtain ⟨rfl, hok, hK, hP, hRo, hi, hM⟩ := hv
  have hts : ∀ w ∈ TG, w.before (as.map (cv G)).toArray s = true := fun w hw => atoms_spec (ws := wsM mi) B.pre w (List.mem_cons_of_mem _ hw)
  have hown : s.vm.findClass mi.1.cls = some m.cls := findClass_of_methodNamed B.named
  have hl := lv_entry (as.map (cv G)) (n := mi.2.2.1) (by rw [wgt_sl]; exact hw)
  rw [lg_entry_eq]
  generalize (lg_sl (as.map (cv G)) ++ List.replicate (mi.2.2.1 - (lg_sl (as.map (cv G))).length) Slot.unset).toArray = ls at hl ⊢
  have hLR : LR G ls mi.2.2.1 L := by
    rw [← hL]
    exact ⟨⟨hl.1, hl.2.1, fun q hq => hl.2.2 q (ent_asc as _ 0 q hq)⟩, ent_len as _ hw⟩
  have hlocks := B.notSynchronized
  have hr := B.returns
  refine h hok hM p e (headSpec (wsM mi) (rmD d)).room s m (as.map (cv G)).toArray below meth c 0 0 _ s.heap [] ls ⟨B.exec, B.bytes, hml, hown, hts, Nat.le_refl _, Nat.le_refl _, hK, hRo, hi⟩ ⟨Nat.zero_le _, Nat.zero_le _⟩ ?_ ⟨hP, va_S.rf, hLR, by rw [← hL]; exact ent_ok as _ hok, fun _ h => absurd h List.not_mem_nil, hM⟩
  intro r M' H' locs' ls' pc' hq hf hP' hS' hM' hd
  have hWd : ∀ t : State, t.heap = H' → s.WarmedH t.vm → Wd G M' t := by
    intro t ht hW
    refine ⟨va_K.moved hW.alike hK, by rw [ht]; exact hP', ?_, hi, hM'⟩
    rw [ht]
    exact Rom.moved hW (hRo.kept hS'.1 hS'.2.1)
  rcases hret : mi.2.2.2 with _ | ty
  · rw [hret] at hf hr
    rcases r with _ | v
    · exact W.vret B.exec B.bytes hr (fun t ht hW => by rw [QcM_v hret]; exact ⟨⟨M', rfl, hq, hWd t ht hW⟩, hS'.F ht⟩) hS'.2.2 hd
    · exact hf.elim
  · rw [hret] at hf hr
    by_cases hty : ty = .long
    · subst hty
      rcases r with _ | (x | x | x)
      · exact hf.elim
      · exact hf.elim
      · exact W.lret B.exec B.bytes hr (fun t ht hW => by rw [QcM_l hret]; exact ⟨⟨i6 x, M', rfl, by show Q (some (vl (i6 x).toInt)) M'; rw [i6_to hf]; exact hq, hWd t ht hW⟩, hS'.F ht⟩) hS'.2.2 hd
      · exact hf.elim
    · rcases r with _ | (x | x | x)
      · cases ty <;> first | exact hf.elim | exact absurd rfl hty
      · have hx : inI x ∧ narrow ty (.int (i3 x)) = .int (i3 x) := by
          cases ty with
          | int => exact ⟨hf, rfl⟩
          | boolean => exact ⟨by rcases hf with h | h <;> subst h <;> exact ⟨by omega, by omega⟩, (fit_cvT (G := G) (ty := .boolean) hf).1⟩
          | char => exact ⟨⟨by have := hf.1; omega, by have := hf.2; omega⟩, (fit_cvT (G := G) (ty := .char) hf).1⟩
          | byte => exact ⟨⟨by have := hf.1; omega, by have := hf.2; omega⟩, (fit_cvT (G := G) (ty := .byte) hf).1⟩
          | long => exact absurd rfl hty
          | _ => exact hf.elim
        exact W.zret B.exec B.bytes hr hx.2 (fun t ht hW => by rw [QcM_i hret hty]; exact ⟨⟨i3 x, M', rfl, by show Q (some (vi (i3 x).toInt)) M'; rw [i3_to hx.1]; exact hq, hWd t ht hW⟩, hS'.F ht⟩) hS'.2.2 hd
      · cases ty <;> first | exact hf.elim | exact absurd rfl hty
      · cases ty <;> first | exact hf.elim | exact absurd rfl hty
/-- a weaker end -/
theorem MS.mono {G : AG} {d : Nat} {mi : MI} {as : List AV} {M : AM} {Q Q' : Option AV → AM → Prop} (h : MS G d mi as M Q) (hq : ∀ r M', okM M' → Q r M' → Q' r M') : MS G d mi as M Q' := by
  refine ⟨h.1, ?_⟩
  intro p e ha hc hk s m args below hf happ hP hK
  obtain ⟨n, o, h1, h2, h3, h4, h5⟩ := h.2 p e ha hc hk s m args below hf happ hP hK
  refine ⟨n, o, h1, h2, h3, ?_, h5⟩
  rcases hret : mi.2.2.2 with _ | ty
  · rw [QcM_v hret] at h4 ⊢
    obtain ⟨⟨u, e1, e2, e3⟩, e4⟩ := h4
    exact ⟨⟨u, e1, hq _ _ e3.2.2.2.2 e2, e3⟩, e4⟩
  · by_cases hty : ty = .long
    · subst hty
      rw [QcM_l hret] at h4 ⊢
      obtain ⟨⟨r, u, e1, e2, e3⟩, e4⟩ := h4
      exact ⟨⟨r, u, e1, hq _ _ e3.2.2.2.2 e2, e3⟩, e4⟩
    · rw [QcM_i hret hty] at h4 ⊢
      obtain ⟨⟨r, u, e1, e2, e3⟩, e4⟩ := h4
      exact ⟨⟨r, u, e1, hq _ _ e3.2.2.2.2 e2, e3⟩, e4⟩
/-- a method's code as the tables have it -/
def CK (mi : MI) (cd : List (Nat × List XI)) : Prop := chkC mi cd = true ∧ Jvm.Cond.code mi.1 mi.2.1 mi.2.2.1 mi.2.2.2 ∈ TG
theorem CK.of {mi : MI} {cd : List (Nat × List XI)} (h : chkC mi cd = true) (i : Nat) (hc : (chT (i / 1000))[i % 1000]? = some (Jvm.Cond.code mi.1 mi.2.1 mi.2.2.1 mi.2.2.2)) : CK mi cd := ⟨h, List.mem_filter.mpr ⟨chT_in _ _ (List.mem_of_getElem? hc), rfl⟩⟩
