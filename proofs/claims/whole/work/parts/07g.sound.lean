/-! checks, by program; wpI, wpB, wpR are sound -/
/-- the tables' words, piece by piece: a word's number is 1000 * its piece + its place there -/
def chT (c : Nat) : List Jvm.Cond := match c with
  | 0 => k2_sels lw_privs
  | 1 => tables_1_1
  | 2 => tables_1_2
  | 3 => tables_1_3
  | 4 => tables_1_4
  | 5 => tables_1_5
  | 6 => tables_1_6
  | 7 => tables_1_7
  | 8 => tables_1_8
  | 9 => tables_1_9
  | _ => []
theorem chT_in (c : Nat) : ∀ w ∈ chT c, w ∈ lw_tbl := by
  intro w hw
  unfold chT at hw
  unfold lw_tbl tables_1
  split at hw <;> simp only [List.mem_append, List.not_mem_nil] at hw ⊢ <;> first | exact hw.elim | simp only [hw, true_or, or_true]
def tb (i : Nat) (w : Jvm.Cond) : Bool := decide ((chT (i / 1000))[i % 1000]? = some w) && goodWord w
theorem tb_in {i : Nat} {w : Jvm.Cond} (h : tb i w = true) : w ∈ TG := by
  unfold tb at h
  simp only [Bool.and_eq_true, decide_eq_true_eq] at h
  exact List.mem_filter.mpr ⟨chT_in _ w (List.mem_of_getElem? h.1), h.2⟩
def tbN (i : Nat) (w : Jvm.Cond) : Bool := decide ((chT (i / 1000))[i % 1000]? = some w)
theorem tbN_in {i : Nat} {w : Jvm.Cond} (h : tbN i w = true) : w ∈ lw_tbl := by
  unfold tbN at h
  simp only [decide_eq_true_eq] at h
  exact chT_in _ w (List.mem_of_getElem? h)
def fOK (mi : MI) (ix ci j p : Nat) : Bool := match vcl[ci]? with
  | some q => decide (j < q.2.2) && tb p (.fieldLink mi.1.cls ix (q.2.1 j).1 (q.2.1 j).2.1 (q.2.1 j).2.2.1)
  | none => false
theorem fOK_ex {mi : MI} {ix ci j p : Nat} (h : fOK mi ix ci j p = true) : ∃ q, vcl[ci]? = some q ∧ j < q.2.2 ∧ Jvm.Cond.fieldLink mi.1.cls ix (q.2.1 j).1 (q.2.1 j).2.1 (q.2.1 j).2.2.1 ∈ TG := by
  unfold fOK at h
  split at h
  · next q hq =>
    simp only [Bool.and_eq_true, decide_eq_true_eq] at h
    exact ⟨q, hq, h.1, tb_in h.2⟩
  · cases h
def nfin (ci j : Nat) : Bool := match vcl[ci]? with
  | some q => !(q.2.1 j).2.2.2
  | none => false
def tgR (t : Nat) (ty : FieldType) : Bool := match t, ty with
  | 0, .int => true
  | 0, .boolean => true
  | 1, .long => true
  | 2, .object _ => true
  | 2, .array _ => true
  | _, _ => false
def tgW (t : Nat) (ty : FieldType) : Bool := match t, ty with
  | 0, .int => true
  | 3, .boolean => true
  | 1, .long => true
  | 2, .object _ => true
  | 2, .array _ => true
  | _, _ => false
theorem tgR0 {ty : FieldType} (h : tgR 0 ty = true) (x : Int) : avT ty x = vi x := by cases ty <;> first | rfl | cases h
theorem tgR1 {ty : FieldType} (h : tgR 1 ty = true) (x : Int) : avT ty x = vl x := by cases ty <;> first | rfl | cases h
theorem tgR2 {ty : FieldType} (h : tgR 2 ty = true) (x : Int) : avT ty x = vr x := by cases ty <;> first | rfl | cases h
theorem tgW0 {ty : FieldType} (h : tgW 0 ty = true) : ty = .int := by cases ty <;> first | rfl | cases h
theorem tgW3 {ty : FieldType} (h : tgW 3 ty = true) : ty = .boolean := by cases ty <;> first | rfl | cases h
theorem tgW1 {ty : FieldType} (h : tgW 1 ty = true) : ty = .long := by cases ty <;> first | rfl | cases h
theorem tgW2 {ty : FieldType} (h : tgW 2 ty = true) : (∀ x, avT ty x = vr x) ∧ ∀ x, fitT ty x := by cases ty <;> first | exact ⟨fun _ => rfl, fun _ => trivial⟩ | cases h
def rty (t : Nat) : FieldType := match t with
  | 0 => .int
  | 1 => .boolean
  | 2 => .char
  | _ => .byte
def nmb (mi2 : MI) (n : Nat) : Bool := decide (mi2.1.cls ≠ "java/lang/invoke/MethodHandle") && decide (mi2.1.cls ≠ "java/lang/invoke/VarHandle") && decide ((parseMethodDescriptor mi2.1.desc).map (fun d => d.parameters.length) = some n) && decide (mi2.2.2.1 ≤ 40)
theorem nmb_ok {mi2 : MI} {n : Nat} (h : nmb mi2 n = true) : nmOK mi2 n ∧ mi2.2.2.1 ≤ 40 := by
  unfold nmb at h
  simp only [Bool.and_eq_true, decide_eq_true_eq] at h
  exact ⟨⟨h.1.1.1, h.1.1.2, h.1.2⟩, h.2⟩
def vOK (mi : MI) (ix : Nat) (ex : List Nat) (o : Option MI) : Bool := match o with
  | some mi2 => tb (ex.getD 2 0) (.methodLink mi.1.cls ix mi2.1) && tb (ex.getD 3 0) (.instanceMethod mi2.1) && tb (ex.getD 4 0) (.selects mi2.1.cls mi2.1 mi2.1) && tb (ex.getD 6 0) (.initialized mi2.1.cls) && nmb mi2 (ex.drop 7).length && (if ex.getD 0 9 = 0 then decide (cname (ex.getD 1 0) = mi2.1.cls) && decide (ex.getD 1 0 < 13) else decide (mi2.1.cls = "java/lang/String"))
  | none => false
def sOK (mi : MI) (ix : Nat) (ex : List Nat) (o : Option MI) : Bool := match o with
  | some mi2 => (if ex.getD 0 9 = 0 then tb (ex.getD 1 0) (.methodLink mi.1.cls ix mi2.1) else tbN (ex.getD 1 0) (.methodLinkNest mi.1.cls ix mi2.1 "HandsHeld")) && tb (ex.getD 2 0) (.static mi2.1) && tb (ex.getD 4 0) (.initialized mi2.1.cls) && nmb mi2 (ex.drop 5).length
  | none => false
theorem kI_ex {o : Option AV} {f : Int → Prop} (h : kI o f) : ∃ a, o = some (.inl a) ∧ f a := by
  rcases o with _ | (a | a | a)
  · exact h.elim
  · exact ⟨a, rfl, h⟩
  · exact h.elim
  · exact h.elim
theorem kJ_ex {o : Option AV} {f : Int → Prop} (h : kJ o f) : ∃ a, o = some (.inr (.inl a)) ∧ f a := by
  rcases o with _ | (a | a | a)
  · exact h.elim
  · exact h.elim
  · exact ⟨a, rfl, h⟩
  · exact h.elim
theorem kR_ex {o : Option AV} {f : Int → Prop} (h : kR o f) : ∃ a, o = some (.inr (.inr a)) ∧ f a := by
  rcases o with _ | (a | a | a)
  · exact h.elim
  · exact h.elim
  · exact h.elim
  · exact ⟨a, rfl, h⟩
theorem kV_ex {o : Option (List AV × List AV)} {f : List AV → Int → List AV → Prop} (h : kV o f) : ∃ as z S', o = some (as, vr z :: S') ∧ f as z S' := by
  rcases o with _ | ⟨as, S⟩
  · exact h.elim
  · rcases S with _ | ⟨(a | a | a), S⟩
    · exact h.elim
    · exact h.elim
    · exact h.elim
    · exact ⟨as, a, S, rfl, h⟩
theorem kS_ex {o : Option (List AV × List AV)} {f : List AV → List AV → Prop} (h : kS o f) : ∃ as S', o = some (as, S') ∧ f as S' := by
  rcases o with _ | ⟨as, S⟩
  · exact h.elim
  · exact ⟨as, S, rfl, h⟩
theorem kM_ex {o : Option MI} {f : MI → Prop} (h : kM o f) : ∃ mi, o = some mi ∧ f mi := by
  rcases o with _ | mi
  · exact h.elim
  · exact ⟨mi, rfl, h⟩
theorem spl_0 {ts : List Nat} {S as S' : List AV} (h : spl ts [] S = some (as, S')) : S = as.reverse ++ S' ∧ as.length = ts.length := by
  obtain ⟨h1, h2⟩ := spl_eq ts [] S as S' h
  exact ⟨by simpa using h1, by simpa using h2⟩
def lenI (i : Instr) : Nat := match i with
  | .bipush _ => 2
  | .ldc _ => 2
  | .iload _ => 2
  | .lload _ => 2
  | .aload _ => 2
  | .istore _ => 2
  | .lstore _ => 2
  | .astore _ => 2
  | .sipush _ => 3
  | .ldc_w _ => 3
  | .ldc2_w _ => 3
  | .iinc _ _ => 3
  | .ifCond _ _ => 3
  | .if_icmp _ _ => 3
  | .ifnull _ => 3
  | .goto _ => 3
  | .getfield _ => 3
  | .putfield _ => 3
  | .getstatic _ => 3
  | .invokevirtual _ => 3
  | .invokestatic _ => 3
  | _ => 1
def chkI (mi : MI) (pc : Nat) (x : XI) : Bool := match x.1 with
  | .iconst n => decide (-100 ≤ n ∧ n ≤ 100)
  | .bipush n => decide (-128 ≤ n ∧ n ≤ 127)
  | .sipush n => decide (-32768 ≤ n ∧ n ≤ 32767)
  | .lconst n => decide ((n.val : Int) = x.2.2.1)
  | .ldc ix => if x.2.1.getD 0 9 = 0 then tb (x.2.1.getD 1 0) (.constant mi.1.cls ix (i3 x.2.2.1)) && decide (-2147483648 ≤ x.2.2.1 ∧ x.2.2.1 < 2147483648) else decide (x.2.1.getD 2 9 < 4) && decide (x.2.2.1 = -10 - (x.2.1.getD 2 9 : Nat)) && decide (mi.1.cls = romO (x.2.1.getD 2 9)) && decide (ix = romK (x.2.1.getD 2 9))
  | .ldc_w ix => tb (x.2.1.getD 1 0) (.constant mi.1.cls ix (i3 x.2.2.1)) && decide (-2147483648 ≤ x.2.2.1 ∧ x.2.2.1 < 2147483648)
  | .ldc2_w ix => tb (x.2.1.getD 0 0) (.constantLong mi.1.cls ix (i6 x.2.2.1)) && decide (-9223372036854775808 ≤ x.2.2.1 ∧ x.2.2.1 < 9223372036854775808)
  | .iload_n n => decide (n.val = x.2.1.getD 0 9)
  | .lload_n n => decide (n.val = x.2.1.getD 0 9)
  | .aload_n n => decide (n.val = x.2.1.getD 0 9)
  | .istore i => decide (i < mi.2.2.1)
  | .istore_n n => decide (n.val = x.2.1.getD 0 9) && decide (n.val < mi.2.2.1)
  | .lstore i => decide (i + 1 < mi.2.2.1)
  | .lstore_n n => decide (n.val = x.2.1.getD 0 9) && decide (n.val + 1 < mi.2.2.1)
  | .astore i => decide (i < mi.2.2.1)
  | .astore_n n => decide (n.val = x.2.1.getD 0 9) && decide (n.val < mi.2.2.1)
  | .iinc i n => decide (i < mi.2.2.1)
  | .ifCond c of => decide ((pc : Int) + of = (x.2.1.getD 0 0 : Nat))
  | .if_icmp c of => decide ((pc : Int) + of = (x.2.1.getD 0 0 : Nat))
  | .ifnull of => decide ((pc : Int) + of = (x.2.1.getD 0 0 : Nat))
  | .goto of => decide ((pc : Int) + of = (x.2.1.getD 0 0 : Nat))
  | .getfield ix => if x.2.1.getD 0 9 = 0 then fOK mi ix (x.2.1.getD 1 0) (x.2.1.getD 2 0) (x.2.1.getD 4 0) && decide (x.2.2.1 = (x.2.1.getD 2 0 : Nat)) && decide (tgR (x.2.1.getD 3 9) (tyOf (x.2.1.getD 1 0) (x.2.1.getD 2 0)) = true) else if x.2.1.getD 0 9 = 1 then fOK mi ix (x.2.1.getD 1 0) (x.2.1.getD 2 0) (x.2.1.getD 3 0) && decide (off (x.2.1.getD 1 0) (x.2.1.getD 2 0) ≠ 0) && decide (x.2.2.1 = (off (x.2.1.getD 1 0) (x.2.1.getD 2 0) : Nat)) && decide (tgR 2 (tyOf (x.2.1.getD 1 0) (x.2.1.getD 2 0)) = true) else if x.2.1.getD 1 9 = 0 then tb (x.2.1.getD 2 0) (.fieldLink mi.1.cls ix "java/lang/String" "value" "[B") else tb (x.2.1.getD 2 0) (.fieldLink mi.1.cls ix "java/lang/String" "coder" "B")
  | .putfield ix => fOK mi ix (x.2.1.getD 0 0) (x.2.1.getD 1 0) (x.2.1.getD 3 0) && decide (x.2.2.1 = (x.2.1.getD 1 0 : Nat)) && decide (tgW (x.2.1.getD 2 9) (tyOf (x.2.1.getD 0 0) (x.2.1.getD 1 0)) = true) && decide (off (x.2.1.getD 0 0) (x.2.1.getD 1 0) = 0) && nfin (x.2.1.getD 0 0) (x.2.1.getD 1 0)
  | .getstatic ix => if x.2.1.getD 0 9 = 0 then (if x.2.1.getD 2 0 = 0 then tb (x.2.1.getD 1 0) (.fieldLink mi.1.cls ix "HandsHeld" "POWER" "[I") else tbN (x.2.1.getD 1 0) (.fieldLinkNest mi.1.cls ix "HandsHeld" "POWER" "[I" "HandsHeld")) else if x.2.1.getD 0 9 = 1 then tb (x.2.1.getD 1 0) (.fieldLink mi.1.cls ix "java/lang/String" "COMPACT_STRINGS" "Z") else tb (x.2.1.getD 1 0) (.fieldLink mi.1.cls ix "jdk/internal/util/Preconditions" "SIOOBE_FORMATTER" "Ljava/util/function/BiFunction;")
  | .invokevirtual ix => vOK mi ix x.2.1 x.2.2.2
  | .invokestatic ix => if x.2.1.getD 0 9 = 3 then tb (x.2.1.getD 1 0) (.methodLink mi.1.cls ix Lib.Math.max.name) && tb (x.2.1.getD 2 0) (.static Lib.Math.max.name) && tb (x.2.1.getD 3 0) (.code Lib.Math.max.name Lib.Math.max.code 2 (some .int)) && tb (x.2.1.getD 4 0) (.initialized "java/lang/Math") else if x.2.1.getD 0 9 = 4 then tb (x.2.1.getD 1 0) (.methodLink mi.1.cls ix Lib.Math.min.name) && tb (x.2.1.getD 2 0) (.static Lib.Math.min.name) && tb (x.2.1.getD 3 0) (.code Lib.Math.min.name Lib.Math.min.code 2 (some .int)) && tb (x.2.1.getD 4 0) (.initialized "java/lang/Math") else if x.2.1.getD 0 9 = 2 then tb (x.2.1.getD 1 0) (.methodLink mi.1.cls ix arraycopyName) && tb (x.2.1.getD 2 0) (.native arraycopyName) && tb (x.2.1.getD 3 0) (.static arraycopyName) && tb (x.2.1.getD 4 0) (.initialized "java/lang/System") else sOK mi ix x.2.1 x.2.2.2
  | .ireturn  => decide (mi.2.2.2 = some (rty (x.2.1.getD 0 9)))
  | .lreturn  => decide (mi.2.2.2 = some .long)
  | .return_  => decide (mi.2.2.2 = none)
  | .tableswitch df lo hi offs => decide ((pc : Int) + df = (x.2.1.getD 0 0 : Nat)) && decide (x.2.2.1 = lo) && decide (hi = lo + ((x.2.1.drop 1).length : Nat) - 1) && decide (offs.toList.map (fun o => (pc : Int) + o) = (x.2.1.drop 1).map (fun t : Nat => (t : Int)))
  | _ => true
theorem nfin_ok {ci j : Nat} {q : vw_C} (hq : vcl[ci]? = some q) (h : nfin ci j = true) : (q.2.1 j).2.2.2 = false := by
  unfold nfin at h
  rw [hq] at h
  simpa using h
section OK
variable {G : AG} {d : Nat} {mi : MI} {Q : Option AV → AM → Prop} {pc : Nat} {L : AL} {S : List AV} {M : AM} {J : Nat → PK} {k : PK} {ex : List Nat} {v : Int} {o : Option MI}
theorem ok_iconst {n : Int} (hd : decode mi.2.1 pc = .ok (.iconst n, 1)) (hc : chkI mi pc (.iconst n, ex, v, o) = true) (h : wq_iconst G d Q J n ex v o L S M k) (hJ : ∀ t L S M, J t L S M → AW G d mi Q t L S M) (kk : ∀ L S M, k L S M → AW G d mi Q (pc + 1) L S M) : AW G d mi Q pc L S M := by
  have hc : decide (-100 ≤ n ∧ n ≤ 100) = true := hc
  simp only [decide_eq_true_eq] at hc
  exact aw_iconst hd ⟨by omega, by omega⟩ (kk _ _ _ h)
theorem ok_bipush {n : Int} (hd : decode mi.2.1 pc = .ok (.bipush n, 2)) (hc : chkI mi pc (.bipush n, ex, v, o) = true) (h : wq_bipush G d Q J n ex v o L S M k) (hJ : ∀ t L S M, J t L S M → AW G d mi Q t L S M) (kk : ∀ L S M, k L S M → AW G d mi Q (pc + 2) L S M) : AW G d mi Q pc L S M := by
  have hc : decide (-128 ≤ n ∧ n ≤ 127) = true := hc
  simp only [decide_eq_true_eq] at hc
  exact aw_bipush hd hc.1 hc.2 (kk _ _ _ h)
theorem ok_sipush {n : Int} (hd : decode mi.2.1 pc = .ok (.sipush n, 3)) (hc : chkI mi pc (.sipush n, ex, v, o) = true) (h : wq_sipush G d Q J n ex v o L S M k) (hJ : ∀ t L S M, J t L S M → AW G d mi Q t L S M) (kk : ∀ L S M, k L S M → AW G d mi Q (pc + 3) L S M) : AW G d mi Q pc L S M := by
  have hc : decide (-32768 ≤ n ∧ n ≤ 32767) = true := hc
  simp only [decide_eq_true_eq] at hc
  exact aw_sipush hd hc.1 hc.2 (kk _ _ _ h)
theorem ok_lconst {n : Fin 2} (hd : decode mi.2.1 pc = .ok (.lconst n, 1)) (hc : chkI mi pc (.lconst n, ex, v, o) = true) (h : wq_lconst G d Q J  ex v o L S M k) (hJ : ∀ t L S M, J t L S M → AW G d mi Q t L S M) (kk : ∀ L S M, k L S M → AW G d mi Q (pc + 1) L S M) : AW G d mi Q pc L S M := by
  have hc : decide ((n.val : Int) = v) = true := hc
  simp only [decide_eq_true_eq] at hc
  exact aw_lconst hd hc (kk _ _ _ h)
theorem ok_ldc {ix : Nat} (hd : decode mi.2.1 pc = .ok (.ldc ix, 2)) (hc : chkI mi pc (.ldc ix, ex, v, o) = true) (h : wq_ldc G d Q J  ex v o L S M k) (hJ : ∀ t L S M, J t L S M → AW G d mi Q t L S M) (kk : ∀ L S M, k L S M → AW G d mi Q (pc + 2) L S M) : AW G d mi Q pc L S M := by
  unfold wq_ldc at h
  split at h
  · simp only [chkI, List.getD_cons_zero, if_true, Bool.and_eq_true, decide_eq_true_eq] at hc
    exact aw_ldc hd hc.2 (tb_in hc.1) (kk _ _ _ h)
  · simp only [chkI, List.getD_cons_zero, Nat.one_ne_zero, if_false, Bool.and_eq_true, decide_eq_true_eq] at hc
    exact aw_ldcs hd hc.1.1.1 hc.1.1.2 hc.1.2 hc.2 (kk _ _ _ h)
  · exact h.elim
theorem ok_ldc_w {ix : Nat} (hd : decode mi.2.1 pc = .ok (.ldc_w ix, 3)) (hc : chkI mi pc (.ldc_w ix, ex, v, o) = true) (h : wq_ldc_w G d Q J  ex v o L S M k) (hJ : ∀ t L S M, J t L S M → AW G d mi Q t L S M) (kk : ∀ L S M, k L S M → AW G d mi Q (pc + 3) L S M) : AW G d mi Q pc L S M := by
  simp only [chkI, Bool.and_eq_true, decide_eq_true_eq] at hc
  exact aw_ldcw hd hc.2 (tb_in hc.1) (kk _ _ _ h)
theorem ok_ldc2_w {ix : Nat} (hd : decode mi.2.1 pc = .ok (.ldc2_w ix, 3)) (hc : chkI mi pc (.ldc2_w ix, ex, v, o) = true) (h : wq_ldc2_w G d Q J  ex v o L S M k) (hJ : ∀ t L S M, J t L S M → AW G d mi Q t L S M) (kk : ∀ L S M, k L S M → AW G d mi Q (pc + 3) L S M) : AW G d mi Q pc L S M := by
  simp only [chkI, Bool.and_eq_true, decide_eq_true_eq] at hc
  exact aw_ldc2 hd hc.2 (tb_in hc.1) (kk _ _ _ h)
theorem ok_iload {i : Nat} (hd : decode mi.2.1 pc = .ok (.iload i, 2)) (hc : chkI mi pc (.iload i, ex, v, o) = true) (h : wq_iload G d Q J i ex v o L S M k) (hJ : ∀ t L S M, J t L S M → AW G d mi Q t L S M) (kk : ∀ L S M, k L S M → AW G d mi Q (pc + 2) L S M) : AW G d mi Q pc L S M := by
  obtain ⟨a, hg, h⟩ := kI_ex (show kI (getL L i) _ from h)
  exact aw_iload hd hg (kk _ _ _ h)
theorem ok_iload_n {n : Fin 4} (hd : decode mi.2.1 pc = .ok (.iload_n n, 1)) (hc : chkI mi pc (.iload_n n, ex, v, o) = true) (h : wq_iload_n G d Q J  ex v o L S M k) (hJ : ∀ t L S M, J t L S M → AW G d mi Q t L S M) (kk : ∀ L S M, k L S M → AW G d mi Q (pc + 1) L S M) : AW G d mi Q pc L S M := by
  unfold wq_iload_n at h
  split at h
  · obtain ⟨a, hg, h⟩ := kI_ex h
    simp only [chkI, List.getD_cons_zero, decide_eq_true_eq] at hc
    exact aw_iload_n hd hc hg (kk _ _ _ h)
  · exact h.elim
theorem ok_lload {i : Nat} (hd : decode mi.2.1 pc = .ok (.lload i, 2)) (hc : chkI mi pc (.lload i, ex, v, o) = true) (h : wq_lload G d Q J i ex v o L S M k) (hJ : ∀ t L S M, J t L S M → AW G d mi Q t L S M) (kk : ∀ L S M, k L S M → AW G d mi Q (pc + 2) L S M) : AW G d mi Q pc L S M := by
  obtain ⟨a, hg, h⟩ := kJ_ex (show kJ (getL L i) _ from h)
  exact aw_lload hd hg (kk _ _ _ h)
theorem ok_lload_n {n : Fin 4} (hd : decode mi.2.1 pc = .ok (.lload_n n, 1)) (hc : chkI mi pc (.lload_n n, ex, v, o) = true) (h : wq_lload_n G d Q J  ex v o L S M k) (hJ : ∀ t L S M, J t L S M → AW G d mi Q t L S M) (kk : ∀ L S M, k L S M → AW G d mi Q (pc + 1) L S M) : AW G d mi Q pc L S M := by
  unfold wq_lload_n at h
  split at h
  · obtain ⟨a, hg, h⟩ := kJ_ex h
    simp only [chkI, List.getD_cons_zero, decide_eq_true_eq] at hc
    exact aw_lload_n hd hc hg (kk _ _ _ h)
  · exact h.elim
theorem ok_aload {i : Nat} (hd : decode mi.2.1 pc = .ok (.aload i, 2)) (hc : chkI mi pc (.aload i, ex, v, o) = true) (h : wq_aload G d Q J i ex v o L S M k) (hJ : ∀ t L S M, J t L S M → AW G d mi Q t L S M) (kk : ∀ L S M, k L S M → AW G d mi Q (pc + 2) L S M) : AW G d mi Q pc L S M := by
  obtain ⟨a, hg, h⟩ := kR_ex (show kR (getL L i) _ from h)
  exact aw_aload hd hg (kk _ _ _ h)
theorem ok_aload_n {n : Fin 4} (hd : decode mi.2.1 pc = .ok (.aload_n n, 1)) (hc : chkI mi pc (.aload_n n, ex, v, o) = true) (h : wq_aload_n G d Q J  ex v o L S M k) (hJ : ∀ t L S M, J t L S M → AW G d mi Q t L S M) (kk : ∀ L S M, k L S M → AW G d mi Q (pc + 1) L S M) : AW G d mi Q pc L S M := by
  unfold wq_aload_n at h
  split at h
  · obtain ⟨a, hg, h⟩ := kR_ex h
    simp only [chkI, List.getD_cons_zero, decide_eq_true_eq] at hc
    exact aw_aload_n hd hc hg (kk _ _ _ h)
  · exact h.elim
theorem ok_istore {i : Nat} (hd : decode mi.2.1 pc = .ok (.istore i, 2)) (hc : chkI mi pc (.istore i, ex, v, o) = true) (h : wq_istore G d Q J i ex v o L S M k) (hJ : ∀ t L S M, J t L S M → AW G d mi Q t L S M) (kk : ∀ L S M, k L S M → AW G d mi Q (pc + 2) L S M) : AW G d mi Q pc L S M := by
  unfold wq_istore at h
  split at h
  · simp only [chkI, decide_eq_true_eq] at hc
    exact aw_istore hd hc (kk _ _ _ h)
  · exact h.elim
theorem ok_istore_n {n : Fin 4} (hd : decode mi.2.1 pc = .ok (.istore_n n, 1)) (hc : chkI mi pc (.istore_n n, ex, v, o) = true) (h : wq_istore_n G d Q J  ex v o L S M k) (hJ : ∀ t L S M, J t L S M → AW G d mi Q t L S M) (kk : ∀ L S M, k L S M → AW G d mi Q (pc + 1) L S M) : AW G d mi Q pc L S M := by
  unfold wq_istore_n at h
  split at h
  · simp only [chkI, List.getD_cons_zero, Bool.and_eq_true, decide_eq_true_eq] at hc
    exact aw_istore_n hd hc.1 (hc.1 ▸ hc.2) (kk _ _ _ h)
  · exact h.elim
theorem ok_lstore {i : Nat} (hd : decode mi.2.1 pc = .ok (.lstore i, 2)) (hc : chkI mi pc (.lstore i, ex, v, o) = true) (h : wq_lstore G d Q J i ex v o L S M k) (hJ : ∀ t L S M, J t L S M → AW G d mi Q t L S M) (kk : ∀ L S M, k L S M → AW G d mi Q (pc + 2) L S M) : AW G d mi Q pc L S M := by
  unfold wq_lstore at h
  split at h
  · simp only [chkI, decide_eq_true_eq] at hc
    exact aw_lstore hd hc (kk _ _ _ h)
  · exact h.elim
theorem ok_lstore_n {n : Fin 4} (hd : decode mi.2.1 pc = .ok (.lstore_n n, 1)) (hc : chkI mi pc (.lstore_n n, ex, v, o) = true) (h : wq_lstore_n G d Q J  ex v o L S M k) (hJ : ∀ t L S M, J t L S M → AW G d mi Q t L S M) (kk : ∀ L S M, k L S M → AW G d mi Q (pc + 1) L S M) : AW G d mi Q pc L S M := by
  unfold wq_lstore_n at h
  split at h
  · simp only [chkI, List.getD_cons_zero, Bool.and_eq_true, decide_eq_true_eq] at hc
    exact aw_lstore_n hd hc.1 (hc.1 ▸ hc.2) (kk _ _ _ h)
  · exact h.elim
theorem ok_astore {i : Nat} (hd : decode mi.2.1 pc = .ok (.astore i, 2)) (hc : chkI mi pc (.astore i, ex, v, o) = true) (h : wq_astore G d Q J i ex v o L S M k) (hJ : ∀ t L S M, J t L S M → AW G d mi Q t L S M) (kk : ∀ L S M, k L S M → AW G d mi Q (pc + 2) L S M) : AW G d mi Q pc L S M := by
  unfold wq_astore at h
  split at h
  · simp only [chkI, decide_eq_true_eq] at hc
    exact aw_astore hd hc h.1 (kk _ _ _ h.2)
  · exact h.elim
theorem ok_astore_n {n : Fin 4} (hd : decode mi.2.1 pc = .ok (.astore_n n, 1)) (hc : chkI mi pc (.astore_n n, ex, v, o) = true) (h : wq_astore_n G d Q J  ex v o L S M k) (hJ : ∀ t L S M, J t L S M → AW G d mi Q t L S M) (kk : ∀ L S M, k L S M → AW G d mi Q (pc + 1) L S M) : AW G d mi Q pc L S M := by
  unfold wq_astore_n at h
  split at h
  · simp only [chkI, List.getD_cons_zero, Bool.and_eq_true, decide_eq_true_eq] at hc
    exact aw_astore_n hd hc.1 (hc.1 ▸ hc.2) h.1 (kk _ _ _ h.2)
  · exact h.elim
theorem ok_iinc {i : Nat} {n : Int} (hd : decode mi.2.1 pc = .ok (.iinc i n, 3)) (hc : chkI mi pc (.iinc i n, ex, v, o) = true) (h : wq_iinc G d Q J i n ex v o L S M k) (hJ : ∀ t L S M, J t L S M → AW G d mi Q t L S M) (kk : ∀ L S M, k L S M → AW G d mi Q (pc + 3) L S M) : AW G d mi Q pc L S M := by
  obtain ⟨a, hg, h⟩ := kI_ex (show kI (getL L i) _ from h)
  simp only [chkI, decide_eq_true_eq] at hc
  exact aw_iinc hd hc hg h.1 (kk _ _ _ h.2)
theorem ok_iadd (hd : decode mi.2.1 pc = .ok (.iadd , 1)) (hc : chkI mi pc (.iadd , ex, v, o) = true) (h : wq_iadd G d Q J  ex v o L S M k) (hJ : ∀ t L S M, J t L S M → AW G d mi Q t L S M) (kk : ∀ L S M, k L S M → AW G d mi Q (pc + 1) L S M) : AW G d mi Q pc L S M := by
  unfold wq_iadd at h
  split at h
  · exact aw_iadd hd h.1 (kk _ _ _ h.2)
  · exact aw_iaddW hd (kk _ _ _ h)
  · exact h.elim
theorem ok_isub (hd : decode mi.2.1 pc = .ok (.isub , 1)) (hc : chkI mi pc (.isub , ex, v, o) = true) (h : wq_isub G d Q J  ex v o L S M k) (hJ : ∀ t L S M, J t L S M → AW G d mi Q t L S M) (kk : ∀ L S M, k L S M → AW G d mi Q (pc + 1) L S M) : AW G d mi Q pc L S M := by
  unfold wq_isub at h
  split at h
  · exact aw_isub hd h.1 (kk _ _ _ h.2)
  · exact aw_isubW hd (kk _ _ _ h)
  · exact h.elim
theorem ok_imul (hd : decode mi.2.1 pc = .ok (.imul , 1)) (hc : chkI mi pc (.imul , ex, v, o) = true) (h : wq_imul G d Q J  ex v o L S M k) (hJ : ∀ t L S M, J t L S M → AW G d mi Q t L S M) (kk : ∀ L S M, k L S M → AW G d mi Q (pc + 1) L S M) : AW G d mi Q pc L S M := by
  unfold wq_imul at h
  split at h
  · exact aw_imul hd h.1 (kk _ _ _ h.2)
  · exact aw_imulW hd (kk _ _ _ h)
  · exact h.elim
theorem ok_idiv (hd : decode mi.2.1 pc = .ok (.idiv , 1)) (hc : chkI mi pc (.idiv , ex, v, o) = true) (h : wq_idiv G d Q J  ex v o L S M k) (hJ : ∀ t L S M, J t L S M → AW G d mi Q t L S M) (kk : ∀ L S M, k L S M → AW G d mi Q (pc + 1) L S M) : AW G d mi Q pc L S M := by
  unfold wq_idiv at h
  split at h
  · exact aw_idiv hd h.1 h.2.1 (kk _ _ _ h.2.2)
  · exact h.elim
theorem ok_irem (hd : decode mi.2.1 pc = .ok (.irem , 1)) (hc : chkI mi pc (.irem , ex, v, o) = true) (h : wq_irem G d Q J  ex v o L S M k) (hJ : ∀ t L S M, J t L S M → AW G d mi Q t L S M) (kk : ∀ L S M, k L S M → AW G d mi Q (pc + 1) L S M) : AW G d mi Q pc L S M := by
  unfold wq_irem at h
  split at h
  · exact aw_irem hd h.1 h.2.1 (kk _ _ _ h.2.2)
  · exact h.elim
theorem ok_ineg (hd : decode mi.2.1 pc = .ok (.ineg , 1)) (hc : chkI mi pc (.ineg , ex, v, o) = true) (h : wq_ineg G d Q J  ex v o L S M k) (hJ : ∀ t L S M, J t L S M → AW G d mi Q t L S M) (kk : ∀ L S M, k L S M → AW G d mi Q (pc + 1) L S M) : AW G d mi Q pc L S M := by
  unfold wq_ineg at h
  split at h
  · exact aw_ineg hd h.1 (kk _ _ _ h.2)
  · exact h.elim
theorem ok_iand (hd : decode mi.2.1 pc = .ok (.iand , 1)) (hc : chkI mi pc (.iand , ex, v, o) = true) (h : wq_iand G d Q J  ex v o L S M k) (hJ : ∀ t L S M, J t L S M → AW G d mi Q t L S M) (kk : ∀ L S M, k L S M → AW G d mi Q (pc + 1) L S M) : AW G d mi Q pc L S M := by
  unfold wq_iand at h
  split at h
  · exact aw_iand hd (kk _ _ _ h)
  · exact h.elim
theorem ok_ior (hd : decode mi.2.1 pc = .ok (.ior , 1)) (hc : chkI mi pc (.ior , ex, v, o) = true) (h : wq_ior G d Q J  ex v o L S M k) (hJ : ∀ t L S M, J t L S M → AW G d mi Q t L S M) (kk : ∀ L S M, k L S M → AW G d mi Q (pc + 1) L S M) : AW G d mi Q pc L S M := by
  unfold wq_ior at h
  split at h
  · exact aw_ior hd (kk _ _ _ h)
  · exact h.elim
theorem ok_ixor (hd : decode mi.2.1 pc = .ok (.ixor , 1)) (hc : chkI mi pc (.ixor , ex, v, o) = true) (h : wq_ixor G d Q J  ex v o L S M k) (hJ : ∀ t L S M, J t L S M → AW G d mi Q t L S M) (kk : ∀ L S M, k L S M → AW G d mi Q (pc + 1) L S M) : AW G d mi Q pc L S M := by
  unfold wq_ixor at h
  split at h
  · exact aw_ixor hd (kk _ _ _ h)
  · exact h.elim
theorem ok_ishl (hd : decode mi.2.1 pc = .ok (.ishl , 1)) (hc : chkI mi pc (.ishl , ex, v, o) = true) (h : wq_ishl G d Q J  ex v o L S M k) (hJ : ∀ t L S M, J t L S M → AW G d mi Q t L S M) (kk : ∀ L S M, k L S M → AW G d mi Q (pc + 1) L S M) : AW G d mi Q pc L S M := by
  unfold wq_ishl at h
  split at h
  · exact aw_ishl hd (kk _ _ _ h)
  · exact h.elim
theorem ok_ishr (hd : decode mi.2.1 pc = .ok (.ishr , 1)) (hc : chkI mi pc (.ishr , ex, v, o) = true) (h : wq_ishr G d Q J  ex v o L S M k) (hJ : ∀ t L S M, J t L S M → AW G d mi Q t L S M) (kk : ∀ L S M, k L S M → AW G d mi Q (pc + 1) L S M) : AW G d mi Q pc L S M := by
  unfold wq_ishr at h
  split at h
  · exact aw_ishr hd (kk _ _ _ h)
  · exact h.elim
theorem ok_iushr (hd : decode mi.2.1 pc = .ok (.iushr , 1)) (hc : chkI mi pc (.iushr , ex, v, o) = true) (h : wq_iushr G d Q J  ex v o L S M k) (hJ : ∀ t L S M, J t L S M → AW G d mi Q t L S M) (kk : ∀ L S M, k L S M → AW G d mi Q (pc + 1) L S M) : AW G d mi Q pc L S M := by
  unfold wq_iushr at h
  split at h
  · exact aw_iushr hd (kk _ _ _ h)
  · exact h.elim
theorem ok_ladd (hd : decode mi.2.1 pc = .ok (.ladd , 1)) (hc : chkI mi pc (.ladd , ex, v, o) = true) (h : wq_ladd G d Q J  ex v o L S M k) (hJ : ∀ t L S M, J t L S M → AW G d mi Q t L S M) (kk : ∀ L S M, k L S M → AW G d mi Q (pc + 1) L S M) : AW G d mi Q pc L S M := by
  unfold wq_ladd at h
  split at h
  · exact aw_ladd hd h.1 (kk _ _ _ h.2)
  · exact h.elim
theorem ok_lsub (hd : decode mi.2.1 pc = .ok (.lsub , 1)) (hc : chkI mi pc (.lsub , ex, v, o) = true) (h : wq_lsub G d Q J  ex v o L S M k) (hJ : ∀ t L S M, J t L S M → AW G d mi Q t L S M) (kk : ∀ L S M, k L S M → AW G d mi Q (pc + 1) L S M) : AW G d mi Q pc L S M := by
  unfold wq_lsub at h
  split at h
  · exact aw_lsub hd h.1 (kk _ _ _ h.2)
  · exact h.elim
theorem ok_lmul (hd : decode mi.2.1 pc = .ok (.lmul , 1)) (hc : chkI mi pc (.lmul , ex, v, o) = true) (h : wq_lmul G d Q J  ex v o L S M k) (hJ : ∀ t L S M, J t L S M → AW G d mi Q t L S M) (kk : ∀ L S M, k L S M → AW G d mi Q (pc + 1) L S M) : AW G d mi Q pc L S M := by
  unfold wq_lmul at h
  split at h
  · exact aw_lmul hd h.1 (kk _ _ _ h.2)
  · exact h.elim
theorem ok_ldiv (hd : decode mi.2.1 pc = .ok (.ldiv , 1)) (hc : chkI mi pc (.ldiv , ex, v, o) = true) (h : wq_ldiv G d Q J  ex v o L S M k) (hJ : ∀ t L S M, J t L S M → AW G d mi Q t L S M) (kk : ∀ L S M, k L S M → AW G d mi Q (pc + 1) L S M) : AW G d mi Q pc L S M := by
  unfold wq_ldiv at h
  split at h
  · exact aw_ldiv hd h.1 h.2.1 (kk _ _ _ h.2.2)
  · exact h.elim
theorem ok_lrem (hd : decode mi.2.1 pc = .ok (.lrem , 1)) (hc : chkI mi pc (.lrem , ex, v, o) = true) (h : wq_lrem G d Q J  ex v o L S M k) (hJ : ∀ t L S M, J t L S M → AW G d mi Q t L S M) (kk : ∀ L S M, k L S M → AW G d mi Q (pc + 1) L S M) : AW G d mi Q pc L S M := by
  unfold wq_lrem at h
  split at h
  · exact aw_lrem hd h.1 h.2.1 (kk _ _ _ h.2.2)
  · exact h.elim
theorem ok_land (hd : decode mi.2.1 pc = .ok (.land , 1)) (hc : chkI mi pc (.land , ex, v, o) = true) (h : wq_land G d Q J  ex v o L S M k) (hJ : ∀ t L S M, J t L S M → AW G d mi Q t L S M) (kk : ∀ L S M, k L S M → AW G d mi Q (pc + 1) L S M) : AW G d mi Q pc L S M := by
  unfold wq_land at h
  split at h
  · exact aw_land hd (kk _ _ _ h)
  · exact h.elim
theorem ok_lor (hd : decode mi.2.1 pc = .ok (.lor , 1)) (hc : chkI mi pc (.lor , ex, v, o) = true) (h : wq_lor G d Q J  ex v o L S M k) (hJ : ∀ t L S M, J t L S M → AW G d mi Q t L S M) (kk : ∀ L S M, k L S M → AW G d mi Q (pc + 1) L S M) : AW G d mi Q pc L S M := by
  unfold wq_lor at h
  split at h
  · exact aw_lor hd (kk _ _ _ h)
  · exact h.elim
theorem ok_lshl (hd : decode mi.2.1 pc = .ok (.lshl , 1)) (hc : chkI mi pc (.lshl , ex, v, o) = true) (h : wq_lshl G d Q J  ex v o L S M k) (hJ : ∀ t L S M, J t L S M → AW G d mi Q t L S M) (kk : ∀ L S M, k L S M → AW G d mi Q (pc + 1) L S M) : AW G d mi Q pc L S M := by
  unfold wq_lshl at h
  split at h
  · exact aw_lshl hd (kk _ _ _ h)
  · exact h.elim
theorem ok_lshr (hd : decode mi.2.1 pc = .ok (.lshr , 1)) (hc : chkI mi pc (.lshr , ex, v, o) = true) (h : wq_lshr G d Q J  ex v o L S M k) (hJ : ∀ t L S M, J t L S M → AW G d mi Q t L S M) (kk : ∀ L S M, k L S M → AW G d mi Q (pc + 1) L S M) : AW G d mi Q pc L S M := by
  unfold wq_lshr at h
  split at h
  · exact aw_lshr hd (kk _ _ _ h)
  · exact h.elim
theorem ok_i2l (hd : decode mi.2.1 pc = .ok (.i2l , 1)) (hc : chkI mi pc (.i2l , ex, v, o) = true) (h : wq_i2l G d Q J  ex v o L S M k) (hJ : ∀ t L S M, J t L S M → AW G d mi Q t L S M) (kk : ∀ L S M, k L S M → AW G d mi Q (pc + 1) L S M) : AW G d mi Q pc L S M := by
  unfold wq_i2l at h
  split at h
  · exact aw_i2l hd (kk _ _ _ h)
  · exact h.elim
theorem ok_l2i (hd : decode mi.2.1 pc = .ok (.l2i , 1)) (hc : chkI mi pc (.l2i , ex, v, o) = true) (h : wq_l2i G d Q J  ex v o L S M k) (hJ : ∀ t L S M, J t L S M → AW G d mi Q t L S M) (kk : ∀ L S M, k L S M → AW G d mi Q (pc + 1) L S M) : AW G d mi Q pc L S M := by
  unfold wq_l2i at h
  split at h
  · exact aw_l2i hd h.1 (kk _ _ _ h.2)
  · exact aw_l2iW hd (kk _ _ _ h)
  · exact h.elim
theorem ok_i2b (hd : decode mi.2.1 pc = .ok (.i2b , 1)) (hc : chkI mi pc (.i2b , ex, v, o) = true) (h : wq_i2b G d Q J  ex v o L S M k) (hJ : ∀ t L S M, J t L S M → AW G d mi Q t L S M) (kk : ∀ L S M, k L S M → AW G d mi Q (pc + 1) L S M) : AW G d mi Q pc L S M := by
  unfold wq_i2b at h
  split at h
  · exact aw_i2b hd (kk _ _ _ h)
  · exact h.elim
theorem ok_i2s (hd : decode mi.2.1 pc = .ok (.i2s , 1)) (hc : chkI mi pc (.i2s , ex, v, o) = true) (h : wq_i2s G d Q J  ex v o L S M k) (hJ : ∀ t L S M, J t L S M → AW G d mi Q t L S M) (kk : ∀ L S M, k L S M → AW G d mi Q (pc + 1) L S M) : AW G d mi Q pc L S M := by
  unfold wq_i2s at h
  split at h
  · exact aw_i2s hd (kk _ _ _ h)
  · exact h.elim
theorem ok_i2c (hd : decode mi.2.1 pc = .ok (.i2c , 1)) (hc : chkI mi pc (.i2c , ex, v, o) = true) (h : wq_i2c G d Q J  ex v o L S M k) (hJ : ∀ t L S M, J t L S M → AW G d mi Q t L S M) (kk : ∀ L S M, k L S M → AW G d mi Q (pc + 1) L S M) : AW G d mi Q pc L S M := by
  unfold wq_i2c at h
  split at h
  · exact aw_i2c hd (kk _ _ _ h)
  · exact h.elim
theorem ok_lcmp (hd : decode mi.2.1 pc = .ok (.lcmp , 1)) (hc : chkI mi pc (.lcmp , ex, v, o) = true) (h : wq_lcmp G d Q J  ex v o L S M k) (hJ : ∀ t L S M, J t L S M → AW G d mi Q t L S M) (kk : ∀ L S M, k L S M → AW G d mi Q (pc + 1) L S M) : AW G d mi Q pc L S M := by
  unfold wq_lcmp at h
  split at h
  · exact aw_lcmp hd (kk _ _ _ h)
  · exact h.elim
theorem ok_ifCond {c : ClassFile.Cond} {of : Int} (hd : decode mi.2.1 pc = .ok (.ifCond c of, 3)) (hc : chkI mi pc (.ifCond c of, ex, v, o) = true) (h : wq_ifCond G d Q J c ex v o L S M k) (hJ : ∀ t L S M, J t L S M → AW G d mi Q t L S M) (kk : ∀ L S M, k L S M → AW G d mi Q (pc + 3) L S M) : AW G d mi Q pc L S M := by
  unfold wq_ifCond at h
  split at h
  · simp only [chkI, List.getD_cons_zero, decide_eq_true_eq] at hc
    exact aw_ifCond hd hc (fun q => hJ _ _ _ _ (h.1 q)) (fun q => kk _ _ _ (h.2 q))
  · exact h.elim
theorem ok_if_icmp {c : ClassFile.Cond} {of : Int} (hd : decode mi.2.1 pc = .ok (.if_icmp c of, 3)) (hc : chkI mi pc (.if_icmp c of, ex, v, o) = true) (h : wq_if_icmp G d Q J c ex v o L S M k) (hJ : ∀ t L S M, J t L S M → AW G d mi Q t L S M) (kk : ∀ L S M, k L S M → AW G d mi Q (pc + 3) L S M) : AW G d mi Q pc L S M := by
  unfold wq_if_icmp at h
  split at h
  · simp only [chkI, List.getD_cons_zero, decide_eq_true_eq] at hc
    exact aw_icmp hd hc (fun q => hJ _ _ _ _ (h.1 q)) (fun q => kk _ _ _ (h.2 q))
  · exact h.elim
theorem ok_ifnull {of : Int} (hd : decode mi.2.1 pc = .ok (.ifnull of, 3)) (hc : chkI mi pc (.ifnull of, ex, v, o) = true) (h : wq_ifnull G d Q J  ex v o L S M k) (hJ : ∀ t L S M, J t L S M → AW G d mi Q t L S M) (kk : ∀ L S M, k L S M → AW G d mi Q (pc + 3) L S M) : AW G d mi Q pc L S M := by
  unfold wq_ifnull at h
  split at h
  · simp only [chkI, List.getD_cons_zero, decide_eq_true_eq] at hc
    exact aw_ifnull hd hc (fun q => hJ _ _ _ _ (h.1 q)) (fun q => kk _ _ _ (h.2 q))
  · exact h.elim
theorem ok_goto {of : Int} (hd : decode mi.2.1 pc = .ok (.goto of, 3)) (hc : chkI mi pc (.goto of, ex, v, o) = true) (h : wq_goto G d Q J  ex v o L S M k) (hJ : ∀ t L S M, J t L S M → AW G d mi Q t L S M) (kk : ∀ L S M, k L S M → AW G d mi Q (pc + 3) L S M) : AW G d mi Q pc L S M := by
  unfold wq_goto at h
  split at h
  · simp only [chkI, List.getD_cons_zero, decide_eq_true_eq] at hc
    exact aw_goto hd hc (hJ _ _ _ _ h)
  · exact h.elim
theorem ok_dup (hd : decode mi.2.1 pc = .ok (.dup , 1)) (hc : chkI mi pc (.dup , ex, v, o) = true) (h : wq_dup G d Q J  ex v o L S M k) (hJ : ∀ t L S M, J t L S M → AW G d mi Q t L S M) (kk : ∀ L S M, k L S M → AW G d mi Q (pc + 1) L S M) : AW G d mi Q pc L S M := by
  unfold wq_dup at h
  split at h
  · exact aw_dup hd (fun x q => by cases q) (kk _ _ _ h)
  · exact aw_dup hd (fun x q => by cases q) (kk _ _ _ h)
  · exact h.elim
theorem ok_dup2 (hd : decode mi.2.1 pc = .ok (.dup2 , 1)) (hc : chkI mi pc (.dup2 , ex, v, o) = true) (h : wq_dup2 G d Q J  ex v o L S M k) (hJ : ∀ t L S M, J t L S M → AW G d mi Q t L S M) (kk : ∀ L S M, k L S M → AW G d mi Q (pc + 1) L S M) : AW G d mi Q pc L S M := by
  unfold wq_dup2 at h
  split at h
  · exact aw_dup2 hd (fun x q => by cases q) (fun x q => by cases q) (kk _ _ _ h)
  · exact h.elim
theorem ok_pop (hd : decode mi.2.1 pc = .ok (.pop , 1)) (hc : chkI mi pc (.pop , ex, v, o) = true) (h : wq_pop G d Q J  ex v o L S M k) (hJ : ∀ t L S M, J t L S M → AW G d mi Q t L S M) (kk : ∀ L S M, k L S M → AW G d mi Q (pc + 1) L S M) : AW G d mi Q pc L S M := by
  unfold wq_pop at h
  split at h
  · exact aw_pop hd (fun x q => by cases q) (kk _ _ _ h)
  · exact aw_pop hd (fun x q => by cases q) (kk _ _ _ h)
  · exact h.elim
theorem ok_getfield {ix : Nat} (hd : decode mi.2.1 pc = .ok (.getfield ix, 3)) (hc : chkI mi pc (.getfield ix, ex, v, o) = true) (h : wq_getfield G d Q J  ex v o L S M k) (hJ : ∀ t L S M, J t L S M → AW G d mi Q t L S M) (kk : ∀ L S M, k L S M → AW G d mi Q (pc + 3) L S M) : AW G d mi Q pc L S M := by
  unfold wq_getfield at h
  split at h
  · simp only [chkI, List.getD_cons_zero, List.getD_cons_succ, if_true, Bool.and_eq_true, decide_eq_true_eq] at hc
    obtain ⟨q, hq, hj, hw⟩ := fOK_ex hc.1.1
    rw [hc.1.2] at h
    refine aw_getf hd h.1 hq hj hw ?_
    rw [tgR0 hc.2]
    exact kk _ _ _ h.2
  · simp only [chkI, List.getD_cons_zero, List.getD_cons_succ, if_true, Bool.and_eq_true, decide_eq_true_eq] at hc
    obtain ⟨q, hq, hj, hw⟩ := fOK_ex hc.1.1
    rw [hc.1.2] at h
    refine aw_getf hd h.1 hq hj hw ?_
    rw [tgR1 hc.2]
    exact kk _ _ _ h.2
  · simp only [chkI, List.getD_cons_zero, List.getD_cons_succ, if_true, Bool.and_eq_true, decide_eq_true_eq] at hc
    obtain ⟨q, hq, hj, hw⟩ := fOK_ex hc.1.1
    rw [hc.1.2] at h
    refine aw_getf hd h.1 hq hj hw ?_
    rw [tgR2 hc.2]
    exact kk _ _ _ h.2
  · rename_i ci tl z S
    match tl, hc with
    | j :: p :: _, hc =>
      simp only [chkI, List.getD_cons_zero, List.getD_cons_succ, Nat.one_ne_zero, if_true, if_false, Bool.and_eq_true, decide_eq_true_eq] at hc
      obtain ⟨q, hq, hj, hw⟩ := fOK_ex hc.1.1.1
      exact aw_getF hd h.1 hq hj hw hc.1.1.2 hc.1.2 (tgR2 hc.2) (kk _ _ _ h.2)
    | [j], hc =>
      simp only [chkI, List.getD_cons_zero, List.getD_cons_succ, Nat.one_ne_zero, if_true, if_false, Bool.and_eq_true, decide_eq_true_eq] at hc
      obtain ⟨q, hq, hj, hw⟩ := fOK_ex hc.1.1.1
      exact aw_getF hd h.1 hq hj hw hc.1.1.2 hc.1.2 (tgR2 hc.2) (kk _ _ _ h.2)
    | [], hc =>
      simp only [chkI, List.getD_cons_zero, List.getD_cons_succ, Nat.one_ne_zero, if_true, if_false, Bool.and_eq_true, decide_eq_true_eq] at hc
      obtain ⟨q, hq, hj, hw⟩ := fOK_ex hc.1.1.1
      exact aw_getF hd h.1 hq hj hw hc.1.1.2 hc.1.2 (tgR2 hc.2) (kk _ _ _ h.2)
  · have hc : tb _ (.fieldLink mi.1.cls ix "java/lang/String" "value" "[B") = true := hc
    exact aw_strval hd h.1 (tb_in hc) (kk _ _ _ h.2)
  · have hc : tb _ (.fieldLink mi.1.cls ix "java/lang/String" "coder" "B") = true := hc
    exact aw_strcod hd h.1 (tb_in hc) (kk _ _ _ h.2)
  · exact h.elim
theorem ok_putfield {ix : Nat} (hd : decode mi.2.1 pc = .ok (.putfield ix, 3)) (hc : chkI mi pc (.putfield ix, ex, v, o) = true) (h : wq_putfield G d Q J  ex v o L S M k) (hJ : ∀ t L S M, J t L S M → AW G d mi Q t L S M) (kk : ∀ L S M, k L S M → AW G d mi Q (pc + 3) L S M) : AW G d mi Q pc L S M := by
  unfold wq_putfield at h
  split at h
  · simp only [chkI, List.getD_cons_zero, List.getD_cons_succ, Bool.and_eq_true, decide_eq_true_eq] at hc
    obtain ⟨⟨⟨⟨hf, hv⟩, ht⟩, ho⟩, hn⟩ := hc
    obtain ⟨q, hq, hj, hw⟩ := fOK_ex hf
    have hfin : (q.2.1 _).2.2.2 = false := nfin_ok hq hn
    rw [hv] at h
    have e := tgW0 ht
    have key := aw_putf hd h.1 hq hj hw hfin ho (by rw [e]; exact id) (kk _ _ _ h.2)
    rw [e] at key
    exact key
  · simp only [chkI, List.getD_cons_zero, List.getD_cons_succ, Bool.and_eq_true, decide_eq_true_eq] at hc
    obtain ⟨⟨⟨⟨hf, hv⟩, ht⟩, ho⟩, hn⟩ := hc
    obtain ⟨q, hq, hj, hw⟩ := fOK_ex hf
    have hfin : (q.2.1 _).2.2.2 = false := nfin_ok hq hn
    rw [hv] at h
    have e := tgW1 ht
    have key := aw_putf hd h.1 hq hj hw hfin ho (by rw [e]; exact id) (kk _ _ _ h.2)
    rw [e] at key
    exact key
  · simp only [chkI, List.getD_cons_zero, List.getD_cons_succ, Bool.and_eq_true, decide_eq_true_eq] at hc
    obtain ⟨⟨⟨⟨hf, hv⟩, ht⟩, ho⟩, hn⟩ := hc
    obtain ⟨q, hq, hj, hw⟩ := fOK_ex hf
    have hfin : (q.2.1 _).2.2.2 = false := nfin_ok hq hn
    rw [hv] at h
    have key := aw_putf hd h.1 hq hj hw hfin ho (fun _ => (tgW2 ht).2 _) (kk _ _ _ h.2)
    rw [(tgW2 ht).1] at key
    exact key
  · simp only [chkI, List.getD_cons_zero, List.getD_cons_succ, Bool.and_eq_true, decide_eq_true_eq] at hc
    obtain ⟨⟨⟨⟨hf, hv⟩, ht⟩, ho⟩, hn⟩ := hc
    obtain ⟨q, hq, hj, hw⟩ := fOK_ex hf
    have hfin : (q.2.1 _).2.2.2 = false := nfin_ok hq hn
    rw [hv] at h
    have e := tgW3 ht
    have key := aw_putf hd h.1 hq hj hw hfin ho (by rw [e]; exact fun _ => h.2.1) (kk _ _ _ h.2.2)
    rw [e] at key
    exact key
  · exact h.elim
theorem ok_getstatic {ix : Nat} (hd : decode mi.2.1 pc = .ok (.getstatic ix, 3)) (hc : chkI mi pc (.getstatic ix, ex, v, o) = true) (h : wq_getstatic G d Q J  ex v o L S M k) (hJ : ∀ t L S M, J t L S M → AW G d mi Q t L S M) (kk : ∀ L S M, k L S M → AW G d mi Q (pc + 3) L S M) : AW G d mi Q pc L S M := by
  unfold wq_getstatic at h
  split at h
  · simp only [chkI, List.getD_cons_zero, if_true] at hc
    split at hc
    · exact aw_gets0 hd (.inl (tb_in hc)) (kk _ _ _ h)
    · exact aw_gets0 hd (.inr ⟨_, tbN_in hc⟩) (kk _ _ _ h)
  · have hc : tb _ (.fieldLink mi.1.cls ix "java/lang/String" "COMPACT_STRINGS" "Z") = true := hc
    exact aw_gets1 hd (tb_in hc) (kk _ _ _ h)
  · have hc : tb _ (.fieldLink mi.1.cls ix "jdk/internal/util/Preconditions" "SIOOBE_FORMATTER" "Ljava/util/function/BiFunction;") = true := hc
    exact aw_gets2 hd (tb_in hc) (kk _ _ _ h)
  · exact h.elim
theorem ok_iaload (hd : decode mi.2.1 pc = .ok (.iaload , 1)) (hc : chkI mi pc (.iaload , ex, v, o) = true) (h : wq_iaload G d Q J  ex v o L S M k) (hJ : ∀ t L S M, J t L S M → AW G d mi Q t L S M) (kk : ∀ L S M, k L S M → AW G d mi Q (pc + 1) L S M) : AW G d mi Q pc L S M := by
  unfold wq_iaload at h
  split at h
  · exact aw_iaload hd h.1 h.2.1 (kk _ _ _ h.2.2)
  · obtain ⟨rfl, h2, h3⟩ := h
    exact aw_power hd h2 (kk _ _ _ h3)
  · obtain ⟨rfl, h2, h3⟩ := h
    exact aw_script hd h2 (kk _ _ _ h3)
  · exact h.elim
theorem ok_iastore (hd : decode mi.2.1 pc = .ok (.iastore , 1)) (hc : chkI mi pc (.iastore , ex, v, o) = true) (h : wq_iastore G d Q J  ex v o L S M k) (hJ : ∀ t L S M, J t L S M → AW G d mi Q t L S M) (kk : ∀ L S M, k L S M → AW G d mi Q (pc + 1) L S M) : AW G d mi Q pc L S M := by
  unfold wq_iastore at h
  split at h
  · exact aw_iastore hd h.1 h.2.1 (kk _ _ _ h.2.2)
  · exact h.elim
theorem ok_laload (hd : decode mi.2.1 pc = .ok (.laload , 1)) (hc : chkI mi pc (.laload , ex, v, o) = true) (h : wq_laload G d Q J  ex v o L S M k) (hJ : ∀ t L S M, J t L S M → AW G d mi Q t L S M) (kk : ∀ L S M, k L S M → AW G d mi Q (pc + 1) L S M) : AW G d mi Q pc L S M := by
  unfold wq_laload at h
  split at h
  · exact aw_laload hd h.1 h.2.1 (kk _ _ _ h.2.2)
  · exact h.elim
theorem ok_lastore (hd : decode mi.2.1 pc = .ok (.lastore , 1)) (hc : chkI mi pc (.lastore , ex, v, o) = true) (h : wq_lastore G d Q J  ex v o L S M k) (hJ : ∀ t L S M, J t L S M → AW G d mi Q t L S M) (kk : ∀ L S M, k L S M → AW G d mi Q (pc + 1) L S M) : AW G d mi Q pc L S M := by
  unfold wq_lastore at h
  split at h
  · exact aw_lastore hd h.1 h.2.1 (kk _ _ _ h.2.2)
  · exact h.elim
theorem ok_baload (hd : decode mi.2.1 pc = .ok (.baload , 1)) (hc : chkI mi pc (.baload , ex, v, o) = true) (h : wq_baload G d Q J  ex v o L S M k) (hJ : ∀ t L S M, J t L S M → AW G d mi Q t L S M) (kk : ∀ L S M, k L S M → AW G d mi Q (pc + 1) L S M) : AW G d mi Q pc L S M := by
  unfold wq_baload at h
  split at h
  · exact aw_baload hd h.1 h.2.1 (kk _ _ _ h.2.2)
  · exact aw_baloadZ hd h.1 h.2.1 (kk _ _ _ h.2.2)
  · exact aw_romb hd h.1 h.2.1 (kk _ _ _ h.2.2)
  · exact h.elim
theorem ok_bastore (hd : decode mi.2.1 pc = .ok (.bastore , 1)) (hc : chkI mi pc (.bastore , ex, v, o) = true) (h : wq_bastore G d Q J  ex v o L S M k) (hJ : ∀ t L S M, J t L S M → AW G d mi Q t L S M) (kk : ∀ L S M, k L S M → AW G d mi Q (pc + 1) L S M) : AW G d mi Q pc L S M := by
  unfold wq_bastore at h
  split at h
  · exact aw_bastore hd h.1 h.2.1 h.2.2.1 (kk _ _ _ h.2.2.2)
  · exact aw_bastoreZ hd h.1 h.2.1 h.2.2.1 (kk _ _ _ h.2.2.2)
  · exact h.elim
theorem ok_aaload (hd : decode mi.2.1 pc = .ok (.aaload , 1)) (hc : chkI mi pc (.aaload , ex, v, o) = true) (h : wq_aaload G d Q J  ex v o L S M k) (hJ : ∀ t L S M, J t L S M → AW G d mi Q t L S M) (kk : ∀ L S M, k L S M → AW G d mi Q (pc + 1) L S M) : AW G d mi Q pc L S M := by
  unfold wq_aaload at h
  split at h
  · exact aw_aaload hd h.1 h.2.1 (kk _ _ _ h.2.2)
  · exact h.elim
theorem ok_aastore (hd : decode mi.2.1 pc = .ok (.aastore , 1)) (hc : chkI mi pc (.aastore , ex, v, o) = true) (h : wq_aastore G d Q J  ex v o L S M k) (hJ : ∀ t L S M, J t L S M → AW G d mi Q t L S M) (kk : ∀ L S M, k L S M → AW G d mi Q (pc + 1) L S M) : AW G d mi Q pc L S M := by
  unfold wq_aastore at h
  split at h
  · exact aw_aastore hd h.1 h.2.1 h.2.2.1 (kk _ _ _ h.2.2.2)
  · exact h.elim
theorem ok_arraylength (hd : decode mi.2.1 pc = .ok (.arraylength , 1)) (hc : chkI mi pc (.arraylength , ex, v, o) = true) (h : wq_arraylength G d Q J  ex v o L S M k) (hJ : ∀ t L S M, J t L S M → AW G d mi Q t L S M) (kk : ∀ L S M, k L S M → AW G d mi Q (pc + 1) L S M) : AW G d mi Q pc L S M := by
  unfold wq_arraylength at h
  split at h
  · exact aw_alen hd h.1 (kk _ _ _ h.2)
  · exact aw_romlen hd h.1 (kk _ _ _ h.2)
  · obtain ⟨rfl, h2⟩ := h
    exact aw_scriptlen hd (kk _ _ _ h2)
  · exact h.elim
theorem ok_invokevirtual {ix : Nat} (hd : decode mi.2.1 pc = .ok (.invokevirtual ix, 3)) (hc : chkI mi pc (.invokevirtual ix, ex, v, o) = true) (h : wq_invokevirtual G d Q J  ex v o L S M k) (hJ : ∀ t L S M, J t L S M → AW G d mi Q t L S M) (kk : ∀ L S M, k L S M → AW G d mi Q (pc + 3) L S M) : AW G d mi Q pc L S M := by
  unfold wq_invokevirtual at h
  split at h
  · obtain ⟨mi2, rfl, h⟩ := kM_ex h
    obtain ⟨as, z, S', hsp, h⟩ := kV_ex h
    obtain ⟨e1, e2⟩ := spl_0 hsp
    simp only [chkI, vOK, List.getD_cons_zero, List.getD_cons_succ, List.drop_succ_cons, List.drop_zero, if_true, if_false, Nat.one_ne_zero, Bool.and_eq_true, decide_eq_true_eq] at hc
    obtain ⟨⟨⟨⟨⟨c1, c2⟩, c3⟩, c5⟩, c6⟩, c7⟩ := hc
    obtain ⟨n1, n2⟩ := nmb_ok c6
    rw [e1]
    obtain ⟨q, hq⟩ := vcl_get c7.2
    exact aw_invV hd h.1 hq (by rw [← c7.1]; unfold cname; rw [hq]) (tb_in c1) (tb_in c2) (tb_in c3) (tb_in c5) (e2 ▸ n1) n2 h.2.1 h.2.2.1 h.2.2.2 kk
  · obtain ⟨mi2, rfl, h⟩ := kM_ex h
    obtain ⟨as, z, S', hsp, h⟩ := kV_ex h
    obtain ⟨e1, e2⟩ := spl_0 hsp
    simp only [chkI, vOK, List.getD_cons_zero, List.getD_cons_succ, List.drop_succ_cons, List.drop_zero, if_true, if_false, Nat.one_ne_zero, Bool.and_eq_true, decide_eq_true_eq] at hc
    obtain ⟨⟨⟨⟨⟨c1, c2⟩, c3⟩, c5⟩, c6⟩, c7⟩ := hc
    obtain ⟨n1, n2⟩ := nmb_ok c6
    rw [e1]
    exact aw_invT hd h.1 c7 (tb_in c1) (tb_in c2) (tb_in c3) (tb_in c5) (e2 ▸ n1) n2 h.2.1 h.2.2.1 h.2.2.2 kk
  · exact h.elim
theorem ok_invokestatic {ix : Nat} (hd : decode mi.2.1 pc = .ok (.invokestatic ix, 3)) (hc : chkI mi pc (.invokestatic ix, ex, v, o) = true) (h : wq_invokestatic G d Q J  ex v o L S M k) (hJ : ∀ t L S M, J t L S M → AW G d mi Q t L S M) (kk : ∀ L S M, k L S M → AW G d mi Q (pc + 3) L S M) : AW G d mi Q pc L S M := by
  unfold wq_invokestatic at h
  split at h
  · have hc : (tb _ (.methodLink mi.1.cls ix arraycopyName) && tb _ (.native arraycopyName) && tb _ (.static arraycopyName) && tb _ (.initialized "java/lang/System")) = true := hc
    simp only [Bool.and_eq_true] at hc
    exact aw_copy hd h.1 (tb_in hc.1.1.1) (tb_in hc.1.1.2) (tb_in hc.1.2) (tb_in hc.2) h.2.1 h.2.2.1 h.2.2.2.1 (kk _ _ _ h.2.2.2.2)
  · have hc : (tb _ (.methodLink mi.1.cls ix Lib.Math.max.name) && tb _ (.static Lib.Math.max.name) && tb _ (.code Lib.Math.max.name Lib.Math.max.code 2 (some .int)) && tb _ (.initialized "java/lang/Math")) = true := hc
    simp only [Bool.and_eq_true] at hc
    exact aw_mmax hd (tb_in hc.1.1.1) (tb_in hc.1.1.2) (tb_in hc.1.2) (tb_in hc.2) h.1 h.2.1 (kk _ _ _ h.2.2)
  · have hc : (tb _ (.methodLink mi.1.cls ix Lib.Math.min.name) && tb _ (.static Lib.Math.min.name) && tb _ (.code Lib.Math.min.name Lib.Math.min.code 2 (some .int)) && tb _ (.initialized "java/lang/Math")) = true := hc
    simp only [Bool.and_eq_true] at hc
    exact aw_mmin hd (tb_in hc.1.1.1) (tb_in hc.1.1.2) (tb_in hc.1.2) (tb_in hc.2) h.1 h.2.1 (kk _ _ _ h.2.2)
  · obtain ⟨mi2, rfl, h⟩ := kM_ex h
    obtain ⟨as, S', hsp, h⟩ := kS_ex h
    obtain ⟨e1, e2⟩ := spl_0 hsp
    have hc : sOK mi ix _ (some mi2) = true := hc
    simp only [sOK, List.getD_cons_zero, List.getD_cons_succ, List.drop_succ_cons, List.drop_zero, if_true, if_false, Nat.one_ne_zero, Bool.and_eq_true, decide_eq_true_eq] at hc
    obtain ⟨⟨⟨c1, c2⟩, c4⟩, c5⟩ := hc
    obtain ⟨n1, n2⟩ := nmb_ok c5
    rw [e1]
    exact aw_invS hd (.inl (tb_in c1)) (tb_in c2) (tb_in c4) (e2 ▸ n1) n2 h.1 h.2.1 h.2.2 kk
  · obtain ⟨mi2, rfl, h⟩ := kM_ex h
    obtain ⟨as, S', hsp, h⟩ := kS_ex h
    obtain ⟨e1, e2⟩ := spl_0 hsp
    have hc : sOK mi ix _ (some mi2) = true := hc
    simp only [sOK, List.getD_cons_zero, List.getD_cons_succ, List.drop_succ_cons, List.drop_zero, if_true, if_false, Nat.one_ne_zero, Bool.and_eq_true, decide_eq_true_eq] at hc
    obtain ⟨⟨⟨c1, c2⟩, c4⟩, c5⟩ := hc
    obtain ⟨n1, n2⟩ := nmb_ok c5
    rw [e1]
    exact aw_invS hd (.inr ⟨_, tbN_in c1⟩) (tb_in c2) (tb_in c4) (e2 ▸ n1) n2 h.1 h.2.1 h.2.2 kk
  · exact h.elim
theorem ok_ireturn (hd : decode mi.2.1 pc = .ok (.ireturn , 1)) (hc : chkI mi pc (.ireturn , ex, v, o) = true) (h : wq_ireturn G d Q J  ex v o L S M k) (hJ : ∀ t L S M, J t L S M → AW G d mi Q t L S M) (kk : ∀ L S M, k L S M → AW G d mi Q (pc + 1) L S M) : AW G d mi Q pc L S M := by
  unfold wq_ireturn at h
  split at h
  · simp only [chkI, List.getD_cons_zero, decide_eq_true_eq] at hc
    intro p e R s m args below meth c cells slots Z H locs ls hS hcc hR hN
    exact aw_ret (some (vi _)) hd (by rw [hc]; exact (okS_i.mp hN.2.2.2.2.1).1) h p e R s m args below meth c cells slots Z H locs ls hS hcc hR hN
  · simp only [chkI, List.getD_cons_zero, decide_eq_true_eq] at hc
    exact aw_ret (some (vi _)) hd (by rw [hc]; exact h.1) h.2
  · simp only [chkI, List.getD_cons_zero, decide_eq_true_eq] at hc
    exact aw_ret (some (vi _)) hd (by rw [hc]; exact h.1) h.2
  · simp only [chkI, List.getD_cons_zero, decide_eq_true_eq] at hc
    exact aw_ret (some (vi _)) hd (by rw [hc]; exact h.1) h.2
  · exact h.elim
theorem ok_lreturn (hd : decode mi.2.1 pc = .ok (.lreturn , 1)) (hc : chkI mi pc (.lreturn , ex, v, o) = true) (h : wq_lreturn G d Q J  ex v o L S M k) (hJ : ∀ t L S M, J t L S M → AW G d mi Q t L S M) (kk : ∀ L S M, k L S M → AW G d mi Q (pc + 1) L S M) : AW G d mi Q pc L S M := by
  unfold wq_lreturn at h
  split at h
  · simp only [chkI, decide_eq_true_eq] at hc
    intro p e R s m args below meth c cells slots Z H locs ls hS hcc hR hN
    exact aw_ret (some (vl _)) hd (by rw [hc]; exact (okS_l.mp hN.2.2.2.2.1).1) h p e R s m args below meth c cells slots Z H locs ls hS hcc hR hN
  · exact h.elim
theorem ok_return_ (hd : decode mi.2.1 pc = .ok (.return_ , 1)) (hc : chkI mi pc (.return_ , ex, v, o) = true) (h : wq_return_ G d Q J  ex v o L S M k) (hJ : ∀ t L S M, J t L S M → AW G d mi Q t L S M) (kk : ∀ L S M, k L S M → AW G d mi Q (pc + 1) L S M) : AW G d mi Q pc L S M := by
  unfold wq_return_ at h
  split at h
  · simp only [chkI, decide_eq_true_eq] at hc
    exact aw_ret none hd (by rw [hc]; trivial) h
  · exact h.elim
theorem ok_tableswitch {df : Int} {lo : Int} {hi : Int} {offs : Array Int} {len : Nat} (hd : decode mi.2.1 pc = .ok (.tableswitch df lo hi offs, len)) (hc : chkI mi pc (.tableswitch df lo hi offs, ex, v, o) = true) (h : wq_tableswitch G d Q J  ex v o L S M k) (hJ : ∀ t L S M, J t L S M → AW G d mi Q t L S M) : AW G d mi Q pc L S M := by
  unfold wq_tableswitch at h
  split at h
  · simp only [chkI, List.getD_cons_zero, List.drop_succ_cons, List.drop_zero, Bool.and_eq_true, decide_eq_true_eq] at hc
    obtain ⟨⟨⟨c1, c2⟩, c3⟩, c4⟩ := hc
    subst c2
    refine aw_tsw hd c1 c3 (fun j t' hj => ?_) (fun q => hJ _ _ _ _ (h.1 q)) (fun j t' hj hx => hJ _ _ _ _ (swT_get _ _ h.2 j t' hj hx))
    have e1 := congrArg (fun l => l[j]?) c4
    simp only [List.getElem?_map, hj, Option.map_some, Array.getElem?_toList] at e1
    cases ho : offs[j]? with
    | none => rw [ho] at e1; cases e1
    | some o => rw [ho] at e1; exact ⟨o, rfl, by simpa using e1⟩
  · exact h.elim
/-- the decode check of an instruction; behind a switch nothing follows, so its length is free -/
def chkD (bytes : ByteArray) (pc : Nat) (i : Instr) : Bool := match decode bytes pc with
  | .ok (j, l) => decide (j = i) && (decide (l = lenI i) || (match i with
    | .tableswitch _ _ _ _ => true
    | _ => false))
  | _ => false
theorem wpI_ok {x : XI} (hd : chkD mi.2.1 pc x.1 = true) (hc : chkI mi pc x = true) (hn : x.1 ≠ .nop) (h : wpI G d Q J x L S M k) (hJ : ∀ t L S M, J t L S M → AW G d mi Q t L S M) (kk : ∀ L S M, k L S M → AW G d mi Q (pc + lenI x.1) L S M) : AW G d mi Q pc L S M := by
  obtain ⟨i, ex, v, o⟩ := x
  unfold chkD at hd
  split at hd
  · next j l hdec =>
    simp only [Bool.and_eq_true, Bool.or_eq_true, decide_eq_true_eq] at hd
    obtain ⟨rfl, hl⟩ := hd
    cases j with
    | iconst n => exact ok_iconst (by rcases hl with hl | hl; (rw [hl] at hdec; exact hdec); cases hl) hc h hJ kk
    | bipush n => exact ok_bipush (by rcases hl with hl | hl; (rw [hl] at hdec; exact hdec); cases hl) hc h hJ kk
    | sipush n => exact ok_sipush (by rcases hl with hl | hl; (rw [hl] at hdec; exact hdec); cases hl) hc h hJ kk
    | lconst n => exact ok_lconst (by rcases hl with hl | hl; (rw [hl] at hdec; exact hdec); cases hl) hc h hJ kk
    | ldc ix => exact ok_ldc (by rcases hl with hl | hl; (rw [hl] at hdec; exact hdec); cases hl) hc h hJ kk
    | ldc_w ix => exact ok_ldc_w (by rcases hl with hl | hl; (rw [hl] at hdec; exact hdec); cases hl) hc h hJ kk
    | ldc2_w ix => exact ok_ldc2_w (by rcases hl with hl | hl; (rw [hl] at hdec; exact hdec); cases hl) hc h hJ kk
    | iload i => exact ok_iload (by rcases hl with hl | hl; (rw [hl] at hdec; exact hdec); cases hl) hc h hJ kk
    | iload_n n => exact ok_iload_n (by rcases hl with hl | hl; (rw [hl] at hdec; exact hdec); cases hl) hc h hJ kk
    | lload i => exact ok_lload (by rcases hl with hl | hl; (rw [hl] at hdec; exact hdec); cases hl) hc h hJ kk
    | lload_n n => exact ok_lload_n (by rcases hl with hl | hl; (rw [hl] at hdec; exact hdec); cases hl) hc h hJ kk
    | aload i => exact ok_aload (by rcases hl with hl | hl; (rw [hl] at hdec; exact hdec); cases hl) hc h hJ kk
    | aload_n n => exact ok_aload_n (by rcases hl with hl | hl; (rw [hl] at hdec; exact hdec); cases hl) hc h hJ kk
    | istore i => exact ok_istore (by rcases hl with hl | hl; (rw [hl] at hdec; exact hdec); cases hl) hc h hJ kk
    | istore_n n => exact ok_istore_n (by rcases hl with hl | hl; (rw [hl] at hdec; exact hdec); cases hl) hc h hJ kk
    | lstore i => exact ok_lstore (by rcases hl with hl | hl; (rw [hl] at hdec; exact hdec); cases hl) hc h hJ kk
    | lstore_n n => exact ok_lstore_n (by rcases hl with hl | hl; (rw [hl] at hdec; exact hdec); cases hl) hc h hJ kk
    | astore i => exact ok_astore (by rcases hl with hl | hl; (rw [hl] at hdec; exact hdec); cases hl) hc h hJ kk
    | astore_n n => exact ok_astore_n (by rcases hl with hl | hl; (rw [hl] at hdec; exact hdec); cases hl) hc h hJ kk
    | iinc i n => exact ok_iinc (by rcases hl with hl | hl; (rw [hl] at hdec; exact hdec); cases hl) hc h hJ kk
    | iadd  => exact ok_iadd (by rcases hl with hl | hl; (rw [hl] at hdec; exact hdec); cases hl) hc h hJ kk
    | isub  => exact ok_isub (by rcases hl with hl | hl; (rw [hl] at hdec; exact hdec); cases hl) hc h hJ kk
    | imul  => exact ok_imul (by rcases hl with hl | hl; (rw [hl] at hdec; exact hdec); cases hl) hc h hJ kk
    | idiv  => exact ok_idiv (by rcases hl with hl | hl; (rw [hl] at hdec; exact hdec); cases hl) hc h hJ kk
    | irem  => exact ok_irem (by rcases hl with hl | hl; (rw [hl] at hdec; exact hdec); cases hl) hc h hJ kk
    | ineg  => exact ok_ineg (by rcases hl with hl | hl; (rw [hl] at hdec; exact hdec); cases hl) hc h hJ kk
    | iand  => exact ok_iand (by rcases hl with hl | hl; (rw [hl] at hdec; exact hdec); cases hl) hc h hJ kk
    | ior  => exact ok_ior (by rcases hl with hl | hl; (rw [hl] at hdec; exact hdec); cases hl) hc h hJ kk
    | ixor  => exact ok_ixor (by rcases hl with hl | hl; (rw [hl] at hdec; exact hdec); cases hl) hc h hJ kk
    | ishl  => exact ok_ishl (by rcases hl with hl | hl; (rw [hl] at hdec; exact hdec); cases hl) hc h hJ kk
    | ishr  => exact ok_ishr (by rcases hl with hl | hl; (rw [hl] at hdec; exact hdec); cases hl) hc h hJ kk
    | iushr  => exact ok_iushr (by rcases hl with hl | hl; (rw [hl] at hdec; exact hdec); cases hl) hc h hJ kk
    | ladd  => exact ok_ladd (by rcases hl with hl | hl; (rw [hl] at hdec; exact hdec); cases hl) hc h hJ kk
    | lsub  => exact ok_lsub (by rcases hl with hl | hl; (rw [hl] at hdec; exact hdec); cases hl) hc h hJ kk
    | lmul  => exact ok_lmul (by rcases hl with hl | hl; (rw [hl] at hdec; exact hdec); cases hl) hc h hJ kk
    | ldiv  => exact ok_ldiv (by rcases hl with hl | hl; (rw [hl] at hdec; exact hdec); cases hl) hc h hJ kk
    | lrem  => exact ok_lrem (by rcases hl with hl | hl; (rw [hl] at hdec; exact hdec); cases hl) hc h hJ kk
    | land  => exact ok_land (by rcases hl with hl | hl; (rw [hl] at hdec; exact hdec); cases hl) hc h hJ kk
    | lor  => exact ok_lor (by rcases hl with hl | hl; (rw [hl] at hdec; exact hdec); cases hl) hc h hJ kk
    | lshl  => exact ok_lshl (by rcases hl with hl | hl; (rw [hl] at hdec; exact hdec); cases hl) hc h hJ kk
    | lshr  => exact ok_lshr (by rcases hl with hl | hl; (rw [hl] at hdec; exact hdec); cases hl) hc h hJ kk
    | i2l  => exact ok_i2l (by rcases hl with hl | hl; (rw [hl] at hdec; exact hdec); cases hl) hc h hJ kk
    | l2i  => exact ok_l2i (by rcases hl with hl | hl; (rw [hl] at hdec; exact hdec); cases hl) hc h hJ kk
    | i2b  => exact ok_i2b (by rcases hl with hl | hl; (rw [hl] at hdec; exact hdec); cases hl) hc h hJ kk
    | i2s  => exact ok_i2s (by rcases hl with hl | hl; (rw [hl] at hdec; exact hdec); cases hl) hc h hJ kk
    | i2c  => exact ok_i2c (by rcases hl with hl | hl; (rw [hl] at hdec; exact hdec); cases hl) hc h hJ kk
    | lcmp  => exact ok_lcmp (by rcases hl with hl | hl; (rw [hl] at hdec; exact hdec); cases hl) hc h hJ kk
    | ifCond c of => exact ok_ifCond (by rcases hl with hl | hl; (rw [hl] at hdec; exact hdec); cases hl) hc h hJ kk
    | if_icmp c of => exact ok_if_icmp (by rcases hl with hl | hl; (rw [hl] at hdec; exact hdec); cases hl) hc h hJ kk
    | ifnull of => exact ok_ifnull (by rcases hl with hl | hl; (rw [hl] at hdec; exact hdec); cases hl) hc h hJ kk
    | goto of => exact ok_goto (by rcases hl with hl | hl; (rw [hl] at hdec; exact hdec); cases hl) hc h hJ kk
    | nop => exact absurd rfl hn
    | dup  => exact ok_dup (by rcases hl with hl | hl; (rw [hl] at hdec; exact hdec); cases hl) hc h hJ kk
    | dup2  => exact ok_dup2 (by rcases hl with hl | hl; (rw [hl] at hdec; exact hdec); cases hl) hc h hJ kk
    | pop  => exact ok_pop (by rcases hl with hl | hl; (rw [hl] at hdec; exact hdec); cases hl) hc h hJ kk
    | getfield ix => exact ok_getfield (by rcases hl with hl | hl; (rw [hl] at hdec; exact hdec); cases hl) hc h hJ kk
    | putfield ix => exact ok_putfield (by rcases hl with hl | hl; (rw [hl] at hdec; exact hdec); cases hl) hc h hJ kk
    | getstatic ix => exact ok_getstatic (by rcases hl with hl | hl; (rw [hl] at hdec; exact hdec); cases hl) hc h hJ kk
    | iaload  => exact ok_iaload (by rcases hl with hl | hl; (rw [hl] at hdec; exact hdec); cases hl) hc h hJ kk
    | iastore  => exact ok_iastore (by rcases hl with hl | hl; (rw [hl] at hdec; exact hdec); cases hl) hc h hJ kk
    | laload  => exact ok_laload (by rcases hl with hl | hl; (rw [hl] at hdec; exact hdec); cases hl) hc h hJ kk
    | lastore  => exact ok_lastore (by rcases hl with hl | hl; (rw [hl] at hdec; exact hdec); cases hl) hc h hJ kk
    | baload  => exact ok_baload (by rcases hl with hl | hl; (rw [hl] at hdec; exact hdec); cases hl) hc h hJ kk
    | bastore  => exact ok_bastore (by rcases hl with hl | hl; (rw [hl] at hdec; exact hdec); cases hl) hc h hJ kk
    | aaload  => exact ok_aaload (by rcases hl with hl | hl; (rw [hl] at hdec; exact hdec); cases hl) hc h hJ kk
    | aastore  => exact ok_aastore (by rcases hl with hl | hl; (rw [hl] at hdec; exact hdec); cases hl) hc h hJ kk
    | arraylength  => exact ok_arraylength (by rcases hl with hl | hl; (rw [hl] at hdec; exact hdec); cases hl) hc h hJ kk
    | invokevirtual ix => exact ok_invokevirtual (by rcases hl with hl | hl; (rw [hl] at hdec; exact hdec); cases hl) hc h hJ kk
    | invokestatic ix => exact ok_invokestatic (by rcases hl with hl | hl; (rw [hl] at hdec; exact hdec); cases hl) hc h hJ kk
    | ireturn  => exact ok_ireturn (by rcases hl with hl | hl; (rw [hl] at hdec; exact hdec); cases hl) hc h hJ kk
    | lreturn  => exact ok_lreturn (by rcases hl with hl | hl; (rw [hl] at hdec; exact hdec); cases hl) hc h hJ kk
    | return_  => exact ok_return_ (by rcases hl with hl | hl; (rw [hl] at hdec; exact hdec); cases hl) hc h hJ kk
    | tableswitch df lo hi offs => exact ok_tableswitch (k := k) hdec hc h hJ
    | _ => exact (show False from h).elim
  · cases hd
def chkB (mi : MI) : Nat → List XI → Bool
  | _, [] => true
  | pc, x :: xs => match x.1 with
    | .nop => decide (x.2.1.getD 0 0 = pc)
    | i => chkD mi.2.1 pc i && chkI mi pc x && chkB mi (pc + lenI i) xs
theorem wpB_ok (hJ : ∀ t L S M, J t L S M → AW G d mi Q t L S M) : ∀ (xs : List XI) (pc : Nat) (L : AL) (S : List AV) (M : AM), chkB mi pc xs = true → wpB G d Q J xs L S M → AW G d mi Q pc L S M
  | [], _, _, _, _, _, h => False.elim h
  | x :: xs, pc, L, S, M, hc, h => by
    by_cases hn : x.1 = .nop
    · obtain ⟨i, ex, v, o⟩ := x
      have hn : i = .nop := hn
      subst hn
      have h : wq_nop G d Q J ex v o L S M (wpB G d Q J xs) := h
      unfold wq_nop at h
      split at h
      · have hc : decide (_ = pc) = true := hc
        simp only [List.getD_cons_zero, decide_eq_true_eq] at hc
        rw [← hc]
        exact hJ _ _ _ _ h
      · exact h.elim
    · have hc2 : (chkD mi.2.1 pc x.1 && chkI mi pc x && chkB mi (pc + lenI x.1) xs) = true := by
        unfold chkB at hc
        split at hc
        · next e => exact absurd e hn
        · exact hc
      simp only [Bool.and_eq_true] at hc2
      exact wpI_ok hc2.1.1 hc2.1.2 hn h hJ (fun L S M hk => wpB_ok hJ xs (pc + lenI x.1) L S M hc2.2 hk)
def chkC (mi : MI) (cd : List (Nat × List XI)) : Bool := cd.all fun q => chkB mi q.1 q.2
theorem blk_ok {cd : List (Nat × List XI)} (h : chkC mi cd = true) (pc : Nat) : chkB mi pc (blk cd pc) = true := by
  induction cd with
  | nil => rfl
  | cons q r ih =>
    unfold chkC at h
    rw [List.all_cons, Bool.and_eq_true] at h
    obtain ⟨q1, q2⟩ := q
    unfold blk
    split
    · next e => rw [← e]; exact h.1
    · exact ih h.2
theorem wpR_ok {cd : List (Nat × List XI)} {cut : List (Nat × PK)} (hc : chkC mi cd = true) (hcut : ∀ t I, lkI cut t = some I → ∀ L S M, I L S M → AW G d mi Q t L S M) : ∀ (n pc : Nat) (L : AL) (S : List AV) (M : AM), wpR G d Q cd cut n pc L S M → AW G d mi Q pc L S M
  | 0, _, _, _, _, h => False.elim h
  | n + 1, pc, L, S, M, h => by
    refine wpB_ok (J := jJ cut (wpR G d Q cd cut n)) (fun t L S M hj => ?_) (blk cd pc) pc L S M (blk_ok hc pc) h
    unfold jJ at hj
    cases hl : lkI cut t with
    | none => rw [hl] at hj; exact wpR_ok hc hcut n t L S M hj
    | some I => rw [hl] at hj; exact hcut t I hl L S M hj
end OK
