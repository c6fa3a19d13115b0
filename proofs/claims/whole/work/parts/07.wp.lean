/-! what is read only, in the heap -/
def TG : List Cond := lw_tbl.filter goodWord
theorem TG_in {w : Cond} {i : Nat} (h : lw_tbl[i]? = some w) (hg : goodWord w = true) : w ∈ TG := List.mem_filter.mpr ⟨List.mem_of_getElem? h, hg⟩
theorem TG_good : GoodIn TG TG := fun w h => ⟨h, good_of_word (List.mem_filter.mp h).2⟩
def romO (i : Nat) : String := if i < 2 then "HandsHeld$Reader" else "HandsHeldModel"
def romK (i : Nat) : Nat := if i = 0 then 111 else if i = 1 then 104 else if i = 2 then 91 else 129
def romT (i : Nat) : String := if i = 0 then "person side strength weight rod cold held mates others hall must tires counts if then else end and or not " else if i = 2 then " hall must person side strength weight rod cold tires counts if then else end held mates others and or not " else ";:+-*()[]=<>"
/-- words of nest mates: they hold on while the machine runs -/
def isNest (w : Jvm.Cond) : Bool := match w with
  | .methodLinkNest _ _ _ _ => true
  | .fieldLinkNest _ _ _ _ _ _ => true
  | _ => false
def NestOK (U : State) : Prop := ∀ w ∈ lw_tbl, isNest w = true → va_Nw w U
theorem NestOK.warm {s U : State} (hW : s.WarmedH U.vm) (h : NestOK s) : NestOK U := by
  intro w hw hn
  have h1 := h w hw hn
  unfold isNest at hn
  split at hn
  · exact h1.warmM hW
  · exact h1.warmF hW
  · cases hn
theorem NestOK.same {s U : State} (hv : U.vm = s.vm) (h : NestOK s) : NestOK U := by
  intro w hw hn
  have h1 := h w hw hn
  unfold isNest at hn
  split at hn
  · exact va_Nw.same rfl hv.symm h1
  · exact va_Nw.same rfl hv.symm h1
  · cases hn
def Rom (G : AG) (U : State) (H : Heap) : Prop :=
  va_Z "HandsHeld" "POWER" "[I" (.ref (G.2.2.1 (-2))) (Aof G) U H ∧
  va_T .int (G.2.2.1 (-2)) 6 (fun j => .int (i3 (romA (-2) j))) (Aof G) U H ∧
  va_Z "java/lang/String" "COMPACT_STRINGS" "Z" (.int 1) (Aof G) U H ∧
  va_Z "jdk/internal/util/Preconditions" "SIOOBE_FORMATTER" "Ljava/util/function/BiFunction;" (va_rf (adr G G.2.2.2.2.2)) (Aof G) U H ∧
  (∀ i : Nat, i < 4 → va_O "java/lang/String" (G.2.2.1 (-10 - i)) (Aof G) U H ∧ va_OF "java/lang/String" "coder" "B" (.int 0) (G.2.2.1 (-10 - i)) (Aof G) U H ∧ va_OF "java/lang/String" "value" "[B" (.ref (G.2.2.1 (-20 - i))) (G.2.2.1 (-10 - i)) (Aof G) U H ∧ va_T .byte (G.2.2.1 (-20 - i)) (romL (-20 - i)).length (fun j => .int (i3 (romA (-20 - i) j))) (Aof G) U H) ∧
  ((∀ i : Nat, i < 4 → vk_R (romO i) (romK i) (romT i) (G.2.2.1 (-10 - i)) U) ∧ NestOK U) ∧
  va_X (G.2.2.1 (-50)) G.2.2.2.2.1.2.1 G.2.2.2.2.1.2.2 U H ∧ G.2.2.1 (-50) < H.size ∧ ¬ Aof G (G.2.2.1 (-50)) ∧ G.2.2.2.2.1.2.1 ≤ 3072
theorem Rom.moved {G : AG} {s U : State} {H : Heap} (hW : s.WarmedH U.vm) (h : Rom G s H) : Rom G U H := by
  obtain ⟨h1, h2, h3, h4, h5, h6, h7, h8⟩ := h
  exact ⟨h1.moved hW.alike, h2.moved hW.alike, h3.moved hW.alike, h4.moved hW.alike, fun i hi => ⟨va_O.moved hW.alike (h5 i hi).1, va_OF.moved hW.alike (h5 i hi).2.1, va_OF.moved hW.alike (h5 i hi).2.2.1, va_T.moved hW.alike (h5 i hi).2.2.2⟩, ⟨fun i hi => vk_R.warm hW (h6.1 i hi), h6.2.warm hW⟩, h7.moved hW.alike, h8⟩
theorem Rom.same {G : AG} {s U : State} {H : Heap} (hv : U.vm = s.vm) (h : Rom G s H) : Rom G U H := by
  obtain ⟨h1, h2, h3, h4, h5, h6, h7, h8⟩ := h
  have ha : s.vm.Alike U.vm := by rw [hv]; exact Vm.Alike.refl s.vm
  exact ⟨h1.moved ha, h2.moved ha, h3.moved ha, h4.moved ha, fun i hi => ⟨va_O.moved ha (h5 i hi).1, va_OF.moved ha (h5 i hi).2.1, va_OF.moved ha (h5 i hi).2.2.1, va_T.moved ha (h5 i hi).2.2.2⟩, ⟨fun i hi => vk_R.same hv (h6.1 i hi), h6.2.same hv⟩, h7.moved ha, h8⟩
theorem Rom.kept {G : AG} {s : State} {H H1 : Heap} (h : Rom G s H) (hz : H.size ≤ H1.size) (hq : ∀ a : Nat, a < H.size → ¬ Aof G a → H1[a]? = H[a]?) : Rom G s H1 := by
  obtain ⟨h1, h2, h3, h4, h5, h6, h7, h8, h9, h10⟩ := h
  exact ⟨h1.kept hq, h2.kept hq, h3.kept hq, h4.kept hq, fun i hi => ⟨(h5 i hi).1.kept hq, (h5 i hi).2.1.kept hq, (h5 i hi).2.2.1.kept hq, (h5 i hi).2.2.2.kept hq⟩, h6, h7.kept (hq _ h8 h9), Nat.lt_of_lt_of_le h8 hz, h9, h10⟩
/-- the world at a state: the places as the memory M has them -/
def Wd (G : AG) (M : AM) (U : State) : Prop := va_K G.2.1 vcl (tysOf G) U ∧ va_P G.2.1 vcl (wsOf G M) U.heap ∧ Rom G U U.heap ∧ inj G ∧ okM M
def rmD (d : Nat) : Room := { frames := d, cells := 0, slots := 0, locals := 64 * d }
def wsM (mi : MI) : List Cond := Cond.code mi.1 mi.2.1 mi.2.2.1 mi.2.2.2 :: TG
def QcM (G : AG) (mi : MI) (Q : Option AV → AM → Prop) : Array Value → State → Outcome → State → Prop := match mi.2.2.2 with
  | none => va_Qv (fun M' => Q none M') (fun M' t => Wd G M' t) (Aof G)
  | some .long => va_Ql (fun r M' => Q (some (vl r.toInt)) M') (fun M' t => Wd G M' t) (Aof G)
  | some _ => va_Qi (fun r M' => Q (some (vi r.toInt)) M') (fun M' t => Wd G M' t) (Aof G)
/-- A METHOD's CONTRACT: called with arguments as, memory M, room for d calls: it returns, with an answer and a memory of which Q holds -/
def MS (G : AG) (d : Nat) (mi : MI) (as : List AV) (M : AM) (Q : Option AV → AM → Prop) : Prop :=
  Jvm.Cond.code mi.1 mi.2.1 mi.2.2.1 mi.2.2.2 ∈ TG ∧ Met G.1 mi.1 (wsM mi) (rmD d) (va_Pc (as.map (cv G)) (fun U => okS as ∧ Wd G M U)) (QcM G mi Q) 0 0 (Aof G)
/-! the predicate transformer -/
abbrev PK : Type := AL → List AV → AM → Prop
def spl : List Nat → List AV → List AV → Option (List AV × List AV)
  | [], acc, S => some (acc, S)
  | 0 :: ts, acc, .inl x :: S => spl ts (.inl x :: acc) S
  | 1 :: ts, acc, .inr (.inl x) :: S => spl ts (.inr (.inl x) :: acc) S
  | 2 :: ts, acc, .inr (.inr x) :: S => spl ts (.inr (.inr x) :: acc) S
  | _, _, _ => none
def psh (r : Option AV) (S : List AV) : List AV := match r with
  | none => S
  | some v => v :: S
/-- behind a call -/
def cK (k : PK) (L : AL) (S : List AV) : Option AV → AM → Prop := fun r M => k L (psh r S) M
def s4 (S : List AV) : Prop := match S with
  | _ :: _ :: _ :: _ :: _ :: _ => False
  | _ => True
def cnd (c : ClassFile.Cond) (x y : Int) : Prop := match c with
  | .eq => x = y
  | .ne => ¬ x = y
  | .lt => x < y
  | .ge => y ≤ x
  | .gt => y < x
  | .le => x ≤ y
def cpy (M : AM) (a sp b dp n : Int) : AM := fun x y => if x = b ∧ dp ≤ y ∧ y < dp + n then M a (sp + (y - dp)) else M x y
def cname (ci : Nat) : String := match vcl[ci]? with
  | some q => q.1
  | none => ""
def arR (z : Int) (ci : Nat) : Prop := arT z (.object (cname ci))
def isArr (z : Int) : Prop := ∃ ty, arT z ty
def swT (J : Nat → PK) (L : AL) (S : List AV) (M : AM) (x : Int) : Int → List Nat → Prop
  | _, [] => True
  | lo, t :: ts => (x = lo → J t L S M) ∧ swT J L S M x (lo + 1) ts
def kI (o : Option AV) (f : Int → Prop) : Prop := match o with
  | some (.inl a) => f a
  | _ => False
def kJ (o : Option AV) (f : Int → Prop) : Prop := match o with
  | some (.inr (.inl a)) => f a
  | _ => False
def kR (o : Option AV) (f : Int → Prop) : Prop := match o with
  | some (.inr (.inr a)) => f a
  | _ => False
def kV (o : Option (List AV × List AV)) (f : List AV → Int → List AV → Prop) : Prop := match o with
  | some (as, .inr (.inr z) :: S') => f as z S'
  | _ => False
def kS (o : Option (List AV × List AV)) (f : List AV → List AV → Prop) : Prop := match o with
  | some (as, S') => f as S'
  | _ => False
def kM (o : Option MI) (f : MI → Prop) : Prop := match o with
  | some mi => f mi
  | none => False
/- CASES
match x.1, x.2.1, S with
  | .iconst n, _, S => k L (vi n :: S) M
  | .bipush n, _, S => k L (vi n :: S) M
  | .sipush n, _, S => k L (vi n :: S) M
  | .lconst _, _, S => k L (vl x.2.2.1 :: S) M
  | .ldc _, 0 :: _, S => k L (vi x.2.2.1 :: S) M
  | .ldc _, 1 :: _, S => k L (vr x.2.2.1 :: S) M
  | .ldc_w _, _, S => k L (vi x.2.2.1 :: S) M
  | .ldc2_w _, _, S => k L (vl x.2.2.1 :: S) M
  | .iload i, _, S => kI (getL L i) fun a => k L (vi a :: S) M
  | .iload_n _, i :: _, S => kI (getL L i) fun a => k L (vi a :: S) M
  | .lload i, _, S => kJ (getL L i) fun a => k L (vl a :: S) M
  | .lload_n _, i :: _, S => kJ (getL L i) fun a => k L (vl a :: S) M
  | .aload i, _, S => kR (getL L i) fun a => k L (vr a :: S) M
  | .aload_n _, i :: _, S => kR (getL L i) fun a => k L (vr a :: S) M
  | .istore i, _, .inl a :: S => k (st1 L i (vi a)) S M
  | .istore_n _, i :: _, .inl a :: S => k (st1 L i (vi a)) S M
  | .lstore i, _, .inr (.inl a) :: S => k (st2 L i (vl a)) S M
  | .lstore_n _, i :: _, .inr (.inl a) :: S => k (st2 L i (vl a)) S M
  | .astore i, _, .inr (.inr a) :: S => ¬ a = -1 ∧ k (st1 L i (vr a)) S M
  | .astore_n _, i :: _, .inr (.inr a) :: S => ¬ a = -1 ∧ k (st1 L i (vr a)) S M
  | .iinc i n, _, S => kI (getL L i) fun a => inI (a + n) ∧ k (st1 L i (vi (a + n))) S M
  | .iadd, [], .inl b :: .inl a :: S => inI (a + b) ∧ k L (vi (a + b) :: S) M
  | .isub, [], .inl b :: .inl a :: S => inI (a - b) ∧ k L (vi (a - b) :: S) M
  | .imul, [], .inl b :: .inl a :: S => inI (a * b) ∧ k L (vi (a * b) :: S) M
  | .iadd, _ :: _, .inl b :: .inl a :: S => k L (vi (w3 (a + b)) :: S) M
  | .isub, _ :: _, .inl b :: .inl a :: S => k L (vi (w3 (a - b)) :: S) M
  | .imul, _ :: _, .inl b :: .inl a :: S => k L (vi (w3 (a * b)) :: S) M
  | .idiv, _, .inl b :: .inl a :: S => 0 ≤ a ∧ 0 < b ∧ k L (vi (a / b) :: S) M
  | .irem, _, .inl b :: .inl a :: S => 0 ≤ a ∧ 0 < b ∧ k L (vi (a % b) :: S) M
  | .ineg, _, .inl a :: S => inI (-a) ∧ k L (vi (-a) :: S) M
  | .iand, _, .inl b :: .inl a :: S => k L (vi (bAnd a b) :: S) M
  | .ior, _, .inl b :: .inl a :: S => k L (vi (bOr a b) :: S) M
  | .ixor, _, .inl b :: .inl a :: S => k L (vi (bXor a b) :: S) M
  | .ishl, _, .inl b :: .inl a :: S => k L (vi (bShl a b) :: S) M
  | .ishr, _, .inl b :: .inl a :: S => k L (vi (bShr a b) :: S) M
  | .iushr, _, .inl b :: .inl a :: S => k L (vi (bUshr a b) :: S) M
  | .ladd, _, .inr (.inl b) :: .inr (.inl a) :: S => inL (a + b) ∧ k L (vl (a + b) :: S) M
  | .lsub, _, .inr (.inl b) :: .inr (.inl a) :: S => inL (a - b) ∧ k L (vl (a - b) :: S) M
  | .lmul, _, .inr (.inl b) :: .inr (.inl a) :: S => inL (a * b) ∧ k L (vl (a * b) :: S) M
  | .ldiv, _, .inr (.inl b) :: .inr (.inl a) :: S => 0 ≤ a ∧ 0 < b ∧ k L (vl (a / b) :: S) M
  | .lrem, _, .inr (.inl b) :: .inr (.inl a) :: S => 0 ≤ a ∧ 0 < b ∧ k L (vl (a % b) :: S) M
  | .land, _, .inr (.inl b) :: .inr (.inl a) :: S => k L (vl (lAnd a b) :: S) M
  | .lor, _, .inr (.inl b) :: .inr (.inl a) :: S => k L (vl (lOr a b) :: S) M
  | .lshl, _, .inl b :: .inr (.inl a) :: S => k L (vl (lShl a b) :: S) M
  | .lshr, _, .inl b :: .inr (.inl a) :: S => k L (vl (lShr a b) :: S) M
  | .i2l, _, .inl a :: S => k L (vl a :: S) M
  | .l2i, [], .inr (.inl a) :: S => inI a ∧ k L (vi a :: S) M
  | .l2i, _ :: _, .inr (.inl a) :: S => k L (vi (w3 a) :: S) M
  | .i2b, _, .inl a :: S => k L (vi (w8 a) :: S) M
  | .i2s, _, .inl a :: S => k L (vi (w16 a) :: S) M
  | .i2c, _, .inl a :: S => k L (vi (wc a) :: S) M
  | .lcmp, _, .inr (.inl b) :: .inr (.inl a) :: S => k L (vi (cmp3 a b) :: S) M
  | .ifCond c _, t :: _, .inl a :: S => (cnd c a 0 → J t L S M) ∧ (¬ cnd c a 0 → k L S M)
  | .if_icmp c _, t :: _, .inl b :: .inl a :: S => (cnd c a b → J t L S M) ∧ (¬ cnd c a b → k L S M)
  | .ifnull _, t :: _, .inr (.inr a) :: S => (a = -1 → J t L S M) ∧ (¬ a = -1 → k L S M)
  | .goto _, t :: _, S => J t L S M
  | .nop, t :: _, S => J t L S M
  | .dup, _, .inl a :: S => k L (vi a :: vi a :: S) M
  | .dup, _, .inr (.inr a) :: S => k L (vr a :: vr a :: S) M
  | .dup2, _, .inl b :: .inr (.inr a) :: S => k L (vi b :: vr a :: vi b :: vr a :: S) M
  | .pop, _, .inl _ :: S => k L S M
  | .pop, _, .inr (.inr _) :: S => k L S M
  | .getfield _, 0 :: ci :: _ :: 0 :: _, .inr (.inr z) :: S => isO z ci ∧ k L (vi (M z x.2.2.1) :: S) M
  | .getfield _, 0 :: ci :: _ :: 1 :: _, .inr (.inr z) :: S => isO z ci ∧ k L (vl (M z x.2.2.1) :: S) M
  | .getfield _, 0 :: ci :: _ :: 2 :: _, .inr (.inr z) :: S => isO z ci ∧ k L (vr (M z x.2.2.1) :: S) M
  | .getfield _, 1 :: ci :: _, .inr (.inr z) :: S => isO z ci ∧ k L (vr (z + x.2.2.1) :: S) M
  | .getfield _, 2 :: 0 :: _, .inr (.inr z) :: S => (-13 ≤ z ∧ z ≤ -10) ∧ k L (vr (z - 10) :: S) M
  | .getfield _, 2 :: 1 :: _, .inr (.inr z) :: S => (-13 ≤ z ∧ z ≤ -10) ∧ k L (vi 0 :: S) M
  | .putfield _, ci :: _ :: 0 :: _, .inl a :: .inr (.inr z) :: S => isO z ci ∧ k L S (up M z x.2.2.1 a)
  | .putfield _, ci :: _ :: 1 :: _, .inr (.inl a) :: .inr (.inr z) :: S => isO z ci ∧ k L S (up M z x.2.2.1 a)
  | .putfield _, ci :: _ :: 2 :: _, .inr (.inr a) :: .inr (.inr z) :: S => isO z ci ∧ k L S (up M z x.2.2.1 a)
  | .putfield _, ci :: _ :: 3 :: _, .inl a :: .inr (.inr z) :: S => isO z ci ∧ (a = 0 ∨ a = 1) ∧ k L S (up M z x.2.2.1 a)
  | .getstatic _, 0 :: _, S => k L (vr (-2) :: S) M
  | .getstatic _, 1 :: _, S => k L (vi 1 :: S) M
  | .getstatic _, 2 :: _, S => k L (vr G.2.2.2.2.2 :: S) M
  | .iaload, 0 :: _, .inl i :: .inr (.inr z) :: S => arT z .int ∧ (0 ≤ i ∧ i < alen z) ∧ k L (vi (M z i) :: S) M
  | .iaload, 1 :: _, .inl i :: .inr (.inr z) :: S => z = -2 ∧ (0 ≤ i ∧ i < 6) ∧ k L (vi (romA (-2) i) :: S) M
  | .iaload, 2 :: _, .inl i :: .inr (.inr z) :: S => z = -50 ∧ (0 ≤ i ∧ i < G.2.2.2.2.1.2.1) ∧ k L (vi (G.2.2.2.2.1.2.2 i.toNat).toInt :: S) M
  | .iastore, _, .inl a :: .inl i :: .inr (.inr z) :: S => arT z .int ∧ (0 ≤ i ∧ i < alen z) ∧ k L S (up M z i a)
  | .laload, _, .inl i :: .inr (.inr z) :: S => arT z .long ∧ (0 ≤ i ∧ i < alen z) ∧ k L (vl (M z i) :: S) M
  | .lastore, _, .inr (.inl a) :: .inl i :: .inr (.inr z) :: S => arT z .long ∧ (0 ≤ i ∧ i < alen z) ∧ k L S (up M z i a)
  | .baload, 0 :: _, .inl i :: .inr (.inr z) :: S => arT z .byte ∧ (0 ≤ i ∧ i < alen z) ∧ k L (vi (M z i) :: S) M
  | .baload, 3 :: _, .inl i :: .inr (.inr z) :: S => arT z .boolean ∧ (0 ≤ i ∧ i < alen z) ∧ k L (vi (M z i) :: S) M
  | .baload, 1 :: _, .inl i :: .inr (.inr z) :: S => (-23 ≤ z ∧ z ≤ -20) ∧ (0 ≤ i ∧ i < romN z) ∧ k L (vi (romA z i) :: S) M
  | .bastore, 0 :: _, .inl a :: .inl i :: .inr (.inr z) :: S => arT z .byte ∧ (0 ≤ i ∧ i < alen z) ∧ (-128 ≤ a ∧ a ≤ 127) ∧ k L S (up M z i a)
  | .bastore, 3 :: _, .inl a :: .inl i :: .inr (.inr z) :: S => arT z .boolean ∧ (0 ≤ i ∧ i < alen z) ∧ (a = 0 ∨ a = 1) ∧ k L S (up M z i a)
  | .aaload, ci :: _, .inl i :: .inr (.inr z) :: S => arR z ci ∧ (0 ≤ i ∧ i < alen z) ∧ k L (vr (M z i) :: S) M
  | .aastore, ci :: _, .inr (.inr a) :: .inl i :: .inr (.inr z) :: S => arR z ci ∧ isO a ci ∧ (0 ≤ i ∧ i < alen z) ∧ k L S (up M z i a)
  | .arraylength, 0 :: _, .inr (.inr z) :: S => isArr z ∧ k L (vi (alen z) :: S) M
  | .arraylength, 1 :: _, .inr (.inr z) :: S => (-23 ≤ z ∧ z ≤ -20) ∧ k L (vi (romN z) :: S) M
  | .arraylength, 2 :: _, .inr (.inr z) :: S => z = -50 ∧ k L (vi G.2.2.2.2.1.2.1 :: S) M
  | .invokevirtual _, 0 :: ci :: _ :: _ :: _ :: _ :: _ :: ts, S => kM x.2.2.2 fun mi => kV (spl ts [] S) fun as z S' => isO z ci ∧ s4 S' ∧ 1 ≤ d ∧ MS G (d - 1) mi (vr z :: as) M (cK k L S')
  | .invokevirtual _, 1 :: _ :: _ :: _ :: _ :: _ :: _ :: ts, S => kM x.2.2.2 fun mi => kV (spl ts [] S) fun as z S' => (-13 ≤ z ∧ z ≤ -10) ∧ s4 S' ∧ 1 ≤ d ∧ MS G (d - 1) mi (vr z :: as) M (cK k L S')
  | .invokestatic _, 2 :: _, [.inl n, .inl dp, .inr (.inr b), .inl sp, .inr (.inr a)] => 1 ≤ d ∧ arT a .int ∧ arT b .int ∧ (0 ≤ sp ∧ 0 ≤ dp ∧ 0 ≤ n ∧ sp + n ≤ alen a ∧ dp + n ≤ alen b) ∧ k L [] (cpy M a sp b dp n)
  | .invokestatic _, 3 :: _, .inl b :: .inl a :: S => s4 S ∧ 1 ≤ d ∧ k L (vi (if a < b then b else a) :: S) M
  | .invokestatic _, 4 :: _, .inl b :: .inl a :: S => s4 S ∧ 1 ≤ d ∧ k L (vi (if b < a then b else a) :: S) M
  | .invokestatic _, 0 :: _ :: _ :: _ :: _ :: ts, S => kM x.2.2.2 fun mi => kS (spl ts [] S) fun as S' => s4 S' ∧ 1 ≤ d ∧ MS G (d - 1) mi as M (cK k L S')
  | .invokestatic _, 1 :: _ :: _ :: _ :: _ :: ts, S => kM x.2.2.2 fun mi => kS (spl ts [] S) fun as S' => s4 S' ∧ 1 ≤ d ∧ MS G (d - 1) mi as M (cK k L S')
  | .ireturn, 0 :: _, [.inl a] => Q (some (vi a)) M
  | .ireturn, 1 :: _, [.inl a] => (a = 0 ∨ a = 1) ∧ Q (some (vi a)) M
  | .ireturn, 2 :: _, [.inl a] => (0 ≤ a ∧ a ≤ 65535) ∧ Q (some (vi a)) M
  | .ireturn, 3 :: _, [.inl a] => (-128 ≤ a ∧ a ≤ 127) ∧ Q (some (vi a)) M
  | .lreturn, _, [.inr (.inl a)] => Q (some (vl a)) M
  | .return_, _, [] => Q none M
  | .tableswitch _ _ _ _, t :: ts, .inl a :: S => ((a < x.2.2.1 ∨ x.2.2.1 + ts.length ≤ a) → J t L S M) ∧ swT J L S M a x.2.2.1 ts
  | _, _, _ => False
-/
def wq_iconst (G : AG) (d : Nat) (Q : Option AV → AM → Prop) (J : Nat → PK) (n : Int) (ex : List Nat) (v : Int) (o : Option MI) (L : AL) (S : List AV) (M : AM) (k : PK) : Prop :=
  match ex, S with
  | _, S => k L (vi n :: S) M
def wq_bipush (G : AG) (d : Nat) (Q : Option AV → AM → Prop) (J : Nat → PK) (n : Int) (ex : List Nat) (v : Int) (o : Option MI) (L : AL) (S : List AV) (M : AM) (k : PK) : Prop :=
  match ex, S with
  | _, S => k L (vi n :: S) M
def wq_sipush (G : AG) (d : Nat) (Q : Option AV → AM → Prop) (J : Nat → PK) (n : Int) (ex : List Nat) (v : Int) (o : Option MI) (L : AL) (S : List AV) (M : AM) (k : PK) : Prop :=
  match ex, S with
  | _, S => k L (vi n :: S) M
def wq_lconst (G : AG) (d : Nat) (Q : Option AV → AM → Prop) (J : Nat → PK) (ex : List Nat) (v : Int) (o : Option MI) (L : AL) (S : List AV) (M : AM) (k : PK) : Prop :=
  match ex, S with
  | _, S => k L (vl v :: S) M
def wq_ldc (G : AG) (d : Nat) (Q : Option AV → AM → Prop) (J : Nat → PK) (ex : List Nat) (v : Int) (o : Option MI) (L : AL) (S : List AV) (M : AM) (k : PK) : Prop :=
  match ex, S with
  | 0 :: _, S => k L (vi v :: S) M
  | 1 :: _, S => k L (vr v :: S) M
  | _, _ => False
def wq_ldc_w (G : AG) (d : Nat) (Q : Option AV → AM → Prop) (J : Nat → PK) (ex : List Nat) (v : Int) (o : Option MI) (L : AL) (S : List AV) (M : AM) (k : PK) : Prop :=
  match ex, S with
  | _, S => k L (vi v :: S) M
def wq_ldc2_w (G : AG) (d : Nat) (Q : Option AV → AM → Prop) (J : Nat → PK) (ex : List Nat) (v : Int) (o : Option MI) (L : AL) (S : List AV) (M : AM) (k : PK) : Prop :=
  match ex, S with
  | _, S => k L (vl v :: S) M
def wq_iload (G : AG) (d : Nat) (Q : Option AV → AM → Prop) (J : Nat → PK) (i : Nat) (ex : List Nat) (v : Int) (o : Option MI) (L : AL) (S : List AV) (M : AM) (k : PK) : Prop :=
  match ex, S with
  | _, S => kI (getL L i) fun a => k L (vi a :: S) M
def wq_iload_n (G : AG) (d : Nat) (Q : Option AV → AM → Prop) (J : Nat → PK) (ex : List Nat) (v : Int) (o : Option MI) (L : AL) (S : List AV) (M : AM) (k : PK) : Prop :=
  match ex, S with
  | i :: _, S => kI (getL L i) fun a => k L (vi a :: S) M
  | _, _ => False
def wq_lload (G : AG) (d : Nat) (Q : Option AV → AM → Prop) (J : Nat → PK) (i : Nat) (ex : List Nat) (v : Int) (o : Option MI) (L : AL) (S : List AV) (M : AM) (k : PK) : Prop :=
  match ex, S with
  | _, S => kJ (getL L i) fun a => k L (vl a :: S) M
def wq_lload_n (G : AG) (d : Nat) (Q : Option AV → AM → Prop) (J : Nat → PK) (ex : List Nat) (v : Int) (o : Option MI) (L : AL) (S : List AV) (M : AM) (k : PK) : Prop :=
  match ex, S with
  | i :: _, S => kJ (getL L i) fun a => k L (vl a :: S) M
  | _, _ => False
def wq_aload (G : AG) (d : Nat) (Q : Option AV → AM → Prop) (J : Nat → PK) (i : Nat) (ex : List Nat) (v : Int) (o : Option MI) (L : AL) (S : List AV) (M : AM) (k : PK) : Prop :=
  match ex, S with
  | _, S => kR (getL L i) fun a => k L (vr a :: S) M
def wq_aload_n (G : AG) (d : Nat) (Q : Option AV → AM → Prop) (J : Nat → PK) (ex : List Nat) (v : Int) (o : Option MI) (L : AL) (S : List AV) (M : AM) (k : PK) : Prop :=
  match ex, S with
  | i :: _, S => kR (getL L i) fun a => k L (vr a :: S) M
  | _, _ => False
def wq_istore (G : AG) (d : Nat) (Q : Option AV → AM → Prop) (J : Nat → PK) (i : Nat) (ex : List Nat) (v : Int) (o : Option MI) (L : AL) (S : List AV) (M : AM) (k : PK) : Prop :=
  match ex, S with
  | _, .inl a :: S => k (st1 L i (vi a)) S M
  | _, _ => False
def wq_istore_n (G : AG) (d : Nat) (Q : Option AV → AM → Prop) (J : Nat → PK) (ex : List Nat) (v : Int) (o : Option MI) (L : AL) (S : List AV) (M : AM) (k : PK) : Prop :=
  match ex, S with
  | i :: _, .inl a :: S => k (st1 L i (vi a)) S M
  | _, _ => False
def wq_lstore (G : AG) (d : Nat) (Q : Option AV → AM → Prop) (J : Nat → PK) (i : Nat) (ex : List Nat) (v : Int) (o : Option MI) (L : AL) (S : List AV) (M : AM) (k : PK) : Prop :=
  match ex, S with
  | _, .inr (.inl a) :: S => k (st2 L i (vl a)) S M
  | _, _ => False
def wq_lstore_n (G : AG) (d : Nat) (Q : Option AV → AM → Prop) (J : Nat → PK) (ex : List Nat) (v : Int) (o : Option MI) (L : AL) (S : List AV) (M : AM) (k : PK) : Prop :=
  match ex, S with
  | i :: _, .inr (.inl a) :: S => k (st2 L i (vl a)) S M
  | _, _ => False
def wq_astore (G : AG) (d : Nat) (Q : Option AV → AM → Prop) (J : Nat → PK) (i : Nat) (ex : List Nat) (v : Int) (o : Option MI) (L : AL) (S : List AV) (M : AM) (k : PK) : Prop :=
  match ex, S with
  | _, .inr (.inr a) :: S => ¬ a = -1 ∧ k (st1 L i (vr a)) S M
  | _, _ => False
def wq_astore_n (G : AG) (d : Nat) (Q : Option AV → AM → Prop) (J : Nat → PK) (ex : List Nat) (v : Int) (o : Option MI) (L : AL) (S : List AV) (M : AM) (k : PK) : Prop :=
  match ex, S with
  | i :: _, .inr (.inr a) :: S => ¬ a = -1 ∧ k (st1 L i (vr a)) S M
  | _, _ => False
def wq_iinc (G : AG) (d : Nat) (Q : Option AV → AM → Prop) (J : Nat → PK) (i : Nat) (n : Int) (ex : List Nat) (v : Int) (o : Option MI) (L : AL) (S : List AV) (M : AM) (k : PK) : Prop :=
  match ex, S with
  | _, S => kI (getL L i) fun a => inI (a + n) ∧ k (st1 L i (vi (a + n))) S M
def wq_iadd (G : AG) (d : Nat) (Q : Option AV → AM → Prop) (J : Nat → PK) (ex : List Nat) (v : Int) (o : Option MI) (L : AL) (S : List AV) (M : AM) (k : PK) : Prop :=
  match ex, S with
  | [], .inl b :: .inl a :: S => inI (a + b) ∧ k L (vi (a + b) :: S) M
  | _ :: _, .inl b :: .inl a :: S => k L (vi (w3 (a + b)) :: S) M
  | _, _ => False
def wq_isub (G : AG) (d : Nat) (Q : Option AV → AM → Prop) (J : Nat → PK) (ex : List Nat) (v : Int) (o : Option MI) (L : AL) (S : List AV) (M : AM) (k : PK) : Prop :=
  match ex, S with
  | [], .inl b :: .inl a :: S => inI (a - b) ∧ k L (vi (a - b) :: S) M
  | _ :: _, .inl b :: .inl a :: S => k L (vi (w3 (a - b)) :: S) M
  | _, _ => False
def wq_imul (G : AG) (d : Nat) (Q : Option AV → AM → Prop) (J : Nat → PK) (ex : List Nat) (v : Int) (o : Option MI) (L : AL) (S : List AV) (M : AM) (k : PK) : Prop :=
  match ex, S with
  | [], .inl b :: .inl a :: S => inI (a * b) ∧ k L (vi (a * b) :: S) M
  | _ :: _, .inl b :: .inl a :: S => k L (vi (w3 (a * b)) :: S) M
  | _, _ => False
def wq_idiv (G : AG) (d : Nat) (Q : Option AV → AM → Prop) (J : Nat → PK) (ex : List Nat) (v : Int) (o : Option MI) (L : AL) (S : List AV) (M : AM) (k : PK) : Prop :=
  match ex, S with
  | _, .inl b :: .inl a :: S => 0 ≤ a ∧ 0 < b ∧ k L (vi (a / b) :: S) M
  | _, _ => False
def wq_irem (G : AG) (d : Nat) (Q : Option AV → AM → Prop) (J : Nat → PK) (ex : List Nat) (v : Int) (o : Option MI) (L : AL) (S : List AV) (M : AM) (k : PK) : Prop :=
  match ex, S with
  | _, .inl b :: .inl a :: S => 0 ≤ a ∧ 0 < b ∧ k L (vi (a % b) :: S) M
  | _, _ => False
def wq_ineg (G : AG) (d : Nat) (Q : Option AV → AM → Prop) (J : Nat → PK) (ex : List Nat) (v : Int) (o : Option MI) (L : AL) (S : List AV) (M : AM) (k : PK) : Prop :=
  match ex, S with
  | _, .inl a :: S => inI (-a) ∧ k L (vi (-a) :: S) M
  | _, _ => False
def wq_iand (G : AG) (d : Nat) (Q : Option AV → AM → Prop) (J : Nat → PK) (ex : List Nat) (v : Int) (o : Option MI) (L : AL) (S : List AV) (M : AM) (k : PK) : Prop :=
  match ex, S with
  | _, .inl b :: .inl a :: S => k L (vi (bAnd a b) :: S) M
  | _, _ => False
def wq_ior (G : AG) (d : Nat) (Q : Option AV → AM → Prop) (J : Nat → PK) (ex : List Nat) (v : Int) (o : Option MI) (L : AL) (S : List AV) (M : AM) (k : PK) : Prop :=
  match ex, S with
  | _, .inl b :: .inl a :: S => k L (vi (bOr a b) :: S) M
  | _, _ => False
def wq_ixor (G : AG) (d : Nat) (Q : Option AV → AM → Prop) (J : Nat → PK) (ex : List Nat) (v : Int) (o : Option MI) (L : AL) (S : List AV) (M : AM) (k : PK) : Prop :=
  match ex, S with
  | _, .inl b :: .inl a :: S => k L (vi (bXor a b) :: S) M
  | _, _ => False
def wq_ishl (G : AG) (d : Nat) (Q : Option AV → AM → Prop) (J : Nat → PK) (ex : List Nat) (v : Int) (o : Option MI) (L : AL) (S : List AV) (M : AM) (k : PK) : Prop :=
  match ex, S with
  | _, .inl b :: .inl a :: S => k L (vi (bShl a b) :: S) M
  | _, _ => False
def wq_ishr (G : AG) (d : Nat) (Q : Option AV → AM → Prop) (J : Nat → PK) (ex : List Nat) (v : Int) (o : Option MI) (L : AL) (S : List AV) (M : AM) (k : PK) : Prop :=
  match ex, S with
  | _, .inl b :: .inl a :: S => k L (vi (bShr a b) :: S) M
  | _, _ => False
def wq_iushr (G : AG) (d : Nat) (Q : Option AV → AM → Prop) (J : Nat → PK) (ex : List Nat) (v : Int) (o : Option MI) (L : AL) (S : List AV) (M : AM) (k : PK) : Prop :=
  match ex, S with
  | _, .inl b :: .inl a :: S => k L (vi (bUshr a b) :: S) M
  | _, _ => False
def wq_ladd (G : AG) (d : Nat) (Q : Option AV → AM → Prop) (J : Nat → PK) (ex : List Nat) (v : Int) (o : Option MI) (L : AL) (S : List AV) (M : AM) (k : PK) : Prop :=
  match ex, S with
  | _, .inr (.inl b) :: .inr (.inl a) :: S => inL (a + b) ∧ k L (vl (a + b) :: S) M
  | _, _ => False
def wq_lsub (G : AG) (d : Nat) (Q : Option AV → AM → Prop) (J : Nat → PK) (ex : List Nat) (v : Int) (o : Option MI) (L : AL) (S : List AV) (M : AM) (k : PK) : Prop :=
  match ex, S with
  | _, .inr (.inl b) :: .inr (.inl a) :: S => inL (a - b) ∧ k L (vl (a - b) :: S) M
  | _, _ => False
def wq_lmul (G : AG) (d : Nat) (Q : Option AV → AM → Prop) (J : Nat → PK) (ex : List Nat) (v : Int) (o : Option MI) (L : AL) (S : List AV) (M : AM) (k : PK) : Prop :=
  match ex, S with
  | _, .inr (.inl b) :: .inr (.inl a) :: S => inL (a * b) ∧ k L (vl (a * b) :: S) M
  | _, _ => False
def wq_ldiv (G : AG) (d : Nat) (Q : Option AV → AM → Prop) (J : Nat → PK) (ex : List Nat) (v : Int) (o : Option MI) (L : AL) (S : List AV) (M : AM) (k : PK) : Prop :=
  match ex, S with
  | _, .inr (.inl b) :: .inr (.inl a) :: S => 0 ≤ a ∧ 0 < b ∧ k L (vl (a / b) :: S) M
  | _, _ => False
def wq_lrem (G : AG) (d : Nat) (Q : Option AV → AM → Prop) (J : Nat → PK) (ex : List Nat) (v : Int) (o : Option MI) (L : AL) (S : List AV) (M : AM) (k : PK) : Prop :=
  match ex, S with
  | _, .inr (.inl b) :: .inr (.inl a) :: S => 0 ≤ a ∧ 0 < b ∧ k L (vl (a % b) :: S) M
  | _, _ => False
def wq_land (G : AG) (d : Nat) (Q : Option AV → AM → Prop) (J : Nat → PK) (ex : List Nat) (v : Int) (o : Option MI) (L : AL) (S : List AV) (M : AM) (k : PK) : Prop :=
  match ex, S with
  | _, .inr (.inl b) :: .inr (.inl a) :: S => k L (vl (lAnd a b) :: S) M
  | _, _ => False
def wq_lor (G : AG) (d : Nat) (Q : Option AV → AM → Prop) (J : Nat → PK) (ex : List Nat) (v : Int) (o : Option MI) (L : AL) (S : List AV) (M : AM) (k : PK) : Prop :=
  match ex, S with
  | _, .inr (.inl b) :: .inr (.inl a) :: S => k L (vl (lOr a b) :: S) M
  | _, _ => False
def wq_lshl (G : AG) (d : Nat) (Q : Option AV → AM → Prop) (J : Nat → PK) (ex : List Nat) (v : Int) (o : Option MI) (L : AL) (S : List AV) (M : AM) (k : PK) : Prop :=
  match ex, S with
  | _, .inl b :: .inr (.inl a) :: S => k L (vl (lShl a b) :: S) M
  | _, _ => False
def wq_lshr (G : AG) (d : Nat) (Q : Option AV → AM → Prop) (J : Nat → PK) (ex : List Nat) (v : Int) (o : Option MI) (L : AL) (S : List AV) (M : AM) (k : PK) : Prop :=
  match ex, S with
  | _, .inl b :: .inr (.inl a) :: S => k L (vl (lShr a b) :: S) M
  | _, _ => False
def wq_i2l (G : AG) (d : Nat) (Q : Option AV → AM → Prop) (J : Nat → PK) (ex : List Nat) (v : Int) (o : Option MI) (L : AL) (S : List AV) (M : AM) (k : PK) : Prop :=
  match ex, S with
  | _, .inl a :: S => k L (vl a :: S) M
  | _, _ => False
def wq_l2i (G : AG) (d : Nat) (Q : Option AV → AM → Prop) (J : Nat → PK) (ex : List Nat) (v : Int) (o : Option MI) (L : AL) (S : List AV) (M : AM) (k : PK) : Prop :=
  match ex, S with
  | [], .inr (.inl a) :: S => inI a ∧ k L (vi a :: S) M
  | _ :: _, .inr (.inl a) :: S => k L (vi (w3 a) :: S) M
  | _, _ => False
def wq_i2b (G : AG) (d : Nat) (Q : Option AV → AM → Prop) (J : Nat → PK) (ex : List Nat) (v : Int) (o : Option MI) (L : AL) (S : List AV) (M : AM) (k : PK) : Prop :=
  match ex, S with
  | _, .inl a :: S => k L (vi (w8 a) :: S) M
  | _, _ => False
def wq_i2s (G : AG) (d : Nat) (Q : Option AV → AM → Prop) (J : Nat → PK) (ex : List Nat) (v : Int) (o : Option MI) (L : AL) (S : List AV) (M : AM) (k : PK) : Prop :=
  match ex, S with
  | _, .inl a :: S => k L (vi (w16 a) :: S) M
  | _, _ => False
def wq_i2c (G : AG) (d : Nat) (Q : Option AV → AM → Prop) (J : Nat → PK) (ex : List Nat) (v : Int) (o : Option MI) (L : AL) (S : List AV) (M : AM) (k : PK) : Prop :=
  match ex, S with
  | _, .inl a :: S => k L (vi (wc a) :: S) M
  | _, _ => False
def wq_lcmp (G : AG) (d : Nat) (Q : Option AV → AM → Prop) (J : Nat → PK) (ex : List Nat) (v : Int) (o : Option MI) (L : AL) (S : List AV) (M : AM) (k : PK) : Prop :=
  match ex, S with
  | _, .inr (.inl b) :: .inr (.inl a) :: S => k L (vi (cmp3 a b) :: S) M
  | _, _ => False
def wq_ifCond (G : AG) (d : Nat) (Q : Option AV → AM → Prop) (J : Nat → PK) (c : ClassFile.Cond) (ex : List Nat) (v : Int) (o : Option MI) (L : AL) (S : List AV) (M : AM) (k : PK) : Prop :=
  match ex, S with
  | t :: _, .inl a :: S => (cnd c a 0 → J t L S M) ∧ (¬ cnd c a 0 → k L S M)
  | _, _ => False
def wq_if_icmp (G : AG) (d : Nat) (Q : Option AV → AM → Prop) (J : Nat → PK) (c : ClassFile.Cond) (ex : List Nat) (v : Int) (o : Option MI) (L : AL) (S : List AV) (M : AM) (k : PK) : Prop :=
  match ex, S with
  | t :: _, .inl b :: .inl a :: S => (cnd c a b → J t L S M) ∧ (¬ cnd c a b → k L S M)
  | _, _ => False
def wq_ifnull (G : AG) (d : Nat) (Q : Option AV → AM → Prop) (J : Nat → PK) (ex : List Nat) (v : Int) (o : Option MI) (L : AL) (S : List AV) (M : AM) (k : PK) : Prop :=
  match ex, S with
  | t :: _, .inr (.inr a) :: S => (a = -1 → J t L S M) ∧ (¬ a = -1 → k L S M)
  | _, _ => False
def wq_goto (G : AG) (d : Nat) (Q : Option AV → AM → Prop) (J : Nat → PK) (ex : List Nat) (v : Int) (o : Option MI) (L : AL) (S : List AV) (M : AM) (k : PK) : Prop :=
  match ex, S with
  | t :: _, S => J t L S M
  | _, _ => False
def wq_nop (G : AG) (d : Nat) (Q : Option AV → AM → Prop) (J : Nat → PK) (ex : List Nat) (v : Int) (o : Option MI) (L : AL) (S : List AV) (M : AM) (k : PK) : Prop :=
  match ex, S with
  | t :: _, S => J t L S M
  | _, _ => False
def wq_dup (G : AG) (d : Nat) (Q : Option AV → AM → Prop) (J : Nat → PK) (ex : List Nat) (v : Int) (o : Option MI) (L : AL) (S : List AV) (M : AM) (k : PK) : Prop :=
  match ex, S with
  | _, .inl a :: S => k L (vi a :: vi a :: S) M
  | _, .inr (.inr a) :: S => k L (vr a :: vr a :: S) M
  | _, _ => False
def wq_dup2 (G : AG) (d : Nat) (Q : Option AV → AM → Prop) (J : Nat → PK) (ex : List Nat) (v : Int) (o : Option MI) (L : AL) (S : List AV) (M : AM) (k : PK) : Prop :=
  match ex, S with
  | _, .inl b :: .inr (.inr a) :: S => k L (vi b :: vr a :: vi b :: vr a :: S) M
  | _, _ => False
def wq_pop (G : AG) (d : Nat) (Q : Option AV → AM → Prop) (J : Nat → PK) (ex : List Nat) (v : Int) (o : Option MI) (L : AL) (S : List AV) (M : AM) (k : PK) : Prop :=
  match ex, S with
  | _, .inl _ :: S => k L S M
  | _, .inr (.inr _) :: S => k L S M
  | _, _ => False
def wq_getfield (G : AG) (d : Nat) (Q : Option AV → AM → Prop) (J : Nat → PK) (ex : List Nat) (v : Int) (o : Option MI) (L : AL) (S : List AV) (M : AM) (k : PK) : Prop :=
  match ex, S with
  | 0 :: ci :: _ :: 0 :: _, .inr (.inr z) :: S => isO z ci ∧ k L (vi (M z v) :: S) M
  | 0 :: ci :: _ :: 1 :: _, .inr (.inr z) :: S => isO z ci ∧ k L (vl (M z v) :: S) M
  | 0 :: ci :: _ :: 2 :: _, .inr (.inr z) :: S => isO z ci ∧ k L (vr (M z v) :: S) M
  | 1 :: ci :: _, .inr (.inr z) :: S => isO z ci ∧ k L (vr (z + v) :: S) M
  | 2 :: 0 :: _, .inr (.inr z) :: S => (-13 ≤ z ∧ z ≤ -10) ∧ k L (vr (z - 10) :: S) M
  | 2 :: 1 :: _, .inr (.inr z) :: S => (-13 ≤ z ∧ z ≤ -10) ∧ k L (vi 0 :: S) M
  | _, _ => False
def wq_putfield (G : AG) (d : Nat) (Q : Option AV → AM → Prop) (J : Nat → PK) (ex : List Nat) (v : Int) (o : Option MI) (L : AL) (S : List AV) (M : AM) (k : PK) : Prop :=
  match ex, S with
  | ci :: _ :: 0 :: _, .inl a :: .inr (.inr z) :: S => isO z ci ∧ k L S (up M z v a)
  | ci :: _ :: 1 :: _, .inr (.inl a) :: .inr (.inr z) :: S => isO z ci ∧ k L S (up M z v a)
  | ci :: _ :: 2 :: _, .inr (.inr a) :: .inr (.inr z) :: S => isO z ci ∧ k L S (up M z v a)
  | ci :: _ :: 3 :: _, .inl a :: .inr (.inr z) :: S => isO z ci ∧ (a = 0 ∨ a = 1) ∧ k L S (up M z v a)
  | _, _ => False
def wq_getstatic (G : AG) (d : Nat) (Q : Option AV → AM → Prop) (J : Nat → PK) (ex : List Nat) (v : Int) (o : Option MI) (L : AL) (S : List AV) (M : AM) (k : PK) : Prop :=
  match ex, S with
  | 0 :: _, S => k L (vr (-2) :: S) M
  | 1 :: _, S => k L (vi 1 :: S) M
  | 2 :: _, S => k L (vr G.2.2.2.2.2 :: S) M
  | _, _ => False
def wq_iaload (G : AG) (d : Nat) (Q : Option AV → AM → Prop) (J : Nat → PK) (ex : List Nat) (v : Int) (o : Option MI) (L : AL) (S : List AV) (M : AM) (k : PK) : Prop :=
  match ex, S with
  | 0 :: _, .inl i :: .inr (.inr z) :: S => arT z .int ∧ (0 ≤ i ∧ i < alen z) ∧ k L (vi (M z i) :: S) M
  | 1 :: _, .inl i :: .inr (.inr z) :: S => z = -2 ∧ (0 ≤ i ∧ i < 6) ∧ k L (vi (romA (-2) i) :: S) M
  | 2 :: _, .inl i :: .inr (.inr z) :: S => z = -50 ∧ (0 ≤ i ∧ i < G.2.2.2.2.1.2.1) ∧ k L (vi (G.2.2.2.2.1.2.2 i.toNat).toInt :: S) M
  | _, _ => False
def wq_iastore (G : AG) (d : Nat) (Q : Option AV → AM → Prop) (J : Nat → PK) (ex : List Nat) (v : Int) (o : Option MI) (L : AL) (S : List AV) (M : AM) (k : PK) : Prop :=
  match ex, S with
  | _, .inl a :: .inl i :: .inr (.inr z) :: S => arT z .int ∧ (0 ≤ i ∧ i < alen z) ∧ k L S (up M z i a)
  | _, _ => False
def wq_laload (G : AG) (d : Nat) (Q : Option AV → AM → Prop) (J : Nat → PK) (ex : List Nat) (v : Int) (o : Option MI) (L : AL) (S : List AV) (M : AM) (k : PK) : Prop :=
  match ex, S with
  | _, .inl i :: .inr (.inr z) :: S => arT z .long ∧ (0 ≤ i ∧ i < alen z) ∧ k L (vl (M z i) :: S) M
  | _, _ => False
def wq_lastore (G : AG) (d : Nat) (Q : Option AV → AM → Prop) (J : Nat → PK) (ex : List Nat) (v : Int) (o : Option MI) (L : AL) (S : List AV) (M : AM) (k : PK) : Prop :=
  match ex, S with
  | _, .inr (.inl a) :: .inl i :: .inr (.inr z) :: S => arT z .long ∧ (0 ≤ i ∧ i < alen z) ∧ k L S (up M z i a)
  | _, _ => False
def wq_baload (G : AG) (d : Nat) (Q : Option AV → AM → Prop) (J : Nat → PK) (ex : List Nat) (v : Int) (o : Option MI) (L : AL) (S : List AV) (M : AM) (k : PK) : Prop :=
  match ex, S with
  | 0 :: _, .inl i :: .inr (.inr z) :: S => arT z .byte ∧ (0 ≤ i ∧ i < alen z) ∧ k L (vi (M z i) :: S) M
  | 3 :: _, .inl i :: .inr (.inr z) :: S => arT z .boolean ∧ (0 ≤ i ∧ i < alen z) ∧ k L (vi (M z i) :: S) M
  | 1 :: _, .inl i :: .inr (.inr z) :: S => (-23 ≤ z ∧ z ≤ -20) ∧ (0 ≤ i ∧ i < romN z) ∧ k L (vi (romA z i) :: S) M
  | _, _ => False
def wq_bastore (G : AG) (d : Nat) (Q : Option AV → AM → Prop) (J : Nat → PK) (ex : List Nat) (v : Int) (o : Option MI) (L : AL) (S : List AV) (M : AM) (k : PK) : Prop :=
  match ex, S with
  | 0 :: _, .inl a :: .inl i :: .inr (.inr z) :: S => arT z .byte ∧ (0 ≤ i ∧ i < alen z) ∧ (-128 ≤ a ∧ a ≤ 127) ∧ k L S (up M z i a)
  | 3 :: _, .inl a :: .inl i :: .inr (.inr z) :: S => arT z .boolean ∧ (0 ≤ i ∧ i < alen z) ∧ (a = 0 ∨ a = 1) ∧ k L S (up M z i a)
  | _, _ => False
def wq_aaload (G : AG) (d : Nat) (Q : Option AV → AM → Prop) (J : Nat → PK) (ex : List Nat) (v : Int) (o : Option MI) (L : AL) (S : List AV) (M : AM) (k : PK) : Prop :=
  match ex, S with
  | ci :: _, .inl i :: .inr (.inr z) :: S => arR z ci ∧ (0 ≤ i ∧ i < alen z) ∧ k L (vr (M z i) :: S) M
  | _, _ => False
def wq_aastore (G : AG) (d : Nat) (Q : Option AV → AM → Prop) (J : Nat → PK) (ex : List Nat) (v : Int) (o : Option MI) (L : AL) (S : List AV) (M : AM) (k : PK) : Prop :=
  match ex, S with
  | ci :: _, .inr (.inr a) :: .inl i :: .inr (.inr z) :: S => arR z ci ∧ isO a ci ∧ (0 ≤ i ∧ i < alen z) ∧ k L S (up M z i a)
  | _, _ => False
def wq_arraylength (G : AG) (d : Nat) (Q : Option AV → AM → Prop) (J : Nat → PK) (ex : List Nat) (v : Int) (o : Option MI) (L : AL) (S : List AV) (M : AM) (k : PK) : Prop :=
  match ex, S with
  | 0 :: _, .inr (.inr z) :: S => isArr z ∧ k L (vi (alen z) :: S) M
  | 1 :: _, .inr (.inr z) :: S => (-23 ≤ z ∧ z ≤ -20) ∧ k L (vi (romN z) :: S) M
  | 2 :: _, .inr (.inr z) :: S => z = -50 ∧ k L (vi G.2.2.2.2.1.2.1 :: S) M
  | _, _ => False
def wq_invokevirtual (G : AG) (d : Nat) (Q : Option AV → AM → Prop) (J : Nat → PK) (ex : List Nat) (v : Int) (o : Option MI) (L : AL) (S : List AV) (M : AM) (k : PK) : Prop :=
  match ex, S with
  | 0 :: ci :: _ :: _ :: _ :: _ :: _ :: ts, S => kM o fun mi => kV (spl ts [] S) fun as z S' => isO z ci ∧ s4 S' ∧ 1 ≤ d ∧ MS G (d - 1) mi (vr z :: as) M (cK k L S')
  | 1 :: _ :: _ :: _ :: _ :: _ :: _ :: ts, S => kM o fun mi => kV (spl ts [] S) fun as z S' => (-13 ≤ z ∧ z ≤ -10) ∧ s4 S' ∧ 1 ≤ d ∧ MS G (d - 1) mi (vr z :: as) M (cK k L S')
  | _, _ => False
def wq_invokestatic (G : AG) (d : Nat) (Q : Option AV → AM → Prop) (J : Nat → PK) (ex : List Nat) (v : Int) (o : Option MI) (L : AL) (S : List AV) (M : AM) (k : PK) : Prop :=
  match ex, S with
  | 2 :: _, [.inl n, .inl dp, .inr (.inr b), .inl sp, .inr (.inr a)] => 1 ≤ d ∧ arT a .int ∧ arT b .int ∧ (0 ≤ sp ∧ 0 ≤ dp ∧ 0 ≤ n ∧ sp + n ≤ alen a ∧ dp + n ≤ alen b) ∧ k L [] (cpy M a sp b dp n)
  | 3 :: _, .inl b :: .inl a :: S => s4 S ∧ 1 ≤ d ∧ k L (vi (if a < b then b else a) :: S) M
  | 4 :: _, .inl b :: .inl a :: S => s4 S ∧ 1 ≤ d ∧ k L (vi (if b < a then b else a) :: S) M
  | 0 :: _ :: _ :: _ :: _ :: ts, S => kM o fun mi => kS (spl ts [] S) fun as S' => s4 S' ∧ 1 ≤ d ∧ MS G (d - 1) mi as M (cK k L S')
  | 1 :: _ :: _ :: _ :: _ :: ts, S => kM o fun mi => kS (spl ts [] S) fun as S' => s4 S' ∧ 1 ≤ d ∧ MS G (d - 1) mi as M (cK k L S')
  | _, _ => False
def wq_ireturn (G : AG) (d : Nat) (Q : Option AV → AM → Prop) (J : Nat → PK) (ex : List Nat) (v : Int) (o : Option MI) (L : AL) (S : List AV) (M : AM) (k : PK) : Prop :=
  match ex, S with
  | 0 :: _, [.inl a] => Q (some (vi a)) M
  | 1 :: _, [.inl a] => (a = 0 ∨ a = 1) ∧ Q (some (vi a)) M
  | 2 :: _, [.inl a] => (0 ≤ a ∧ a ≤ 65535) ∧ Q (some (vi a)) M
  | 3 :: _, [.inl a] => (-128 ≤ a ∧ a ≤ 127) ∧ Q (some (vi a)) M
  | _, _ => False
def wq_lreturn (G : AG) (d : Nat) (Q : Option AV → AM → Prop) (J : Nat → PK) (ex : List Nat) (v : Int) (o : Option MI) (L : AL) (S : List AV) (M : AM) (k : PK) : Prop :=
  match ex, S with
  | _, [.inr (.inl a)] => Q (some (vl a)) M
  | _, _ => False
def wq_return_ (G : AG) (d : Nat) (Q : Option AV → AM → Prop) (J : Nat → PK) (ex : List Nat) (v : Int) (o : Option MI) (L : AL) (S : List AV) (M : AM) (k : PK) : Prop :=
  match ex, S with
  | _, [] => Q none M
  | _, _ => False
def wq_tableswitch (G : AG) (d : Nat) (Q : Option AV → AM → Prop) (J : Nat → PK) (ex : List Nat) (v : Int) (o : Option MI) (L : AL) (S : List AV) (M : AM) (k : PK) : Prop :=
  match ex, S with
  | t :: ts, .inl a :: S => ((a < v ∨ v + ts.length ≤ a) → J t L S M) ∧ swT J L S M a v ts
  | _, _ => False
def wpI (G : AG) (d : Nat) (Q : Option AV → AM → Prop) (J : Nat → PK) (x : XI) (L : AL) (S : List AV) (M : AM) (k : PK) : Prop :=
  match x.1 with
  | .iconst n => wq_iconst G d Q J n x.2.1 x.2.2.1 x.2.2.2 L S M k
  | .bipush n => wq_bipush G d Q J n x.2.1 x.2.2.1 x.2.2.2 L S M k
  | .sipush n => wq_sipush G d Q J n x.2.1 x.2.2.1 x.2.2.2 L S M k
  | .lconst _ => wq_lconst G d Q J x.2.1 x.2.2.1 x.2.2.2 L S M k
  | .ldc _ => wq_ldc G d Q J x.2.1 x.2.2.1 x.2.2.2 L S M k
  | .ldc_w _ => wq_ldc_w G d Q J x.2.1 x.2.2.1 x.2.2.2 L S M k
  | .ldc2_w _ => wq_ldc2_w G d Q J x.2.1 x.2.2.1 x.2.2.2 L S M k
  | .iload i => wq_iload G d Q J i x.2.1 x.2.2.1 x.2.2.2 L S M k
  | .iload_n _ => wq_iload_n G d Q J x.2.1 x.2.2.1 x.2.2.2 L S M k
  | .lload i => wq_lload G d Q J i x.2.1 x.2.2.1 x.2.2.2 L S M k
  | .lload_n _ => wq_lload_n G d Q J x.2.1 x.2.2.1 x.2.2.2 L S M k
  | .aload i => wq_aload G d Q J i x.2.1 x.2.2.1 x.2.2.2 L S M k
  | .aload_n _ => wq_aload_n G d Q J x.2.1 x.2.2.1 x.2.2.2 L S M k
  | .istore i => wq_istore G d Q J i x.2.1 x.2.2.1 x.2.2.2 L S M k
  | .istore_n _ => wq_istore_n G d Q J x.2.1 x.2.2.1 x.2.2.2 L S M k
  | .lstore i => wq_lstore G d Q J i x.2.1 x.2.2.1 x.2.2.2 L S M k
  | .lstore_n _ => wq_lstore_n G d Q J x.2.1 x.2.2.1 x.2.2.2 L S M k
  | .astore i => wq_astore G d Q J i x.2.1 x.2.2.1 x.2.2.2 L S M k
  | .astore_n _ => wq_astore_n G d Q J x.2.1 x.2.2.1 x.2.2.2 L S M k
  | .iinc i n => wq_iinc G d Q J i n x.2.1 x.2.2.1 x.2.2.2 L S M k
  | .iadd => wq_iadd G d Q J x.2.1 x.2.2.1 x.2.2.2 L S M k
  | .isub => wq_isub G d Q J x.2.1 x.2.2.1 x.2.2.2 L S M k
  | .imul => wq_imul G d Q J x.2.1 x.2.2.1 x.2.2.2 L S M k
  | .idiv => wq_idiv G d Q J x.2.1 x.2.2.1 x.2.2.2 L S M k
  | .irem => wq_irem G d Q J x.2.1 x.2.2.1 x.2.2.2 L S M k
  | .ineg => wq_ineg G d Q J x.2.1 x.2.2.1 x.2.2.2 L S M k
  | .iand => wq_iand G d Q J x.2.1 x.2.2.1 x.2.2.2 L S M k
  | .ior => wq_ior G d Q J x.2.1 x.2.2.1 x.2.2.2 L S M k
  | .ixor => wq_ixor G d Q J x.2.1 x.2.2.1 x.2.2.2 L S M k
  | .ishl => wq_ishl G d Q J x.2.1 x.2.2.1 x.2.2.2 L S M k
  | .ishr => wq_ishr G d Q J x.2.1 x.2.2.1 x.2.2.2 L S M k
  | .iushr => wq_iushr G d Q J x.2.1 x.2.2.1 x.2.2.2 L S M k
  | .ladd => wq_ladd G d Q J x.2.1 x.2.2.1 x.2.2.2 L S M k
  | .lsub => wq_lsub G d Q J x.2.1 x.2.2.1 x.2.2.2 L S M k
  | .lmul => wq_lmul G d Q J x.2.1 x.2.2.1 x.2.2.2 L S M k
  | .ldiv => wq_ldiv G d Q J x.2.1 x.2.2.1 x.2.2.2 L S M k
  | .lrem => wq_lrem G d Q J x.2.1 x.2.2.1 x.2.2.2 L S M k
  | .land => wq_land G d Q J x.2.1 x.2.2.1 x.2.2.2 L S M k
  | .lor => wq_lor G d Q J x.2.1 x.2.2.1 x.2.2.2 L S M k
  | .lshl => wq_lshl G d Q J x.2.1 x.2.2.1 x.2.2.2 L S M k
  | .lshr => wq_lshr G d Q J x.2.1 x.2.2.1 x.2.2.2 L S M k
  | .i2l => wq_i2l G d Q J x.2.1 x.2.2.1 x.2.2.2 L S M k
  | .l2i => wq_l2i G d Q J x.2.1 x.2.2.1 x.2.2.2 L S M k
  | .i2b => wq_i2b G d Q J x.2.1 x.2.2.1 x.2.2.2 L S M k
  | .i2s => wq_i2s G d Q J x.2.1 x.2.2.1 x.2.2.2 L S M k
  | .i2c => wq_i2c G d Q J x.2.1 x.2.2.1 x.2.2.2 L S M k
  | .lcmp => wq_lcmp G d Q J x.2.1 x.2.2.1 x.2.2.2 L S M k
  | .ifCond c _ => wq_ifCond G d Q J c x.2.1 x.2.2.1 x.2.2.2 L S M k
  | .if_icmp c _ => wq_if_icmp G d Q J c x.2.1 x.2.2.1 x.2.2.2 L S M k
  | .ifnull _ => wq_ifnull G d Q J x.2.1 x.2.2.1 x.2.2.2 L S M k
  | .goto _ => wq_goto G d Q J x.2.1 x.2.2.1 x.2.2.2 L S M k
  | .nop => wq_nop G d Q J x.2.1 x.2.2.1 x.2.2.2 L S M k
  | .dup => wq_dup G d Q J x.2.1 x.2.2.1 x.2.2.2 L S M k
  | .dup2 => wq_dup2 G d Q J x.2.1 x.2.2.1 x.2.2.2 L S M k
  | .pop => wq_pop G d Q J x.2.1 x.2.2.1 x.2.2.2 L S M k
  | .getfield _ => wq_getfield G d Q J x.2.1 x.2.2.1 x.2.2.2 L S M k
  | .putfield _ => wq_putfield G d Q J x.2.1 x.2.2.1 x.2.2.2 L S M k
  | .getstatic _ => wq_getstatic G d Q J x.2.1 x.2.2.1 x.2.2.2 L S M k
  | .iaload => wq_iaload G d Q J x.2.1 x.2.2.1 x.2.2.2 L S M k
  | .iastore => wq_iastore G d Q J x.2.1 x.2.2.1 x.2.2.2 L S M k
  | .laload => wq_laload G d Q J x.2.1 x.2.2.1 x.2.2.2 L S M k
  | .lastore => wq_lastore G d Q J x.2.1 x.2.2.1 x.2.2.2 L S M k
  | .baload => wq_baload G d Q J x.2.1 x.2.2.1 x.2.2.2 L S M k
  | .bastore => wq_bastore G d Q J x.2.1 x.2.2.1 x.2.2.2 L S M k
  | .aaload => wq_aaload G d Q J x.2.1 x.2.2.1 x.2.2.2 L S M k
  | .aastore => wq_aastore G d Q J x.2.1 x.2.2.1 x.2.2.2 L S M k
  | .arraylength => wq_arraylength G d Q J x.2.1 x.2.2.1 x.2.2.2 L S M k
  | .invokevirtual _ => wq_invokevirtual G d Q J x.2.1 x.2.2.1 x.2.2.2 L S M k
  | .invokestatic _ => wq_invokestatic G d Q J x.2.1 x.2.2.1 x.2.2.2 L S M k
  | .ireturn => wq_ireturn G d Q J x.2.1 x.2.2.1 x.2.2.2 L S M k
  | .lreturn => wq_lreturn G d Q J x.2.1 x.2.2.1 x.2.2.2 L S M k
  | .return_ => wq_return_ G d Q J x.2.1 x.2.2.1 x.2.2.2 L S M k
  | .tableswitch _ _ _ _ => wq_tableswitch G d Q J x.2.1 x.2.2.1 x.2.2.2 L S M k
  | _ => False
def wpB (G : AG) (d : Nat) (Q : Option AV → AM → Prop) (J : Nat → PK) : List XI → PK
  | [] => fun _ _ _ => False
  | x :: xs => fun L S M => wpI G d Q J x L S M (wpB G d Q J xs)
def blk : List (Nat × List XI) → Nat → List XI
  | [], _ => []
  | (q, xs) :: r, pc => if q = pc then xs else blk r pc
def lkI : List (Nat × PK) → Nat → Option PK
  | [], _ => none
  | (q, I) :: r, pc => if q = pc then some I else lkI r pc
def jm (o : Option PK) (f : PK) : PK := match o with
  | some I => I
  | none => f
def jJ (cut : List (Nat × PK)) (f : Nat → PK) (t : Nat) : PK := jm (lkI cut t) (f t)
def wpR (G : AG) (d : Nat) (Q : Option AV → AM → Prop) (cd : List (Nat × List XI)) (cut : List (Nat × PK)) : Nat → Nat → PK
  | 0 => fun _ _ _ _ => False
  | n + 1 => fun pc L S M => wpB G d Q (jJ cut (wpR G d Q cd cut n)) (blk cd pc) L S M
