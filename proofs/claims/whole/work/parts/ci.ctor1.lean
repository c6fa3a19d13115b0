section XE
variable {G : AG} {d : Nat} {M : AM} {z : Nat}
def mi_La_init : MI := (⟨"HandsHeld$Law", "<init>", "()V"⟩, prog_5_method_1_code, 1, none)
theorem nm_La : nmOK mi_La_init 0 := ⟨by decide +kernel, by decide +kernel, by decide +kernel⟩
def mi_Mo_init : MI := (⟨"HandsHeld$Moment", "<init>", "()V"⟩, prog_6_method_1_code, 1, none)
theorem nm_Mo : nmOK mi_Mo_init 0 := ⟨by decide +kernel, by decide +kernel, by decide +kernel⟩
def mi_Tr_init : MI := (⟨"HandsHeld$Tray", "<init>", "()V"⟩, prog_10_method_1_code, 1, none)
theorem nm_Tr : nmOK mi_Tr_init 0 := ⟨by decide +kernel, by decide +kernel, by decide +kernel⟩
def mi_Fr_init : MI := (⟨"HandsHeld$Front", "<init>", "()V"⟩, prog_3_method_1_code, 1, none)
theorem nm_Fr : nmOK mi_Fr_init 0 := ⟨by decide +kernel, by decide +kernel, by decide +kernel⟩
def mi_Du_init : MI := (⟨"HandsHeld$Duel", "<init>", "()V"⟩, prog_2_method_1_code, 1, none)
theorem nm_Du : nmOK mi_Du_init 0 := ⟨by decide +kernel, by decide +kernel, by decide +kernel⟩
def mi_Wk_init : MI := (⟨"HandsHeld$Walk", "<init>", "()V"⟩, prog_11_method_1_code, 1, none)
theorem nm_Wk : nmOK mi_Wk_init 0 := ⟨by decide +kernel, by decide +kernel, by decide +kernel⟩
def mi_Wa_init : MI := (⟨"HandsHeld$Watch", "<init>", "()V"⟩, prog_12_method_1_code, 1, none)
theorem nm_Wa : nmOK mi_Wa_init 0 := ⟨by decide +kernel, by decide +kernel, by decide +kernel⟩
def mi_St_init : MI := (⟨"HandsHeld$Steps", "<init>", "()V"⟩, prog_9_method_1_code, 1, none)
theorem nm_St : nmOK mi_St_init 0 := ⟨by decide +kernel, by decide +kernel, by decide +kernel⟩
def mi_Rd_init : MI := (⟨"HandsHeld$Reader", "<init>", "()V"⟩, prog_7_method_1_code, 1, none)
theorem nm_Rd : nmOK mi_Rd_init 0 := ⟨by decide +kernel, by decide +kernel, by decide +kernel⟩
def mi_Ha_init : MI := (⟨"HandsHeld$Hall", "<init>", "()V"⟩, prog_4_method_1_code, 1, none)
theorem nm_Ha : nmOK mi_Ha_init 0 := ⟨by decide +kernel, by decide +kernel, by decide +kernel⟩
def mi_Ro_init : MI := (⟨"HandsHeld$Rows", "<init>", "()V"⟩, prog_8_method_1_code, 1, none)
theorem nm_Ro : nmOK mi_Ro_init 0 := ⟨by decide +kernel, by decide +kernel, by decide +kernel⟩
def mi_H_init : MI := (⟨"HandsHeld", "<init>", "()V"⟩, prog_1_method_1_code, 2, none)
theorem nm_H : nmOK mi_H_init 0 := ⟨by decide +kernel, by decide +kernel, by decide +kernel⟩
def mi_Md_init : MI := (⟨"HandsHeldModel", "<init>", "()V"⟩, prog_14_method_3_code, 1, none)
theorem nm_Md : nmOK mi_Md_init 0 := ⟨by decide +kernel, by decide +kernel, by decide +kernel⟩
def mLa (z : Nat) (M : AM) : AM := (up M ((z : Nat) : Int) ((0 : Nat) : Int) (((z + 1) : Nat) : Int))
set_option maxRecDepth 20000 in
theorem i_La (hd : 1 ≤ d) (h0 : shL[z]? = some (.inr 3)) (h1 : shL[z + 1]? = some (.inl (.int, 900))) : CI G d mi_La_init 1 900 z (z + 1) M (z + 2) (mLa z M) := by
  refine CI.of (L := [some (vr ((z : Nat) : Int))]) (tb_in (i := 1085) (by decide +kernel)) rfl rfl (by decide) rfl ?_
  refine cw_aload (k := 0) (i := 0) (pc := 0) (by decide +kernel) rfl rfl ?_
  refine cw_obj (ix := 3) (a := z) (pc := 1) (by decide +kernel) (tb_in (i := 1086) (by decide +kernel)) (tb_in (i := 1029) (by decide +kernel)) (tb_in (i := 1030) (by decide +kernel)) trivial (by omega) ?_
  refine cw_aload (k := 0) (i := 0) (pc := 4) (by decide +kernel) rfl rfl ?_
  refine cw_sipush (x := ((900 : Nat) : Int)) (pc := 5) (by decide +kernel) (by omega) (by omega) ?_
  refine cw_newa (aty := .int) (ty := .int) (N := 900) (n := (z + 1)) (cl := 0) (sl := 0) (pc := 8) (by decide +kernel) rfl (Or.inl rfl) h1 (tb_in (i := 1074) (by decide +kernel)) (by omega) (by omega) (by omega) ?_
  refine cw_putf (ix := 9) (ci := 3) (j := 0) (z := z) (x := (((z + 1) : Nat) : Int)) (q := (RC3, TC3, 2)) (pc := 10) (by decide +kernel) h0 (by omega) rfl (by decide) (tb_in (i := 1087) (by decide +kernel)) rfl rfl rfl trivial ?_
  exact cw_ret (pc := 13) (cl := 1) (sl := 900) (n := z + 2) (by decide +kernel)
def mMo (z : Nat) (M : AM) : AM := (up M ((z : Nat) : Int) ((3 : Nat) : Int) (((z + 1) : Nat) : Int))
set_option maxRecDepth 20000 in
theorem i_Mo (hd : 1 ≤ d) (h0 : shL[z]? = some (.inr 4)) (h1 : shL[z + 1]? = some (.inl (.int, 5))) : CI G d mi_Mo_init 1 5 z (z + 1) M (z + 2) (mMo z M) := by
  refine CI.of (L := [some (vr ((z : Nat) : Int))]) (tb_in (i := 1157) (by decide +kernel)) rfl rfl (by decide) rfl ?_
  refine cw_aload (k := 0) (i := 0) (pc := 0) (by decide +kernel) rfl rfl ?_
  refine cw_obj (ix := 3) (a := z) (pc := 1) (by decide +kernel) (tb_in (i := 1158) (by decide +kernel)) (tb_in (i := 1029) (by decide +kernel)) (tb_in (i := 1030) (by decide +kernel)) trivial (by omega) ?_
  refine cw_aload (k := 0) (i := 0) (pc := 4) (by decide +kernel) rfl rfl ?_
  refine cw_iconst (x := ((5 : Nat) : Int)) (pc := 5) (by decide +kernel) ⟨by omega, by omega⟩ ?_
  refine cw_newa (aty := .int) (ty := .int) (N := 5) (n := (z + 1)) (cl := 0) (sl := 0) (pc := 6) (by decide +kernel) rfl (Or.inl rfl) h1 (tb_in (i := 1074) (by decide +kernel)) (by omega) (by omega) (by omega) ?_
  refine cw_putf (ix := 9) (ci := 4) (j := 3) (z := z) (x := (((z + 1) : Nat) : Int)) (q := (RC4, TC4, 4)) (pc := 8) (by decide +kernel) h0 (by omega) rfl (by decide) (tb_in (i := 1170) (by decide +kernel)) rfl rfl rfl trivial ?_
  exact cw_ret (pc := 11) (cl := 1) (sl := 5) (n := z + 2) (by decide +kernel)
def mTr (z : Nat) (M : AM) : AM := (up (up M ((z : Nat) : Int) ((0 : Nat) : Int) (-1)) ((z : Nat) : Int) ((2 : Nat) : Int) (((z + 1) : Nat) : Int))
set_option maxRecDepth 20000 in
theorem i_Tr (hd : 1 ≤ d) (h0 : shL[z]? = some (.inr 11)) (h1 : shL[z + 1]? = some (.inl (.long, 40))) : CI G d mi_Tr_init 1 40 z (z + 1) M (z + 2) (mTr z M) := by
  refine CI.of (L := [some (vr ((z : Nat) : Int))]) (tb_in (i := 2149) (by decide +kernel)) rfl rfl (by decide) rfl ?_
  refine cw_aload (k := 0) (i := 0) (pc := 0) (by decide +kernel) rfl rfl ?_
  refine cw_obj (ix := 3) (a := z) (pc := 1) (by decide +kernel) (tb_in (i := 2150) (by decide +kernel)) (tb_in (i := 1029) (by decide +kernel)) (tb_in (i := 1030) (by decide +kernel)) trivial (by omega) ?_
  refine cw_aload (k := 0) (i := 0) (pc := 4) (by decide +kernel) rfl rfl ?_
  refine cw_iconst (x := (-1)) (pc := 5) (by decide +kernel) ⟨by omega, by omega⟩ ?_
  refine cw_putn (ix := 9) (ci := 11) (j := 0) (z := z) (x := (-1)) (q := (RC11, TC11, 3)) (pc := 6) (by decide +kernel) h0 (by omega) rfl (by decide) (tb_in (i := 2151) (by decide +kernel)) rfl ⟨by omega, by omega⟩ ?_
  refine cw_aload (k := 0) (i := 0) (pc := 9) (by decide +kernel) rfl rfl ?_
  refine cw_bipush (x := ((40 : Nat) : Int)) (pc := 10) (by decide +kernel) (by omega) (by omega) ?_
  refine cw_newa (aty := .long) (ty := .long) (N := 40) (n := (z + 1)) (cl := 0) (sl := 0) (pc := 12) (by decide +kernel) rfl (Or.inr (Or.inl rfl)) h1 (tb_in (i := 2128) (by decide +kernel)) (by omega) (by omega) (by omega) ?_
  refine cw_putf (ix := 15) (ci := 11) (j := 2) (z := z) (x := (((z + 1) : Nat) : Int)) (q := (RC11, TC11, 3)) (pc := 14) (by decide +kernel) h0 (by omega) rfl (by decide) (tb_in (i := 2156) (by decide +kernel)) rfl rfl rfl trivial ?_
  exact cw_ret (pc := 17) (cl := 1) (sl := 40) (n := z + 2) (by decide +kernel)
def mFr (z : Nat) (M : AM) : AM := (up (up (up M ((z : Nat) : Int) ((0 : Nat) : Int) (((z + 1) : Nat) : Int)) ((z : Nat) : Int) ((2 : Nat) : Int) (((z + 2) : Nat) : Int)) ((z : Nat) : Int) ((3 : Nat) : Int) (((z + 3) : Nat) : Int))
set_option maxRecDepth 20000 in
theorem i_Fr (hd : 1 ≤ d) (h0 : shL[z]? = some (.inr 10)) (h1 : shL[z + 1]? = some (.inl (.int, 3125))) (h2 : shL[z + 2]? = some (.inl (.long, 3125))) (h3 : shL[z + 3]? = some (.inl (.int, 3125))) : CI G d mi_Fr_init 3 9375 z (z + 1) M (z + 4) (mFr z M) := by
  refine CI.of (L := [some (vr ((z : Nat) : Int))]) (tb_in (i := 2109) (by decide +kernel)) rfl rfl (by decide) rfl ?_
  refine cw_aload (k := 0) (i := 0) (pc := 0) (by decide +kernel) rfl rfl ?_
  refine cw_obj (ix := 3) (a := z) (pc := 1) (by decide +kernel) (tb_in (i := 2110) (by decide +kernel)) (tb_in (i := 1029) (by decide +kernel)) (tb_in (i := 1030) (by decide +kernel)) trivial (by omega) ?_
  refine cw_aload (k := 0) (i := 0) (pc := 4) (by decide +kernel) rfl rfl ?_
  refine cw_sipush (x := ((3125 : Nat) : Int)) (pc := 5) (by decide +kernel) (by omega) (by omega) ?_
  refine cw_newa (aty := .int) (ty := .int) (N := 3125) (n := (z + 1)) (cl := 0) (sl := 0) (pc := 8) (by decide +kernel) rfl (Or.inl rfl) h1 (tb_in (i := 1074) (by decide +kernel)) (by omega) (by omega) (by omega) ?_
  refine cw_putf (ix := 9) (ci := 10) (j := 0) (z := z) (x := (((z + 1) : Nat) : Int)) (q := (RC10, TC10, 4)) (pc := 10) (by decide +kernel) h0 (by omega) rfl (by decide) (tb_in (i := 2111) (by decide +kernel)) rfl rfl rfl trivial ?_
  refine cw_aload (k := 0) (i := 0) (pc := 13) (by decide +kernel) rfl rfl ?_
  refine cw_sipush (x := ((3125 : Nat) : Int)) (pc := 14) (by decide +kernel) (by omega) (by omega) ?_
  refine cw_newa (aty := .long) (ty := .long) (N := 3125) (n := (z + 2)) (cl := 1) (sl := 3125) (pc := 17) (by decide +kernel) rfl (Or.inr (Or.inl rfl)) h2 (tb_in (i := 2128) (by decide +kernel)) (by omega) (by omega) (by omega) ?_
  refine cw_putf (ix := 15) (ci := 10) (j := 2) (z := z) (x := (((z + 2) : Nat) : Int)) (q := (RC10, TC10, 4)) (pc := 19) (by decide +kernel) h0 (by omega) rfl (by decide) (tb_in (i := 2115) (by decide +kernel)) rfl rfl rfl trivial ?_
  refine cw_aload (k := 0) (i := 0) (pc := 22) (by decide +kernel) rfl rfl ?_
  refine cw_sipush (x := ((3125 : Nat) : Int)) (pc := 23) (by decide +kernel) (by omega) (by omega) ?_
  refine cw_newa (aty := .int) (ty := .int) (N := 3125) (n := (z + 3)) (cl := 2) (sl := 6250) (pc := 26) (by decide +kernel) rfl (Or.inl rfl) h3 (tb_in (i := 1074) (by decide +kernel)) (by omega) (by omega) (by omega) ?_
  refine cw_putf (ix := 19) (ci := 10) (j := 3) (z := z) (x := (((z + 3) : Nat) : Int)) (q := (RC10, TC10, 4)) (pc := 28) (by decide +kernel) h0 (by omega) rfl (by decide) (tb_in (i := 2117) (by decide +kernel)) rfl rfl rfl trivial ?_
  exact cw_ret (pc := 31) (cl := 3) (sl := 9375) (n := z + 4) (by decide +kernel)
def mDu (z : Nat) (M : AM) : AM := (up (up M ((z : Nat) : Int) ((0 : Nat) : Int) (((z + 1) : Nat) : Int)) ((z : Nat) : Int) ((1 : Nat) : Int) (((z + 2) : Nat) : Int))
set_option maxRecDepth 20000 in
theorem i_Du (hd : 1 ≤ d) (h0 : shL[z]? = some (.inr 8)) (h1 : shL[z + 1]? = some (.inl (.int, 3125))) (h2 : shL[z + 2]? = some (.inl (.int, 3125))) : CI G d mi_Du_init 2 6250 z (z + 1) M (z + 3) (mDu z M) := by
  refine CI.of (L := [some (vr ((z : Nat) : Int))]) (tb_in (i := 2084) (by decide +kernel)) rfl rfl (by decide) rfl ?_
  refine cw_aload (k := 0) (i := 0) (pc := 0) (by decide +kernel) rfl rfl ?_
  refine cw_obj (ix := 3) (a := z) (pc := 1) (by decide +kernel) (tb_in (i := 2085) (by decide +kernel)) (tb_in (i := 1029) (by decide +kernel)) (tb_in (i := 1030) (by decide +kernel)) trivial (by omega) ?_
  refine cw_aload (k := 0) (i := 0) (pc := 4) (by decide +kernel) rfl rfl ?_
  refine cw_sipush (x := ((3125 : Nat) : Int)) (pc := 5) (by decide +kernel) (by omega) (by omega) ?_
  refine cw_newa (aty := .int) (ty := .int) (N := 3125) (n := (z + 1)) (cl := 0) (sl := 0) (pc := 8) (by decide +kernel) rfl (Or.inl rfl) h1 (tb_in (i := 1074) (by decide +kernel)) (by omega) (by omega) (by omega) ?_
  refine cw_putf (ix := 9) (ci := 8) (j := 0) (z := z) (x := (((z + 1) : Nat) : Int)) (q := (RC8, TC8, 4)) (pc := 10) (by decide +kernel) h0 (by omega) rfl (by decide) (tb_in (i := 2086) (by decide +kernel)) rfl rfl rfl trivial ?_
  refine cw_aload (k := 0) (i := 0) (pc := 13) (by decide +kernel) rfl rfl ?_
  refine cw_sipush (x := ((3125 : Nat) : Int)) (pc := 14) (by decide +kernel) (by omega) (by omega) ?_
  refine cw_newa (aty := .int) (ty := .int) (N := 3125) (n := (z + 2)) (cl := 1) (sl := 3125) (pc := 17) (by decide +kernel) rfl (Or.inl rfl) h2 (tb_in (i := 1074) (by decide +kernel)) (by omega) (by omega) (by omega) ?_
  refine cw_putf (ix := 15) (ci := 8) (j := 1) (z := z) (x := (((z + 2) : Nat) : Int)) (q := (RC8, TC8, 4)) (pc := 19) (by decide +kernel) h0 (by omega) rfl (by decide) (tb_in (i := 2087) (by decide +kernel)) rfl rfl rfl trivial ?_
  exact cw_ret (pc := 22) (cl := 2) (sl := 6250) (n := z + 3) (by decide +kernel)
def mWk (z : Nat) (M : AM) : AM := (up (up (up M ((z : Nat) : Int) ((0 : Nat) : Int) (((z + 1) : Nat) : Int)) ((z : Nat) : Int) ((2 : Nat) : Int) (((z + 2) : Nat) : Int)) ((z : Nat) : Int) ((3 : Nat) : Int) (((z + 3) : Nat) : Int))
set_option maxRecDepth 20000 in
theorem i_Wk (hd : 1 ≤ d) (h0 : shL[z]? = some (.inr 7)) (h1 : shL[z + 1]? = some (.inl (.int, 3125))) (h2 : shL[z + 2]? = some (.inl (.int, 3125))) (h3 : shL[z + 3]? = some (.inl (.int, 3125))) : CI G d mi_Wk_init 3 9375 z (z + 1) M (z + 4) (mWk z M) := by
  refine CI.of (L := [some (vr ((z : Nat) : Int))]) (tb_in (i := 2059) (by decide +kernel)) rfl rfl (by decide) rfl ?_
  refine cw_aload (k := 0) (i := 0) (pc := 0) (by decide +kernel) rfl rfl ?_
  refine cw_obj (ix := 3) (a := z) (pc := 1) (by decide +kernel) (tb_in (i := 2060) (by decide +kernel)) (tb_in (i := 1029) (by decide +kernel)) (tb_in (i := 1030) (by decide +kernel)) trivial (by omega) ?_
  refine cw_aload (k := 0) (i := 0) (pc := 4) (by decide +kernel) rfl rfl ?_
  refine cw_sipush (x := ((3125 : Nat) : Int)) (pc := 5) (by decide +kernel) (by omega) (by omega) ?_
  refine cw_newa (aty := .int) (ty := .int) (N := 3125) (n := (z + 1)) (cl := 0) (sl := 0) (pc := 8) (by decide +kernel) rfl (Or.inl rfl) h1 (tb_in (i := 1074) (by decide +kernel)) (by omega) (by omega) (by omega) ?_
  refine cw_putf (ix := 9) (ci := 7) (j := 0) (z := z) (x := (((z + 1) : Nat) : Int)) (q := (RC7, TC7, 5)) (pc := 10) (by decide +kernel) h0 (by omega) rfl (by decide) (tb_in (i := 2061) (by decide +kernel)) rfl rfl rfl trivial ?_
  refine cw_aload (k := 0) (i := 0) (pc := 13) (by decide +kernel) rfl rfl ?_
  refine cw_sipush (x := ((3125 : Nat) : Int)) (pc := 14) (by decide +kernel) (by omega) (by omega) ?_
  refine cw_newa (aty := .int) (ty := .int) (N := 3125) (n := (z + 2)) (cl := 1) (sl := 3125) (pc := 17) (by decide +kernel) rfl (Or.inl rfl) h2 (tb_in (i := 1074) (by decide +kernel)) (by omega) (by omega) (by omega) ?_
  refine cw_putf (ix := 15) (ci := 7) (j := 2) (z := z) (x := (((z + 2) : Nat) : Int)) (q := (RC7, TC7, 5)) (pc := 19) (by decide +kernel) h0 (by omega) rfl (by decide) (tb_in (i := 2066) (by decide +kernel)) rfl rfl rfl trivial ?_
  refine cw_aload (k := 0) (i := 0) (pc := 22) (by decide +kernel) rfl rfl ?_
  refine cw_sipush (x := ((3125 : Nat) : Int)) (pc := 23) (by decide +kernel) (by omega) (by omega) ?_
  refine cw_newa (aty := .int) (ty := .int) (N := 3125) (n := (z + 3)) (cl := 2) (sl := 6250) (pc := 26) (by decide +kernel) rfl (Or.inl rfl) h3 (tb_in (i := 1074) (by decide +kernel)) (by omega) (by omega) (by omega) ?_
  refine cw_putf (ix := 18) (ci := 7) (j := 3) (z := z) (x := (((z + 3) : Nat) : Int)) (q := (RC7, TC7, 5)) (pc := 28) (by decide +kernel) h0 (by omega) rfl (by decide) (tb_in (i := 2067) (by decide +kernel)) rfl rfl rfl trivial ?_
  exact cw_ret (pc := 31) (cl := 3) (sl := 9375) (n := z + 4) (by decide +kernel)
def mWa (z : Nat) (M : AM) : AM := (up (up (up (up (up M ((z : Nat) : Int) ((0 : Nat) : Int) (((z + 1) : Nat) : Int)) ((z : Nat) : Int) ((1 : Nat) : Int) (((z + 2) : Nat) : Int)) ((z : Nat) : Int) ((2 : Nat) : Int) (((z + 3) : Nat) : Int)) ((z : Nat) : Int) ((3 : Nat) : Int) (((z + 4) : Nat) : Int)) ((z : Nat) : Int) ((4 : Nat) : Int) (((z + 5) : Nat) : Int))
set_option maxRecDepth 20000 in
theorem i_Wa (hd : 1 ≤ d) (h0 : shL[z]? = some (.inr 6)) (h1 : shL[z + 1]? = some (.inl (.int, 3125))) (h2 : shL[z + 2]? = some (.inl (.int, 3125))) (h3 : shL[z + 3]? = some (.inl (.int, 3125))) (h4 : shL[z + 4]? = some (.inl (.int, 3125))) (h5 : shL[z + 5]? = some (.inl (.int, 3125))) : CI G d mi_Wa_init 5 15625 z (z + 1) M (z + 6) (mWa z M) := by
  refine CI.of (L := [some (vr ((z : Nat) : Int))]) (tb_in (i := 2031) (by decide +kernel)) rfl rfl (by decide) rfl ?_
  refine cw_aload (k := 0) (i := 0) (pc := 0) (by decide +kernel) rfl rfl ?_
  refine cw_obj (ix := 3) (a := z) (pc := 1) (by decide +kernel) (tb_in (i := 2032) (by decide +kernel)) (tb_in (i := 1029) (by decide +kernel)) (tb_in (i := 1030) (by decide +kernel)) trivial (by omega) ?_
  refine cw_aload (k := 0) (i := 0) (pc := 4) (by decide +kernel) rfl rfl ?_
  refine cw_sipush (x := ((3125 : Nat) : Int)) (pc := 5) (by decide +kernel) (by omega) (by omega) ?_
  refine cw_newa (aty := .int) (ty := .int) (N := 3125) (n := (z + 1)) (cl := 0) (sl := 0) (pc := 8) (by decide +kernel) rfl (Or.inl rfl) h1 (tb_in (i := 1074) (by decide +kernel)) (by omega) (by omega) (by omega) ?_
  refine cw_putf (ix := 9) (ci := 6) (j := 0) (z := z) (x := (((z + 1) : Nat) : Int)) (q := (RC6, TC6, 7)) (pc := 10) (by decide +kernel) h0 (by omega) rfl (by decide) (tb_in (i := 2033) (by decide +kernel)) rfl rfl rfl trivial ?_
  refine cw_aload (k := 0) (i := 0) (pc := 13) (by decide +kernel) rfl rfl ?_
  refine cw_sipush (x := ((3125 : Nat) : Int)) (pc := 14) (by decide +kernel) (by omega) (by omega) ?_
  refine cw_newa (aty := .int) (ty := .int) (N := 3125) (n := (z + 2)) (cl := 1) (sl := 3125) (pc := 17) (by decide +kernel) rfl (Or.inl rfl) h2 (tb_in (i := 1074) (by decide +kernel)) (by omega) (by omega) (by omega) ?_
  refine cw_putf (ix := 15) (ci := 6) (j := 1) (z := z) (x := (((z + 2) : Nat) : Int)) (q := (RC6, TC6, 7)) (pc := 19) (by decide +kernel) h0 (by omega) rfl (by decide) (tb_in (i := 2034) (by decide +kernel)) rfl rfl rfl trivial ?_
  refine cw_aload (k := 0) (i := 0) (pc := 22) (by decide +kernel) rfl rfl ?_
  refine cw_sipush (x := ((3125 : Nat) : Int)) (pc := 23) (by decide +kernel) (by omega) (by omega) ?_
  refine cw_newa (aty := .int) (ty := .int) (N := 3125) (n := (z + 3)) (cl := 2) (sl := 6250) (pc := 26) (by decide +kernel) rfl (Or.inl rfl) h3 (tb_in (i := 1074) (by decide +kernel)) (by omega) (by omega) (by omega) ?_
  refine cw_putf (ix := 18) (ci := 6) (j := 2) (z := z) (x := (((z + 3) : Nat) : Int)) (q := (RC6, TC6, 7)) (pc := 28) (by decide +kernel) h0 (by omega) rfl (by decide) (tb_in (i := 2035) (by decide +kernel)) rfl rfl rfl trivial ?_
  refine cw_aload (k := 0) (i := 0) (pc := 31) (by decide +kernel) rfl rfl ?_
  refine cw_sipush (x := ((3125 : Nat) : Int)) (pc := 32) (by decide +kernel) (by omega) (by omega) ?_
  refine cw_newa (aty := .int) (ty := .int) (N := 3125) (n := (z + 4)) (cl := 3) (sl := 9375) (pc := 35) (by decide +kernel) rfl (Or.inl rfl) h4 (tb_in (i := 1074) (by decide +kernel)) (by omega) (by omega) (by omega) ?_
  refine cw_putf (ix := 21) (ci := 6) (j := 3) (z := z) (x := (((z + 4) : Nat) : Int)) (q := (RC6, TC6, 7)) (pc := 37) (by decide +kernel) h0 (by omega) rfl (by decide) (tb_in (i := 2036) (by decide +kernel)) rfl rfl rfl trivial ?_
  refine cw_aload (k := 0) (i := 0) (pc := 40) (by decide +kernel) rfl rfl ?_
  refine cw_sipush (x := ((3125 : Nat) : Int)) (pc := 41) (by decide +kernel) (by omega) (by omega) ?_
  refine cw_newa (aty := .int) (ty := .int) (N := 3125) (n := (z + 5)) (cl := 4) (sl := 12500) (pc := 44) (by decide +kernel) rfl (Or.inl rfl) h5 (tb_in (i := 1074) (by decide +kernel)) (by omega) (by omega) (by omega) ?_
  refine cw_putf (ix := 24) (ci := 6) (j := 4) (z := z) (x := (((z + 5) : Nat) : Int)) (q := (RC6, TC6, 7)) (pc := 46) (by decide +kernel) h0 (by omega) rfl (by decide) (tb_in (i := 2037) (by decide +kernel)) rfl rfl rfl trivial ?_
  exact cw_ret (pc := 49) (cl := 5) (sl := 15625) (n := z + 6) (by decide +kernel)
def mSt (z : Nat) (M : AM) : AM := (up (up (up (up (up (up (up (up (up (up M ((z : Nat) : Int) ((0 : Nat) : Int) ((1 : Nat) : Int)) ((z : Nat) : Int) ((5 : Nat) : Int) (((z + 1) : Nat) : Int)) ((z : Nat) : Int) ((12 : Nat) : Int) (((z + 2) : Nat) : Int)) ((z : Nat) : Int) ((13 : Nat) : Int) (((z + 3) : Nat) : Int)) ((z : Nat) : Int) ((14 : Nat) : Int) (((z + 4) : Nat) : Int)) ((z : Nat) : Int) ((15 : Nat) : Int) (((z + 5) : Nat) : Int)) ((z : Nat) : Int) ((16 : Nat) : Int) (((z + 6) : Nat) : Int)) ((z : Nat) : Int) ((17 : Nat) : Int) (((z + 7) : Nat) : Int)) ((z : Nat) : Int) ((18 : Nat) : Int) (((z + 8) : Nat) : Int)) ((z : Nat) : Int) ((19 : Nat) : Int) (((z + 9) : Nat) : Int))
set_option maxRecDepth 20000 in
theorem i_St (hd : 1 ≤ d) (h0 : shL[z]? = some (.inr 5)) (h1 : shL[z + 1]? = some (.inl (.int, 2))) (h2 : shL[z + 2]? = some (.inl (.int, 800))) (h3 : shL[z + 3]? = some (.inl (.boolean, 25))) (h4 : shL[z + 4]? = some (.inl (.int, 4000))) (h5 : shL[z + 5]? = some (.inl (.int, 800))) (h6 : shL[z + 6]? = some (.inl (.int, 125))) (h7 : shL[z + 7]? = some (.inl (.int, 125))) (h8 : shL[z + 8]? = some (.inl (.int, 25))) (h9 : shL[z + 9]? = some (.inl (.int, 25))) : CI G d mi_St_init 9 5927 z (z + 1) M (z + 10) (mSt z M) := by
  refine CI.of (L := [some (vr ((z : Nat) : Int))]) (tb_in (i := 1190) (by decide +kernel)) rfl rfl (by decide) rfl ?_
  refine cw_aload (k := 0) (i := 0) (pc := 0) (by decide +kernel) rfl rfl ?_
  refine cw_obj (ix := 3) (a := z) (pc := 1) (by decide +kernel) (tb_in (i := 1191) (by decide +kernel)) (tb_in (i := 1029) (by decide +kernel)) (tb_in (i := 1030) (by decide +kernel)) trivial (by omega) ?_
  refine cw_aload (k := 0) (i := 0) (pc := 4) (by decide +kernel) rfl rfl ?_
  refine cw_iconst (x := ((1 : Nat) : Int)) (pc := 5) (by decide +kernel) ⟨by omega, by omega⟩ ?_
  refine cw_putn (ix := 9) (ci := 5) (j := 0) (z := z) (x := ((1 : Nat) : Int)) (q := (RC5, TC5, 20)) (pc := 6) (by decide +kernel) h0 (by omega) rfl (by decide) (tb_in (i := 1192) (by decide +kernel)) rfl (Or.inr rfl) ?_
  refine cw_aload (k := 0) (i := 0) (pc := 9) (by decide +kernel) rfl rfl ?_
  refine cw_iconst (x := ((2 : Nat) : Int)) (pc := 10) (by decide +kernel) ⟨by omega, by omega⟩ ?_
  refine cw_newa (aty := .int) (ty := .int) (N := 2) (n := (z + 1)) (cl := 0) (sl := 0) (pc := 11) (by decide +kernel) rfl (Or.inl rfl) h1 (tb_in (i := 1074) (by decide +kernel)) (by omega) (by omega) (by omega) ?_
  refine cw_putf (ix := 15) (ci := 5) (j := 5) (z := z) (x := (((z + 1) : Nat) : Int)) (q := (RC5, TC5, 20)) (pc := 13) (by decide +kernel) h0 (by omega) rfl (by decide) (tb_in (i := 1204) (by decide +kernel)) rfl rfl rfl trivial ?_
  refine cw_aload (k := 0) (i := 0) (pc := 16) (by decide +kernel) rfl rfl ?_
  refine cw_sipush (x := ((800 : Nat) : Int)) (pc := 17) (by decide +kernel) (by omega) (by omega) ?_
  refine cw_newa (aty := .int) (ty := .int) (N := 800) (n := (z + 2)) (cl := 1) (sl := 2) (pc := 20) (by decide +kernel) rfl (Or.inl rfl) h2 (tb_in (i := 1074) (by decide +kernel)) (by omega) (by omega) (by omega) ?_
  refine cw_putf (ix := 19) (ci := 5) (j := 12) (z := z) (x := (((z + 2) : Nat) : Int)) (q := (RC5, TC5, 20)) (pc := 22) (by decide +kernel) h0 (by omega) rfl (by decide) (tb_in (i := 1217) (by decide +kernel)) rfl rfl rfl trivial ?_
  refine cw_aload (k := 0) (i := 0) (pc := 25) (by decide +kernel) rfl rfl ?_
  refine cw_bipush (x := ((25 : Nat) : Int)) (pc := 26) (by decide +kernel) (by omega) (by omega) ?_
  refine cw_newa (aty := .boolean) (ty := .boolean) (N := 25) (n := (z + 3)) (cl := 2) (sl := 802) (pc := 28) (by decide +kernel) rfl (Or.inr (Or.inr (Or.inr rfl))) h3 (tb_in (i := 2026) (by decide +kernel)) (by omega) (by omega) (by omega) ?_
  refine cw_putf (ix := 22) (ci := 5) (j := 13) (z := z) (x := (((z + 3) : Nat) : Int)) (q := (RC5, TC5, 20)) (pc := 30) (by decide +kernel) h0 (by omega) rfl (by decide) (tb_in (i := 1218) (by decide +kernel)) rfl rfl rfl trivial ?_
  refine cw_aload (k := 0) (i := 0) (pc := 33) (by decide +kernel) rfl rfl ?_
  refine cw_sipush (x := ((4000 : Nat) : Int)) (pc := 34) (by decide +kernel) (by omega) (by omega) ?_
  refine cw_newa (aty := .int) (ty := .int) (N := 4000) (n := (z + 4)) (cl := 3) (sl := 827) (pc := 37) (by decide +kernel) rfl (Or.inl rfl) h4 (tb_in (i := 1074) (by decide +kernel)) (by omega) (by omega) (by omega) ?_
  refine cw_putf (ix := 26) (ci := 5) (j := 14) (z := z) (x := (((z + 4) : Nat) : Int)) (q := (RC5, TC5, 20)) (pc := 39) (by decide +kernel) h0 (by omega) rfl (by decide) (tb_in (i := 1219) (by decide +kernel)) rfl rfl rfl trivial ?_
  refine cw_aload (k := 0) (i := 0) (pc := 42) (by decide +kernel) rfl rfl ?_
  refine cw_sipush (x := ((800 : Nat) : Int)) (pc := 43) (by decide +kernel) (by omega) (by omega) ?_
  refine cw_newa (aty := .int) (ty := .int) (N := 800) (n := (z + 5)) (cl := 4) (sl := 4827) (pc := 46) (by decide +kernel) rfl (Or.inl rfl) h5 (tb_in (i := 1074) (by decide +kernel)) (by omega) (by omega) (by omega) ?_
  refine cw_putf (ix := 29) (ci := 5) (j := 15) (z := z) (x := (((z + 5) : Nat) : Int)) (q := (RC5, TC5, 20)) (pc := 48) (by decide +kernel) h0 (by omega) rfl (by decide) (tb_in (i := 1220) (by decide +kernel)) rfl rfl rfl trivial ?_
  refine cw_aload (k := 0) (i := 0) (pc := 51) (by decide +kernel) rfl rfl ?_
  refine cw_bipush (x := ((125 : Nat) : Int)) (pc := 52) (by decide +kernel) (by omega) (by omega) ?_
  refine cw_newa (aty := .int) (ty := .int) (N := 125) (n := (z + 6)) (cl := 5) (sl := 5627) (pc := 54) (by decide +kernel) rfl (Or.inl rfl) h6 (tb_in (i := 1074) (by decide +kernel)) (by omega) (by omega) (by omega) ?_
  refine cw_putf (ix := 32) (ci := 5) (j := 16) (z := z) (x := (((z + 6) : Nat) : Int)) (q := (RC5, TC5, 20)) (pc := 56) (by decide +kernel) h0 (by omega) rfl (by decide) (tb_in (i := 1221) (by decide +kernel)) rfl rfl rfl trivial ?_
  refine cw_aload (k := 0) (i := 0) (pc := 59) (by decide +kernel) rfl rfl ?_
  refine cw_bipush (x := ((125 : Nat) : Int)) (pc := 60) (by decide +kernel) (by omega) (by omega) ?_
  refine cw_newa (aty := .int) (ty := .int) (N := 125) (n := (z + 7)) (cl := 6) (sl := 5752) (pc := 62) (by decide +kernel) rfl (Or.inl rfl) h7 (tb_in (i := 1074) (by decide +kernel)) (by omega) (by omega) (by omega) ?_
  refine cw_putf (ix := 35) (ci := 5) (j := 17) (z := z) (x := (((z + 7) : Nat) : Int)) (q := (RC5, TC5, 20)) (pc := 64) (by decide +kernel) h0 (by omega) rfl (by decide) (tb_in (i := 1222) (by decide +kernel)) rfl rfl rfl trivial ?_
  refine cw_aload (k := 0) (i := 0) (pc := 67) (by decide +kernel) rfl rfl ?_
  refine cw_bipush (x := ((25 : Nat) : Int)) (pc := 68) (by decide +kernel) (by omega) (by omega) ?_
  refine cw_newa (aty := .int) (ty := .int) (N := 25) (n := (z + 8)) (cl := 7) (sl := 5877) (pc := 70) (by decide +kernel) rfl (Or.inl rfl) h8 (tb_in (i := 1074) (by decide +kernel)) (by omega) (by omega) (by omega) ?_
  refine cw_putf (ix := 38) (ci := 5) (j := 18) (z := z) (x := (((z + 8) : Nat) : Int)) (q := (RC5, TC5, 20)) (pc := 72) (by decide +kernel) h0 (by omega) rfl (by decide) (tb_in (i := 1223) (by decide +kernel)) rfl rfl rfl trivial ?_
  refine cw_aload (k := 0) (i := 0) (pc := 75) (by decide +kernel) rfl rfl ?_
  refine cw_bipush (x := ((25 : Nat) : Int)) (pc := 76) (by decide +kernel) (by omega) (by omega) ?_
  refine cw_newa (aty := .int) (ty := .int) (N := 25) (n := (z + 9)) (cl := 8) (sl := 5902) (pc := 78) (by decide +kernel) rfl (Or.inl rfl) h9 (tb_in (i := 1074) (by decide +kernel)) (by omega) (by omega) (by omega) ?_
  refine cw_putf (ix := 41) (ci := 5) (j := 19) (z := z) (x := (((z + 9) : Nat) : Int)) (q := (RC5, TC5, 20)) (pc := 80) (by decide +kernel) h0 (by omega) rfl (by decide) (tb_in (i := 1224) (by decide +kernel)) rfl rfl rfl trivial ?_
  exact cw_ret (pc := 83) (cl := 9) (sl := 5927) (n := z + 10) (by decide +kernel)
def mRd (z : Nat) (M : AM) : AM := (up (up (up (up (up M ((z : Nat) : Int) ((1 : Nat) : Int) (-1)) ((z : Nat) : Int) ((2 : Nat) : Int) (((z + 1) : Nat) : Int)) ((z : Nat) : Int) ((4 : Nat) : Int) (((z + 2) : Nat) : Int)) ((z : Nat) : Int) ((5 : Nat) : Int) (((z + 3) : Nat) : Int)) ((z : Nat) : Int) ((6 : Nat) : Int) (((z + 4) : Nat) : Int))
set_option maxRecDepth 20000 in
theorem i_Rd (hd : 1 ≤ d) (h0 : shL[z]? = some (.inr 1)) (h1 : shL[z + 1]? = some (.inl (.byte, 0))) (h2 : shL[z + 2]? = some (.inl (.int, 901))) (h3 : shL[z + 3]? = some (.inl (.int, 901))) (h4 : shL[z + 4]? = some (.inl (.int, 901))) : CI G d mi_Rd_init 4 2703 z (z + 1) M (z + 5) (mRd z M) := by
  refine CI.of (L := [some (vr ((z : Nat) : Int))]) (tb_in (i := 1035) (by decide +kernel)) rfl rfl (by decide) rfl ?_
  refine cw_aload (k := 0) (i := 0) (pc := 0) (by decide +kernel) rfl rfl ?_
  refine cw_obj (ix := 3) (a := z) (pc := 1) (by decide +kernel) (tb_in (i := 1036) (by decide +kernel)) (tb_in (i := 1029) (by decide +kernel)) (tb_in (i := 1030) (by decide +kernel)) trivial (by omega) ?_
  refine cw_aload (k := 0) (i := 0) (pc := 4) (by decide +kernel) rfl rfl ?_
  refine cw_iconst (x := (-1)) (pc := 5) (by decide +kernel) ⟨by omega, by omega⟩ ?_
  refine cw_putn (ix := 9) (ci := 1) (j := 1) (z := z) (x := (-1)) (q := (RC1, TC1, 11)) (pc := 6) (by decide +kernel) h0 (by omega) rfl (by decide) (tb_in (i := 1039) (by decide +kernel)) rfl ⟨by omega, by omega⟩ ?_
  refine cw_aload (k := 0) (i := 0) (pc := 9) (by decide +kernel) rfl rfl ?_
  refine cw_iconst (x := ((0 : Nat) : Int)) (pc := 10) (by decide +kernel) ⟨by omega, by omega⟩ ?_
  refine cw_newa (aty := .byte) (ty := .byte) (N := 0) (n := (z + 1)) (cl := 0) (sl := 0) (pc := 11) (by decide +kernel) rfl (Or.inr (Or.inr (Or.inl rfl))) h1 (tb_in (i := 1073) (by decide +kernel)) (by omega) (by omega) (by omega) ?_
  refine cw_putn (ix := 15) (ci := 1) (j := 2) (z := z) (x := (((z + 1) : Nat) : Int)) (q := (RC1, TC1, 11)) (pc := 13) (by decide +kernel) h0 (by omega) rfl (by decide) (tb_in (i := 1041) (by decide +kernel)) rfl trivial ?_
  refine cw_aload (k := 0) (i := 0) (pc := 16) (by decide +kernel) rfl rfl ?_
  refine cw_sipush (x := ((901 : Nat) : Int)) (pc := 17) (by decide +kernel) (by omega) (by omega) ?_
  refine cw_newa (aty := .int) (ty := .int) (N := 901) (n := (z + 2)) (cl := 1) (sl := 0) (pc := 20) (by decide +kernel) rfl (Or.inl rfl) h2 (tb_in (i := 1074) (by decide +kernel)) (by omega) (by omega) (by omega) ?_
  refine cw_putf (ix := 19) (ci := 1) (j := 4) (z := z) (x := (((z + 2) : Nat) : Int)) (q := (RC1, TC1, 11)) (pc := 22) (by decide +kernel) h0 (by omega) rfl (by decide) (tb_in (i := 1043) (by decide +kernel)) rfl rfl rfl trivial ?_
  refine cw_aload (k := 0) (i := 0) (pc := 25) (by decide +kernel) rfl rfl ?_
  refine cw_sipush (x := ((901 : Nat) : Int)) (pc := 26) (by decide +kernel) (by omega) (by omega) ?_
  refine cw_newa (aty := .int) (ty := .int) (N := 901) (n := (z + 3)) (cl := 2) (sl := 901) (pc := 29) (by decide +kernel) rfl (Or.inl rfl) h3 (tb_in (i := 1074) (by decide +kernel)) (by omega) (by omega) (by omega) ?_
  refine cw_putf (ix := 23) (ci := 1) (j := 5) (z := z) (x := (((z + 3) : Nat) : Int)) (q := (RC1, TC1, 11)) (pc := 31) (by decide +kernel) h0 (by omega) rfl (by decide) (tb_in (i := 1044) (by decide +kernel)) rfl rfl rfl trivial ?_
  refine cw_aload (k := 0) (i := 0) (pc := 34) (by decide +kernel) rfl rfl ?_
  refine cw_sipush (x := ((901 : Nat) : Int)) (pc := 35) (by decide +kernel) (by omega) (by omega) ?_
  refine cw_newa (aty := .int) (ty := .int) (N := 901) (n := (z + 4)) (cl := 3) (sl := 1802) (pc := 38) (by decide +kernel) rfl (Or.inl rfl) h4 (tb_in (i := 1074) (by decide +kernel)) (by omega) (by omega) (by omega) ?_
  refine cw_putf (ix := 26) (ci := 1) (j := 6) (z := z) (x := (((z + 4) : Nat) : Int)) (q := (RC1, TC1, 11)) (pc := 40) (by decide +kernel) h0 (by omega) rfl (by decide) (tb_in (i := 1045) (by decide +kernel)) rfl rfl rfl trivial ?_
  exact cw_ret (pc := 43) (cl := 4) (sl := 2703) (n := z + 5) (by decide +kernel)
def mHa (z : Nat) (M : AM) : AM := (up (up (up (mLa (z + 5) (up (mLa (z + 3) (up (up (up M ((z : Nat) : Int) ((1 : Nat) : Int) ((1 : Nat) : Int)) ((z : Nat) : Int) ((6 : Nat) : Int) (((z + 1) : Nat) : Int)) ((z : Nat) : Int) ((7 : Nat) : Int) (((z + 2) : Nat) : Int))) ((z : Nat) : Int) ((8 : Nat) : Int) (((z + 3) : Nat) : Int))) ((z : Nat) : Int) ((9 : Nat) : Int) (((z + 5) : Nat) : Int)) ((z : Nat) : Int) ((10 : Nat) : Int) (((z + 7) : Nat) : Int)) ((z : Nat) : Int) ((11 : Nat) : Int) (((z + 8) : Nat) : Int))
set_option maxRecDepth 20000 in
theorem i_Ha (hd : 2 ≤ d) (h0 : shL[z]? = some (.inr 2)) (h1 : shL[z + 1]? = some (.inl (.int, 5))) (h2 : shL[z + 2]? = some (.inl (.int, 5))) (h3 : shL[z + 3]? = some (.inr 3)) (h4 : shL[z + 4]? = some (.inl (.int, 900))) (h5 : shL[z + 5]? = some (.inr 3)) (h6 : shL[z + 6]? = some (.inl (.int, 900))) (h7 : shL[z + 7]? = some (.inl (.int, 9))) (h8 : shL[z + 8]? = some (.inl (.int, 100))) : CI G d mi_Ha_init 8 1923 z (z + 1) M (z + 9) (mHa z M) := by
  refine CI.of (L := [some (vr ((z : Nat) : Int))]) (tb_in (i := 1079) (by decide +kernel)) rfl rfl (by decide) rfl ?_
  refine cw_aload (k := 0) (i := 0) (pc := 0) (by decide +kernel) rfl rfl ?_
  refine cw_obj (ix := 3) (a := z) (pc := 1) (by decide +kernel) (tb_in (i := 1080) (by decide +kernel)) (tb_in (i := 1029) (by decide +kernel)) (tb_in (i := 1030) (by decide +kernel)) trivial (by omega) ?_
  refine cw_aload (k := 0) (i := 0) (pc := 4) (by decide +kernel) rfl rfl ?_
  refine cw_iconst (x := ((1 : Nat) : Int)) (pc := 5) (by decide +kernel) ⟨by omega, by omega⟩ ?_
  refine cw_putn (ix := 9) (ci := 2) (j := 1) (z := z) (x := ((1 : Nat) : Int)) (q := (RC2, TC2, 12)) (pc := 6) (by decide +kernel) h0 (by omega) rfl (by decide) (tb_in (i := 1099) (by decide +kernel)) rfl ⟨by omega, by omega⟩ ?_
  refine cw_aload (k := 0) (i := 0) (pc := 9) (by decide +kernel) rfl rfl ?_
  refine cw_iconst (x := ((5 : Nat) : Int)) (pc := 10) (by decide +kernel) ⟨by omega, by omega⟩ ?_
  refine cw_newa (aty := .int) (ty := .int) (N := 5) (n := (z + 1)) (cl := 0) (sl := 0) (pc := 11) (by decide +kernel) rfl (Or.inl rfl) h1 (tb_in (i := 1074) (by decide +kernel)) (by omega) (by omega) (by omega) ?_
  refine cw_putf (ix := 15) (ci := 2) (j := 6) (z := z) (x := (((z + 1) : Nat) : Int)) (q := (RC2, TC2, 12)) (pc := 13) (by decide +kernel) h0 (by omega) rfl (by decide) (tb_in (i := 1117) (by decide +kernel)) rfl rfl rfl trivial ?_
  refine cw_aload (k := 0) (i := 0) (pc := 16) (by decide +kernel) rfl rfl ?_
  refine cw_iconst (x := ((5 : Nat) : Int)) (pc := 17) (by decide +kernel) ⟨by omega, by omega⟩ ?_
  refine cw_newa (aty := .int) (ty := .int) (N := 5) (n := (z + 2)) (cl := 1) (sl := 5) (pc := 18) (by decide +kernel) rfl (Or.inl rfl) h2 (tb_in (i := 1074) (by decide +kernel)) (by omega) (by omega) (by omega) ?_
  refine cw_putf (ix := 19) (ci := 2) (j := 7) (z := z) (x := (((z + 2) : Nat) : Int)) (q := (RC2, TC2, 12)) (pc := 20) (by decide +kernel) h0 (by omega) rfl (by decide) (tb_in (i := 1120) (by decide +kernel)) rfl rfl rfl trivial ?_
  refine cw_aload (k := 0) (i := 0) (pc := 23) (by decide +kernel) rfl rfl ?_
  refine cw_new (ix := 22) (ci := 3) (q := (RC3, TC3, 2)) (n := (z + 3)) (cl := 2) (sl := 10) (pc := 24) (by decide +kernel) h3 rfl (tb_in (i := 1081) (by decide +kernel)) (tb_in (i := 1082) (by decide +kernel)) (tb_in (i := 1004) (by decide +kernel)) (by decide) (by decide) ?_
  refine cw_dup (pc := 27) (by decide +kernel) (fun x h => by cases h) ?_
  refine cw_init (ix := 24) (mi2 := mi_La_init) (z := (z + 3)) (n := (z + 4)) (n' := (z + 5)) (mc2 := 1) (ms2 := 900) (M' := mLa (z + 3) _) (cl := 3) (sl := 12) (pc := 28) (by decide +kernel) (i_La (by omega) h3 h4) (Or.inr ⟨"HandsHeld", tbN_in (i := 1083) (by decide +kernel)⟩) (tb_in (i := 1084) (by decide +kernel)) (tb_in (i := 1004) (by decide +kernel)) rfl nm_La (by decide) trivial (by omega) rfl (by decide) (by decide) ?_
  refine cw_putf (ix := 25) (ci := 2) (j := 8) (z := z) (x := (((z + 3) : Nat) : Int)) (q := (RC2, TC2, 12)) (pc := 31) (by decide +kernel) h0 (by omega) rfl (by decide) (tb_in (i := 1122) (by decide +kernel)) rfl rfl rfl trivial ?_
  refine cw_aload (k := 0) (i := 0) (pc := 34) (by decide +kernel) rfl rfl ?_
  refine cw_new (ix := 22) (ci := 3) (q := (RC3, TC3, 2)) (n := (z + 5)) (cl := 4) (sl := 912) (pc := 35) (by decide +kernel) h5 rfl (tb_in (i := 1081) (by decide +kernel)) (tb_in (i := 1082) (by decide +kernel)) (tb_in (i := 1004) (by decide +kernel)) (by decide) (by decide) ?_
  refine cw_dup (pc := 38) (by decide +kernel) (fun x h => by cases h) ?_
  refine cw_init (ix := 24) (mi2 := mi_La_init) (z := (z + 5)) (n := (z + 6)) (n' := (z + 7)) (mc2 := 1) (ms2 := 900) (M' := mLa (z + 5) _) (cl := 5) (sl := 914) (pc := 39) (by decide +kernel) (i_La (by omega) h5 h6) (Or.inr ⟨"HandsHeld", tbN_in (i := 1083) (by decide +kernel)⟩) (tb_in (i := 1084) (by decide +kernel)) (tb_in (i := 1004) (by decide +kernel)) rfl nm_La (by decide) trivial (by omega) rfl (by decide) (by decide) ?_
  refine cw_putf (ix := 29) (ci := 2) (j := 9) (z := z) (x := (((z + 5) : Nat) : Int)) (q := (RC2, TC2, 12)) (pc := 42) (by decide +kernel) h0 (by omega) rfl (by decide) (tb_in (i := 1124) (by decide +kernel)) rfl rfl rfl trivial ?_
  refine cw_aload (k := 0) (i := 0) (pc := 45) (by decide +kernel) rfl rfl ?_
  refine cw_bipush (x := ((9 : Nat) : Int)) (pc := 46) (by decide +kernel) (by omega) (by omega) ?_
  refine cw_newa (aty := .int) (ty := .int) (N := 9) (n := (z + 7)) (cl := 6) (sl := 1814) (pc := 48) (by decide +kernel) rfl (Or.inl rfl) h7 (tb_in (i := 1074) (by decide +kernel)) (by omega) (by omega) (by omega) ?_
  refine cw_putf (ix := 34) (ci := 2) (j := 10) (z := z) (x := (((z + 7) : Nat) : Int)) (q := (RC2, TC2, 12)) (pc := 50) (by decide +kernel) h0 (by omega) rfl (by decide) (tb_in (i := 1126) (by decide +kernel)) rfl rfl rfl trivial ?_
  refine cw_aload (k := 0) (i := 0) (pc := 53) (by decide +kernel) rfl rfl ?_
  refine cw_bipush (x := ((100 : Nat) : Int)) (pc := 54) (by decide +kernel) (by omega) (by omega) ?_
  refine cw_newa (aty := .int) (ty := .int) (N := 100) (n := (z + 8)) (cl := 7) (sl := 1823) (pc := 56) (by decide +kernel) rfl (Or.inl rfl) h8 (tb_in (i := 1074) (by decide +kernel)) (by omega) (by omega) (by omega) ?_
  refine cw_putf (ix := 37) (ci := 2) (j := 11) (z := z) (x := (((z + 8) : Nat) : Int)) (q := (RC2, TC2, 12)) (pc := 58) (by decide +kernel) h0 (by omega) rfl (by decide) (tb_in (i := 1127) (by decide +kernel)) rfl rfl rfl trivial ?_
  exact cw_ret (pc := 61) (cl := 8) (sl := 1923) (n := z + 9) (by decide +kernel)
def mRo (z : Nat) (M : AM) : AM := (up (up (mFr (z + 6) (up (mFr (z + 2) (up M ((z : Nat) : Int) ((0 : Nat) : Int) (((z + 1) : Nat) : Int))) ((z : Nat) : Int) ((1 : Nat) : Int) (((z + 2) : Nat) : Int))) ((z : Nat) : Int) ((2 : Nat) : Int) (((z + 6) : Nat) : Int)) ((z : Nat) : Int) ((3 : Nat) : Int) (((z + 10) : Nat) : Int))
set_option maxRecDepth 20000 in
theorem i_Ro (hd : 2 ≤ d) (h0 : shL[z]? = some (.inr 9)) (h1 : shL[z + 1]? = some (.inl (.int, 10))) (h2 : shL[z + 2]? = some (.inr 10)) (h3 : shL[z + 3]? = some (.inl (.int, 3125))) (h4 : shL[z + 4]? = some (.inl (.long, 3125))) (h5 : shL[z + 5]? = some (.inl (.int, 3125))) (h6 : shL[z + 6]? = some (.inr 10)) (h7 : shL[z + 7]? = some (.inl (.int, 3125))) (h8 : shL[z + 8]? = some (.inl (.long, 3125))) (h9 : shL[z + 9]? = some (.inl (.int, 3125))) (h10 : shL[z + 10]? = some (.inl (.int, 25000))) : CI G d mi_Ro_init 10 43768 z (z + 1) M (z + 11) (mRo z M) := by
  refine CI.of (L := [some (vr ((z : Nat) : Int))]) (tb_in (i := 2103) (by decide +kernel)) rfl rfl (by decide) rfl ?_
  refine cw_aload (k := 0) (i := 0) (pc := 0) (by decide +kernel) rfl rfl ?_
  refine cw_obj (ix := 3) (a := z) (pc := 1) (by decide +kernel) (tb_in (i := 2104) (by decide +kernel)) (tb_in (i := 1029) (by decide +kernel)) (tb_in (i := 1030) (by decide +kernel)) trivial (by omega) ?_
  refine cw_aload (k := 0) (i := 0) (pc := 4) (by decide +kernel) rfl rfl ?_
  refine cw_bipush (x := ((10 : Nat) : Int)) (pc := 5) (by decide +kernel) (by omega) (by omega) ?_
  refine cw_newa (aty := .int) (ty := .int) (N := 10) (n := (z + 1)) (cl := 0) (sl := 0) (pc := 7) (by decide +kernel) rfl (Or.inl rfl) h1 (tb_in (i := 1074) (by decide +kernel)) (by omega) (by omega) (by omega) ?_
  refine cw_putf (ix := 9) (ci := 9) (j := 0) (z := z) (x := (((z + 1) : Nat) : Int)) (q := (RC9, TC9, 5)) (pc := 9) (by decide +kernel) h0 (by omega) rfl (by decide) (tb_in (i := 2129) (by decide +kernel)) rfl rfl rfl trivial ?_
  refine cw_aload (k := 0) (i := 0) (pc := 12) (by decide +kernel) rfl rfl ?_
  refine cw_new (ix := 15) (ci := 10) (q := (RC10, TC10, 4)) (n := (z + 2)) (cl := 1) (sl := 10) (pc := 13) (by decide +kernel) h2 rfl (tb_in (i := 2105) (by decide +kernel)) (tb_in (i := 2106) (by decide +kernel)) (tb_in (i := 1011) (by decide +kernel)) (by decide) (by decide) ?_
  refine cw_dup (pc := 16) (by decide +kernel) (fun x h => by cases h) ?_
  refine cw_init (ix := 17) (mi2 := mi_Fr_init) (z := (z + 2)) (n := (z + 3)) (n' := (z + 6)) (mc2 := 3) (ms2 := 9375) (M' := mFr (z + 2) _) (cl := 2) (sl := 14) (pc := 17) (by decide +kernel) (i_Fr (by omega) h2 h3 h4 h5) (Or.inr ⟨"HandsHeld", tbN_in (i := 2107) (by decide +kernel)⟩) (tb_in (i := 2108) (by decide +kernel)) (tb_in (i := 1011) (by decide +kernel)) rfl nm_Fr (by decide) trivial (by omega) rfl (by decide) (by decide) ?_
  refine cw_putn (ix := 18) (ci := 9) (j := 1) (z := z) (x := (((z + 2) : Nat) : Int)) (q := (RC9, TC9, 5)) (pc := 20) (by decide +kernel) h0 (by omega) rfl (by decide) (tb_in (i := 2131) (by decide +kernel)) rfl trivial ?_
  refine cw_aload (k := 0) (i := 0) (pc := 23) (by decide +kernel) rfl rfl ?_
  refine cw_new (ix := 15) (ci := 10) (q := (RC10, TC10, 4)) (n := (z + 6)) (cl := 5) (sl := 9389) (pc := 24) (by decide +kernel) h6 rfl (tb_in (i := 2105) (by decide +kernel)) (tb_in (i := 2106) (by decide +kernel)) (tb_in (i := 1011) (by decide +kernel)) (by decide) (by decide) ?_
  refine cw_dup (pc := 27) (by decide +kernel) (fun x h => by cases h) ?_
  refine cw_init (ix := 17) (mi2 := mi_Fr_init) (z := (z + 6)) (n := (z + 7)) (n' := (z + 10)) (mc2 := 3) (ms2 := 9375) (M' := mFr (z + 6) _) (cl := 6) (sl := 9393) (pc := 28) (by decide +kernel) (i_Fr (by omega) h6 h7 h8 h9) (Or.inr ⟨"HandsHeld", tbN_in (i := 2107) (by decide +kernel)⟩) (tb_in (i := 2108) (by decide +kernel)) (tb_in (i := 1011) (by decide +kernel)) rfl nm_Fr (by decide) trivial (by omega) rfl (by decide) (by decide) ?_
  refine cw_putn (ix := 22) (ci := 9) (j := 2) (z := z) (x := (((z + 6) : Nat) : Int)) (q := (RC9, TC9, 5)) (pc := 31) (by decide +kernel) h0 (by omega) rfl (by decide) (tb_in (i := 2132) (by decide +kernel)) rfl trivial ?_
  refine cw_aload (k := 0) (i := 0) (pc := 34) (by decide +kernel) rfl rfl ?_
  refine cw_sipush (x := ((25000 : Nat) : Int)) (pc := 35) (by decide +kernel) (by omega) (by omega) ?_
  refine cw_newa (aty := .int) (ty := .int) (N := 25000) (n := (z + 10)) (cl := 9) (sl := 18768) (pc := 38) (by decide +kernel) rfl (Or.inl rfl) h10 (tb_in (i := 1074) (by decide +kernel)) (by omega) (by omega) (by omega) ?_
  refine cw_putf (ix := 25) (ci := 9) (j := 3) (z := z) (x := (((z + 10) : Nat) : Int)) (q := (RC9, TC9, 5)) (pc := 40) (by decide +kernel) h0 (by omega) rfl (by decide) (tb_in (i := 2133) (by decide +kernel)) rfl rfl rfl trivial ?_
  exact cw_ret (pc := 43) (cl := 10) (sl := 43768) (n := z + 11) (by decide +kernel)
end XE
