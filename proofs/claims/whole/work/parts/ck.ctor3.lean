section XF
variable {G : AG} {d : Nat}
def mMd_0 : AM := mH_E
def mMd_1 : AM := (up (up (up (up (up mMd_0 ((117 : Nat) : Int) ((1 : Nat) : Int) ((118 : Nat) : Int)) ((117 : Nat) : Int) ((2 : Nat) : Int) ((119 : Nat) : Int)) ((117 : Nat) : Int) ((3 : Nat) : Int) ((120 : Nat) : Int)) ((117 : Nat) : Int) ((4 : Nat) : Int) ((121 : Nat) : Int)) ((117 : Nat) : Int) ((14 : Nat) : Int) (-1))
def mMd_2 : AM := (up (up (up (up (up (up mMd_1 ((117 : Nat) : Int) ((16 : Nat) : Int) ((122 : Nat) : Int)) ((117 : Nat) : Int) ((17 : Nat) : Int) ((123 : Nat) : Int)) ((117 : Nat) : Int) ((18 : Nat) : Int) ((124 : Nat) : Int)) ((117 : Nat) : Int) ((21 : Nat) : Int) ((125 : Nat) : Int)) ((117 : Nat) : Int) ((22 : Nat) : Int) ((126 : Nat) : Int)) ((117 : Nat) : Int) ((23 : Nat) : Int) ((127 : Nat) : Int))
def mMd_3 : AM := (up (up (up (up (up (up mMd_2 ((117 : Nat) : Int) ((24 : Nat) : Int) ((128 : Nat) : Int)) ((117 : Nat) : Int) ((25 : Nat) : Int) ((129 : Nat) : Int)) ((117 : Nat) : Int) ((26 : Nat) : Int) ((130 : Nat) : Int)) ((117 : Nat) : Int) ((28 : Nat) : Int) ((131 : Nat) : Int)) ((117 : Nat) : Int) ((29 : Nat) : Int) ((132 : Nat) : Int)) ((117 : Nat) : Int) ((30 : Nat) : Int) ((133 : Nat) : Int))
def mMd_4 : AM := (up (up (up (up (up (up mMd_3 ((117 : Nat) : Int) ((31 : Nat) : Int) ((134 : Nat) : Int)) ((135 : Nat) : Int) ((0 : Nat) : Int) (-1)) ((135 : Nat) : Int) ((1 : Nat) : Int) (-1)) ((135 : Nat) : Int) ((2 : Nat) : Int) (-1)) ((135 : Nat) : Int) ((3 : Nat) : Int) (-1)) ((117 : Nat) : Int) ((32 : Nat) : Int) ((135 : Nat) : Int))
def mMd_5 : AM := (up (up mMd_4 ((117 : Nat) : Int) ((33 : Nat) : Int) ((136 : Nat) : Int)) ((117 : Nat) : Int) ((34 : Nat) : Int) ((137 : Nat) : Int))
set_option maxRecDepth 20000 in
theorem i_Md_0 {RC : RCt} (hd : 1 ≤ d) (kk : CW G d mi_Md_init 20 253088 RC 49 [some (vr ((117 : Nat) : Int))] [vr ((122 : Nat) : Int), vr ((117 : Nat) : Int)] 123 mMd_1 5 6014) : CW G d mi_Md_init 20 253088 RC 0 [some (vr ((117 : Nat) : Int))] [] 118 mMd_0 0 0 := by
  refine cw_aload (k := 0) (i := 0) (pc := 0) (by decide +kernel) rfl rfl ?_
  refine cw_obj (ix := 7) (a := 117) (pc := 1) (by decide +kernel) (tb_in (i := 6131) (by decide +kernel)) (tb_in (i := 1029) (by decide +kernel)) (tb_in (i := 1030) (by decide +kernel)) trivial (by omega) ?_
  refine cw_aload (k := 0) (i := 0) (pc := 4) (by decide +kernel) rfl rfl ?_
  refine cw_sipush (x := ((3159 : Nat) : Int)) (pc := 5) (by decide +kernel) (by omega) (by omega) ?_
  refine cw_newa (aty := .int) (ty := .int) (N := 3159) (n := 118) (cl := 0) (sl := 0) (pc := 8) (by decide +kernel) rfl (Or.inl rfl) (by decide +kernel) (tb_in (i := 1074) (by decide +kernel)) (by omega) (by omega) (by omega) ?_
  refine cw_putf (ix := 13) (ci := 12) (j := 1) (z := 117) (x := ((118 : Nat) : Int)) (q := (RC12, TC12, 35)) (pc := 10) (by decide +kernel) (by decide +kernel) (by omega) rfl (by decide) (tb_in (i := 6137) (by decide +kernel)) rfl rfl rfl trivial ?_
  refine cw_aload (k := 0) (i := 0) (pc := 13) (by decide +kernel) rfl rfl ?_
  refine cw_iconst (x := ((2 : Nat) : Int)) (pc := 14) (by decide +kernel) ⟨by omega, by omega⟩ ?_
  refine cw_newa (aty := .boolean) (ty := .boolean) (N := 2) (n := 119) (cl := 1) (sl := 3159) (pc := 15) (by decide +kernel) rfl (Or.inr (Or.inr (Or.inr rfl))) (by decide +kernel) (tb_in (i := 2026) (by decide +kernel)) (by omega) (by omega) (by omega) ?_
  refine cw_putf (ix := 17) (ci := 12) (j := 2) (z := 117) (x := ((119 : Nat) : Int)) (q := (RC12, TC12, 35)) (pc := 17) (by decide +kernel) (by decide +kernel) (by omega) rfl (by decide) (tb_in (i := 6138) (by decide +kernel)) rfl rfl rfl trivial ?_
  refine cw_aload (k := 0) (i := 0) (pc := 20) (by decide +kernel) rfl rfl ?_
  refine cw_sipush (x := ((900 : Nat) : Int)) (pc := 21) (by decide +kernel) (by omega) (by omega) ?_
  refine cw_newa (aty := .int) (ty := .int) (N := 900) (n := 120) (cl := 2) (sl := 3161) (pc := 24) (by decide +kernel) rfl (Or.inl rfl) (by decide +kernel) (tb_in (i := 1074) (by decide +kernel)) (by omega) (by omega) (by omega) ?_
  refine cw_putf (ix := 21) (ci := 12) (j := 3) (z := 117) (x := ((120 : Nat) : Int)) (q := (RC12, TC12, 35)) (pc := 26) (by decide +kernel) (by decide +kernel) (by omega) rfl (by decide) (tb_in (i := 6139) (by decide +kernel)) rfl rfl rfl trivial ?_
  refine cw_aload (k := 0) (i := 0) (pc := 29) (by decide +kernel) rfl rfl ?_
  refine cw_sipush (x := ((1053 : Nat) : Int)) (pc := 30) (by decide +kernel) (by omega) (by omega) ?_
  refine cw_newa (aty := .int) (ty := .int) (N := 1053) (n := 121) (cl := 3) (sl := 4061) (pc := 33) (by decide +kernel) rfl (Or.inl rfl) (by decide +kernel) (tb_in (i := 1074) (by decide +kernel)) (by omega) (by omega) (by omega) ?_
  refine cw_putf (ix := 24) (ci := 12) (j := 4) (z := 117) (x := ((121 : Nat) : Int)) (q := (RC12, TC12, 35)) (pc := 35) (by decide +kernel) (by decide +kernel) (by omega) rfl (by decide) (tb_in (i := 6140) (by decide +kernel)) rfl rfl rfl trivial ?_
  refine cw_aload (k := 0) (i := 0) (pc := 38) (by decide +kernel) rfl rfl ?_
  refine cw_iconst (x := (-1)) (pc := 39) (by decide +kernel) ⟨by omega, by omega⟩ ?_
  refine cw_putn (ix := 27) (ci := 12) (j := 14) (z := 117) (x := (-1)) (q := (RC12, TC12, 35)) (pc := 40) (by decide +kernel) (by decide +kernel) (by omega) rfl (by decide) (tb_in (i := 6150) (by decide +kernel)) rfl ⟨by omega, by omega⟩ ?_
  refine cw_aload (k := 0) (i := 0) (pc := 43) (by decide +kernel) rfl rfl ?_
  refine cw_sipush (x := ((900 : Nat) : Int)) (pc := 44) (by decide +kernel) (by omega) (by omega) ?_
  refine cw_newa (aty := .int) (ty := .int) (N := 900) (n := 122) (cl := 4) (sl := 5114) (pc := 47) (by decide +kernel) rfl (Or.inl rfl) (by decide +kernel) (tb_in (i := 1074) (by decide +kernel)) (by omega) (by omega) (by omega) ?_
  exact kk
set_option maxRecDepth 20000 in
theorem i_Md_1 {RC : RCt} (hd : 1 ≤ d) (kk : CW G d mi_Md_init 20 253088 RC 100 [some (vr ((117 : Nat) : Int))] [vr ((128 : Nat) : Int), vr ((117 : Nat) : Int)] 129 mMd_2 11 115410) : CW G d mi_Md_init 20 253088 RC 49 [some (vr ((117 : Nat) : Int))] [vr ((122 : Nat) : Int), vr ((117 : Nat) : Int)] 123 mMd_1 5 6014 := by
  refine cw_putf (ix := 30) (ci := 12) (j := 16) (z := 117) (x := ((122 : Nat) : Int)) (q := (RC12, TC12, 35)) (pc := 49) (by decide +kernel) (by decide +kernel) (by omega) rfl (by decide) (tb_in (i := 6152) (by decide +kernel)) rfl rfl rfl trivial ?_
  refine cw_aload (k := 0) (i := 0) (pc := 52) (by decide +kernel) rfl rfl ?_
  refine cw_bipush (x := ((9 : Nat) : Int)) (pc := 53) (by decide +kernel) (by omega) (by omega) ?_
  refine cw_newa (aty := .int) (ty := .int) (N := 9) (n := 123) (cl := 5) (sl := 6014) (pc := 55) (by decide +kernel) rfl (Or.inl rfl) (by decide +kernel) (tb_in (i := 1074) (by decide +kernel)) (by omega) (by omega) (by omega) ?_
  refine cw_putf (ix := 33) (ci := 12) (j := 17) (z := 117) (x := ((123 : Nat) : Int)) (q := (RC12, TC12, 35)) (pc := 57) (by decide +kernel) (by decide +kernel) (by omega) rfl (by decide) (tb_in (i := 6153) (by decide +kernel)) rfl rfl rfl trivial ?_
  refine cw_aload (k := 0) (i := 0) (pc := 60) (by decide +kernel) rfl rfl ?_
  refine cw_bipush (x := ((12 : Nat) : Int)) (pc := 61) (by decide +kernel) (by omega) (by omega) ?_
  refine cw_newa (aty := .int) (ty := .int) (N := 12) (n := 124) (cl := 6) (sl := 6023) (pc := 63) (by decide +kernel) rfl (Or.inl rfl) (by decide +kernel) (tb_in (i := 1074) (by decide +kernel)) (by omega) (by omega) (by omega) ?_
  refine cw_putf (ix := 36) (ci := 12) (j := 18) (z := 117) (x := ((124 : Nat) : Int)) (q := (RC12, TC12, 35)) (pc := 65) (by decide +kernel) (by decide +kernel) (by omega) rfl (by decide) (tb_in (i := 6154) (by decide +kernel)) rfl rfl rfl trivial ?_
  refine cw_aload (k := 0) (i := 0) (pc := 68) (by decide +kernel) rfl rfl ?_
  refine cw_sipush (x := ((3125 : Nat) : Int)) (pc := 69) (by decide +kernel) (by omega) (by omega) ?_
  refine cw_newa (aty := .int) (ty := .int) (N := 3125) (n := 125) (cl := 7) (sl := 6035) (pc := 72) (by decide +kernel) rfl (Or.inl rfl) (by decide +kernel) (tb_in (i := 1074) (by decide +kernel)) (by omega) (by omega) (by omega) ?_
  refine cw_putf (ix := 39) (ci := 12) (j := 21) (z := 117) (x := ((125 : Nat) : Int)) (q := (RC12, TC12, 35)) (pc := 74) (by decide +kernel) (by decide +kernel) (by omega) rfl (by decide) (tb_in (i := 6157) (by decide +kernel)) rfl rfl rfl trivial ?_
  refine cw_aload (k := 0) (i := 0) (pc := 77) (by decide +kernel) rfl rfl ?_
  refine cw_ldc (ix := 42) (v := ((100000 : Nat) : Int)) (pc := 78) (by decide +kernel) ⟨by omega, by omega⟩ (tb_in (i := 6132) (by decide +kernel)) ?_
  refine cw_newa (aty := .int) (ty := .int) (N := 100000) (n := 126) (cl := 8) (sl := 9160) (pc := 80) (by decide +kernel) rfl (Or.inl rfl) (by decide +kernel) (tb_in (i := 1074) (by decide +kernel)) (by omega) (by omega) (by omega) ?_
  refine cw_putf (ix := 43) (ci := 12) (j := 22) (z := 117) (x := ((126 : Nat) : Int)) (q := (RC12, TC12, 35)) (pc := 82) (by decide +kernel) (by decide +kernel) (by omega) rfl (by decide) (tb_in (i := 6158) (by decide +kernel)) rfl rfl rfl trivial ?_
  refine cw_aload (k := 0) (i := 0) (pc := 85) (by decide +kernel) rfl rfl ?_
  refine cw_sipush (x := ((3125 : Nat) : Int)) (pc := 86) (by decide +kernel) (by omega) (by omega) ?_
  refine cw_newa (aty := .int) (ty := .int) (N := 3125) (n := 127) (cl := 9) (sl := 109160) (pc := 89) (by decide +kernel) rfl (Or.inl rfl) (by decide +kernel) (tb_in (i := 1074) (by decide +kernel)) (by omega) (by omega) (by omega) ?_
  refine cw_putf (ix := 46) (ci := 12) (j := 23) (z := 117) (x := ((127 : Nat) : Int)) (q := (RC12, TC12, 35)) (pc := 91) (by decide +kernel) (by decide +kernel) (by omega) rfl (by decide) (tb_in (i := 6159) (by decide +kernel)) rfl rfl rfl trivial ?_
  refine cw_aload (k := 0) (i := 0) (pc := 94) (by decide +kernel) rfl rfl ?_
  refine cw_sipush (x := ((3125 : Nat) : Int)) (pc := 95) (by decide +kernel) (by omega) (by omega) ?_
  refine cw_newa (aty := .int) (ty := .int) (N := 3125) (n := 128) (cl := 10) (sl := 112285) (pc := 98) (by decide +kernel) rfl (Or.inl rfl) (by decide +kernel) (tb_in (i := 1074) (by decide +kernel)) (by omega) (by omega) (by omega) ?_
  exact kk
set_option maxRecDepth 20000 in
theorem i_Md_2 {RC : RCt} (hd : 1 ≤ d) (kk : CW G d mi_Md_init 20 253088 RC 152 [some (vr ((117 : Nat) : Int))] [vr ((134 : Nat) : Int), vr ((117 : Nat) : Int)] 135 mMd_3 17 252920) : CW G d mi_Md_init 20 253088 RC 100 [some (vr ((117 : Nat) : Int))] [vr ((128 : Nat) : Int), vr ((117 : Nat) : Int)] 129 mMd_2 11 115410 := by
  refine cw_putf (ix := 49) (ci := 12) (j := 24) (z := 117) (x := ((128 : Nat) : Int)) (q := (RC12, TC12, 35)) (pc := 100) (by decide +kernel) (by decide +kernel) (by omega) rfl (by decide) (tb_in (i := 6160) (by decide +kernel)) rfl rfl rfl trivial ?_
  refine cw_aload (k := 0) (i := 0) (pc := 103) (by decide +kernel) rfl rfl ?_
  refine cw_ldc (ix := 42) (v := ((100000 : Nat) : Int)) (pc := 104) (by decide +kernel) ⟨by omega, by omega⟩ (tb_in (i := 6132) (by decide +kernel)) ?_
  refine cw_newa (aty := .byte) (ty := .byte) (N := 100000) (n := 129) (cl := 11) (sl := 115410) (pc := 106) (by decide +kernel) rfl (Or.inr (Or.inr (Or.inl rfl))) (by decide +kernel) (tb_in (i := 1073) (by decide +kernel)) (by omega) (by omega) (by omega) ?_
  refine cw_putf (ix := 52) (ci := 12) (j := 25) (z := 117) (x := ((129 : Nat) : Int)) (q := (RC12, TC12, 35)) (pc := 108) (by decide +kernel) (by decide +kernel) (by omega) rfl (by decide) (tb_in (i := 6161) (by decide +kernel)) rfl rfl rfl trivial ?_
  refine cw_aload (k := 0) (i := 0) (pc := 111) (by decide +kernel) rfl rfl ?_
  refine cw_sipush (x := ((3125 : Nat) : Int)) (pc := 112) (by decide +kernel) (by omega) (by omega) ?_
  refine cw_newa (aty := .boolean) (ty := .boolean) (N := 3125) (n := 130) (cl := 12) (sl := 215410) (pc := 115) (by decide +kernel) rfl (Or.inr (Or.inr (Or.inr rfl))) (by decide +kernel) (tb_in (i := 2026) (by decide +kernel)) (by omega) (by omega) (by omega) ?_
  refine cw_putf (ix := 56) (ci := 12) (j := 26) (z := 117) (x := ((130 : Nat) : Int)) (q := (RC12, TC12, 35)) (pc := 117) (by decide +kernel) (by decide +kernel) (by omega) rfl (by decide) (tb_in (i := 6162) (by decide +kernel)) rfl rfl rfl trivial ?_
  refine cw_aload (k := 0) (i := 0) (pc := 120) (by decide +kernel) rfl rfl ?_
  refine cw_sipush (x := ((3125 : Nat) : Int)) (pc := 121) (by decide +kernel) (by omega) (by omega) ?_
  refine cw_newa (aty := .long) (ty := .long) (N := 3125) (n := 131) (cl := 13) (sl := 218535) (pc := 124) (by decide +kernel) rfl (Or.inr (Or.inl rfl)) (by decide +kernel) (tb_in (i := 2128) (by decide +kernel)) (by omega) (by omega) (by omega) ?_
  refine cw_putf (ix := 59) (ci := 12) (j := 28) (z := 117) (x := ((131 : Nat) : Int)) (q := (RC12, TC12, 35)) (pc := 126) (by decide +kernel) (by decide +kernel) (by omega) rfl (by decide) (tb_in (i := 6164) (by decide +kernel)) rfl rfl rfl trivial ?_
  refine cw_aload (k := 0) (i := 0) (pc := 129) (by decide +kernel) rfl rfl ?_
  refine cw_sipush (x := ((3125 : Nat) : Int)) (pc := 130) (by decide +kernel) (by omega) (by omega) ?_
  refine cw_newa (aty := .long) (ty := .long) (N := 3125) (n := 132) (cl := 14) (sl := 221660) (pc := 133) (by decide +kernel) rfl (Or.inr (Or.inl rfl)) (by decide +kernel) (tb_in (i := 2128) (by decide +kernel)) (by omega) (by omega) (by omega) ?_
  refine cw_putf (ix := 63) (ci := 12) (j := 29) (z := 117) (x := ((132 : Nat) : Int)) (q := (RC12, TC12, 35)) (pc := 135) (by decide +kernel) (by decide +kernel) (by omega) rfl (by decide) (tb_in (i := 6165) (by decide +kernel)) rfl rfl rfl trivial ?_
  refine cw_aload (k := 0) (i := 0) (pc := 138) (by decide +kernel) rfl rfl ?_
  refine cw_sipush (x := ((28125 : Nat) : Int)) (pc := 139) (by decide +kernel) (by omega) (by omega) ?_
  refine cw_newa (aty := .long) (ty := .long) (N := 28125) (n := 133) (cl := 15) (sl := 224785) (pc := 142) (by decide +kernel) rfl (Or.inr (Or.inl rfl)) (by decide +kernel) (tb_in (i := 2128) (by decide +kernel)) (by omega) (by omega) (by omega) ?_
  refine cw_putf (ix := 66) (ci := 12) (j := 30) (z := 117) (x := ((133 : Nat) : Int)) (q := (RC12, TC12, 35)) (pc := 144) (by decide +kernel) (by decide +kernel) (by omega) rfl (by decide) (tb_in (i := 6166) (by decide +kernel)) rfl rfl rfl trivial ?_
  refine cw_aload (k := 0) (i := 0) (pc := 147) (by decide +kernel) rfl rfl ?_
  refine cw_bipush (x := ((10 : Nat) : Int)) (pc := 148) (by decide +kernel) (by omega) (by omega) ?_
  refine cw_newa (aty := .int) (ty := .int) (N := 10) (n := 134) (cl := 16) (sl := 252910) (pc := 150) (by decide +kernel) rfl (Or.inl rfl) (by decide +kernel) (tb_in (i := 1074) (by decide +kernel)) (by omega) (by omega) (by omega) ?_
  exact kk
set_option maxRecDepth 20000 in
theorem i_Md_3 {RC : RCt} (hd : 1 ≤ d) (kk : CW G d mi_Md_init 20 253088 RC 182 [some (vr ((117 : Nat) : Int))] [vr ((136 : Nat) : Int), vr ((117 : Nat) : Int)] 137 mMd_4 19 252928) : CW G d mi_Md_init 20 253088 RC 152 [some (vr ((117 : Nat) : Int))] [vr ((134 : Nat) : Int), vr ((117 : Nat) : Int)] 135 mMd_3 17 252920 := by
  refine cw_putf (ix := 69) (ci := 12) (j := 31) (z := 117) (x := ((134 : Nat) : Int)) (q := (RC12, TC12, 35)) (pc := 152) (by decide +kernel) (by decide +kernel) (by omega) rfl (by decide) (tb_in (i := 6167) (by decide +kernel)) rfl rfl rfl trivial ?_
  refine cw_aload (k := 0) (i := 0) (pc := 155) (by decide +kernel) rfl rfl ?_
  refine cw_iconst (x := ((4 : Nat) : Int)) (pc := 156) (by decide +kernel) ⟨by omega, by omega⟩ ?_
  refine cw_newa (aty := .int) (ty := .int) (N := 4) (n := 135) (cl := 17) (sl := 252920) (pc := 157) (by decide +kernel) rfl (Or.inl rfl) (by decide +kernel) (tb_in (i := 1074) (by decide +kernel)) (by omega) (by omega) (by omega) ?_
  refine cw_dup (pc := 159) (by decide +kernel) (fun x h => by cases h) ?_
  refine cw_iconst (x := ((0 : Nat) : Int)) (pc := 160) (by decide +kernel) ⟨by omega, by omega⟩ ?_
  refine cw_iconst (x := (-1)) (pc := 161) (by decide +kernel) ⟨by omega, by omega⟩ ?_
  refine cw_iast (z := 135) (i := 0) (N := 4) (x := (-1)) (pc := 162) (by decide +kernel) (by decide +kernel) (by omega) (by omega) ?_
  refine cw_dup (pc := 163) (by decide +kernel) (fun x h => by cases h) ?_
  refine cw_iconst (x := ((1 : Nat) : Int)) (pc := 164) (by decide +kernel) ⟨by omega, by omega⟩ ?_
  refine cw_iconst (x := (-1)) (pc := 165) (by decide +kernel) ⟨by omega, by omega⟩ ?_
  refine cw_iast (z := 135) (i := 1) (N := 4) (x := (-1)) (pc := 166) (by decide +kernel) (by decide +kernel) (by omega) (by omega) ?_
  refine cw_dup (pc := 167) (by decide +kernel) (fun x h => by cases h) ?_
  refine cw_iconst (x := ((2 : Nat) : Int)) (pc := 168) (by decide +kernel) ⟨by omega, by omega⟩ ?_
  refine cw_iconst (x := (-1)) (pc := 169) (by decide +kernel) ⟨by omega, by omega⟩ ?_
  refine cw_iast (z := 135) (i := 2) (N := 4) (x := (-1)) (pc := 170) (by decide +kernel) (by decide +kernel) (by omega) (by omega) ?_
  refine cw_dup (pc := 171) (by decide +kernel) (fun x h => by cases h) ?_
  refine cw_iconst (x := ((3 : Nat) : Int)) (pc := 172) (by decide +kernel) ⟨by omega, by omega⟩ ?_
  refine cw_iconst (x := (-1)) (pc := 173) (by decide +kernel) ⟨by omega, by omega⟩ ?_
  refine cw_iast (z := 135) (i := 3) (N := 4) (x := (-1)) (pc := 174) (by decide +kernel) (by decide +kernel) (by omega) (by omega) ?_
  refine cw_putf (ix := 72) (ci := 12) (j := 32) (z := 117) (x := ((135 : Nat) : Int)) (q := (RC12, TC12, 35)) (pc := 175) (by decide +kernel) (by decide +kernel) (by omega) rfl (by decide) (tb_in (i := 6168) (by decide +kernel)) rfl rfl rfl trivial ?_
  refine cw_aload (k := 0) (i := 0) (pc := 178) (by decide +kernel) rfl rfl ?_
  refine cw_iconst (x := ((4 : Nat) : Int)) (pc := 179) (by decide +kernel) ⟨by omega, by omega⟩ ?_
  refine cw_newa (aty := .int) (ty := .int) (N := 4) (n := 136) (cl := 18) (sl := 252924) (pc := 180) (by decide +kernel) rfl (Or.inl rfl) (by decide +kernel) (tb_in (i := 1074) (by decide +kernel)) (by omega) (by omega) (by omega) ?_
  exact kk
set_option maxRecDepth 20000 in
theorem i_Md_4 {RC : RCt} (hd : 1 ≤ d) (kk : CW G d mi_Md_init 20 253088 RC 194 [some (vr ((117 : Nat) : Int))] [] 138 mMd_5 20 253088) : CW G d mi_Md_init 20 253088 RC 182 [some (vr ((117 : Nat) : Int))] [vr ((136 : Nat) : Int), vr ((117 : Nat) : Int)] 137 mMd_4 19 252928 := by
  refine cw_putf (ix := 75) (ci := 12) (j := 33) (z := 117) (x := ((136 : Nat) : Int)) (q := (RC12, TC12, 35)) (pc := 182) (by decide +kernel) (by decide +kernel) (by omega) rfl (by decide) (tb_in (i := 6169) (by decide +kernel)) rfl rfl rfl trivial ?_
  refine cw_aload (k := 0) (i := 0) (pc := 185) (by decide +kernel) rfl rfl ?_
  refine cw_sipush (x := ((160 : Nat) : Int)) (pc := 186) (by decide +kernel) (by omega) (by omega) ?_
  refine cw_newa (aty := .long) (ty := .long) (N := 160) (n := 137) (cl := 19) (sl := 252928) (pc := 189) (by decide +kernel) rfl (Or.inr (Or.inl rfl)) (by decide +kernel) (tb_in (i := 2128) (by decide +kernel)) (by omega) (by omega) (by omega) ?_
  refine cw_putf (ix := 78) (ci := 12) (j := 34) (z := 117) (x := ((137 : Nat) : Int)) (q := (RC12, TC12, 35)) (pc := 191) (by decide +kernel) (by decide +kernel) (by omega) rfl (by decide) (tb_in (i := 6170) (by decide +kernel)) rfl rfl rfl trivial ?_
  exact kk
end XF
