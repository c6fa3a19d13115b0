section XF
variable {G : AG} {d : Nat}
def mH_0 : AM := D0
def mH_1 : AM := (up (mHa 16 (up (mHa 7 (up (mRd 2 (up mH_0 ((0 : Nat) : Int) ((0 : Nat) : Int) ((1 : Nat) : Int))) ((0 : Nat) : Int) ((2 : Nat) : Int) ((2 : Nat) : Int))) ((0 : Nat) : Int) ((3 : Nat) : Int) ((7 : Nat) : Int))) ((0 : Nat) : Int) ((4 : Nat) : Int) ((16 : Nat) : Int))
def mH_2 : AM := (up (up (up (up (up (mMo 27 (up (mMo 25 mH_1) ((0 : Nat) : Int) ((5 : Nat) : Int) ((25 : Nat) : Int))) ((0 : Nat) : Int) ((6 : Nat) : Int) ((27 : Nat) : Int)) ((0 : Nat) : Int) ((7 : Nat) : Int) ((29 : Nat) : Int)) ((0 : Nat) : Int) ((9 : Nat) : Int) ((30 : Nat) : Int)) ((0 : Nat) : Int) ((10 : Nat) : Int) ((31 : Nat) : Int)) ((0 : Nat) : Int) ((11 : Nat) : Int) ((32 : Nat) : Int))
def mH_3 : AM := (up (mRo 56 (up (mDu 53 (up (mWk 49 (up (mWa 43 (up (mSt 33 mH_2) ((0 : Nat) : Int) ((13 : Nat) : Int) ((33 : Nat) : Int))) ((0 : Nat) : Int) ((14 : Nat) : Int) ((43 : Nat) : Int))) ((0 : Nat) : Int) ((15 : Nat) : Int) ((49 : Nat) : Int))) ((0 : Nat) : Int) ((16 : Nat) : Int) ((53 : Nat) : Int))) ((0 : Nat) : Int) ((17 : Nat) : Int) ((56 : Nat) : Int))
def mH_4 : AM := (up (mMo 67 mH_3) ((29 : Nat) : Int) ((0 : Nat) : Int) ((67 : Nat) : Int))
def mH_5 : AM := (up (mMo 71 (up (mMo 69 mH_4) ((29 : Nat) : Int) ((1 : Nat) : Int) ((69 : Nat) : Int))) ((29 : Nat) : Int) ((2 : Nat) : Int) ((71 : Nat) : Int))
def mH_6 : AM := (up (mMo 75 (up (mMo 73 mH_5) ((29 : Nat) : Int) ((3 : Nat) : Int) ((73 : Nat) : Int))) ((29 : Nat) : Int) ((4 : Nat) : Int) ((75 : Nat) : Int))
def mH_7 : AM := (up (mMo 77 mH_6) ((29 : Nat) : Int) ((5 : Nat) : Int) ((77 : Nat) : Int))
def mH_8 : AM := (up (mMo 81 (up (mMo 79 mH_7) ((29 : Nat) : Int) ((6 : Nat) : Int) ((79 : Nat) : Int))) ((29 : Nat) : Int) ((7 : Nat) : Int) ((81 : Nat) : Int))
def mH_9 : AM := (up (mMo 83 mH_8) ((29 : Nat) : Int) ((8 : Nat) : Int) ((83 : Nat) : Int))
def mH_10 : AM := (up (mTr 87 (up (mMo 85 mH_9) ((29 : Nat) : Int) ((9 : Nat) : Int) ((85 : Nat) : Int))) ((30 : Nat) : Int) ((0 : Nat) : Int) ((87 : Nat) : Int))
def mH_11 : AM := (up (mTr 89 mH_10) ((30 : Nat) : Int) ((1 : Nat) : Int) ((89 : Nat) : Int))
def mH_12 : AM := (up (mTr 93 (up (mTr 91 mH_11) ((30 : Nat) : Int) ((2 : Nat) : Int) ((91 : Nat) : Int))) ((30 : Nat) : Int) ((3 : Nat) : Int) ((93 : Nat) : Int))
def mH_13 : AM := (up (mMo 104 (up (mHa 95 mH_12) ((31 : Nat) : Int) ((0 : Nat) : Int) ((95 : Nat) : Int))) ((32 : Nat) : Int) ((0 : Nat) : Int) ((104 : Nat) : Int))
def mH_14 : AM := (up (mMo 115 (up (mHa 106 mH_13) ((31 : Nat) : Int) ((1 : Nat) : Int) ((106 : Nat) : Int))) ((32 : Nat) : Int) ((1 : Nat) : Int) ((115 : Nat) : Int))
def mH_15 : AM := mH_14
def mH_E : AM := mH_15
set_option maxRecDepth 20000 in
theorem i_H_0 {RC : RCt} (hd : 3 ≤ d) (kk : CW G d mi_H_init 116 92656 RC 51 [some (vr ((0 : Nat) : Int)), none] [vr ((25 : Nat) : Int), vr ((25 : Nat) : Int), vr ((0 : Nat) : Int)] 26 mH_1 25 7488) : CW G d mi_H_init 116 92656 RC 0 [some (vr ((0 : Nat) : Int)), none] [] 1 mH_0 0 0 := by
  refine cw_aload (k := 0) (i := 0) (pc := 0) (by decide +kernel) rfl rfl ?_
  refine cw_obj (ix := 1) (a := 0) (pc := 1) (by decide +kernel) (tb_in (i := 1028) (by decide +kernel)) (tb_in (i := 1029) (by decide +kernel)) (tb_in (i := 1030) (by decide +kernel)) trivial (by omega) ?_
  refine cw_aload (k := 0) (i := 0) (pc := 4) (by decide +kernel) rfl rfl ?_
  refine cw_sipush (x := ((900 : Nat) : Int)) (pc := 5) (by decide +kernel) (by omega) (by omega) ?_
  refine cw_newa (aty := .byte) (ty := .byte) (N := 900) (n := 1) (cl := 0) (sl := 0) (pc := 8) (by decide +kernel) rfl (Or.inr (Or.inr (Or.inl rfl))) (by decide +kernel) (tb_in (i := 1073) (by decide +kernel)) (by omega) (by omega) (by omega) ?_
  refine cw_putf (ix := 9) (ci := 0) (j := 0) (z := 0) (x := ((1 : Nat) : Int)) (q := (RC0, TC0, 18)) (pc := 10) (by decide +kernel) (by decide +kernel) (by omega) rfl (by decide) (tb_in (i := 2164) (by decide +kernel)) rfl rfl rfl trivial ?_
  refine cw_aload (k := 0) (i := 0) (pc := 13) (by decide +kernel) rfl rfl ?_
  refine cw_new (ix := 13) (ci := 1) (q := (RC1, TC1, 11)) (n := 2) (cl := 1) (sl := 900) (pc := 14) (by decide +kernel) (by decide +kernel) rfl (tb_in (i := 1031) (by decide +kernel)) (tb_in (i := 1032) (by decide +kernel)) (tb_in (i := 1002) (by decide +kernel)) (by decide) (by decide) ?_
  refine cw_dup (pc := 17) (by decide +kernel) (fun x h => by cases h) ?_
  refine cw_init (ix := 15) (mi2 := mi_Rd_init) (z := 2) (n := 3) (n' := 7) (mc2 := 4) (ms2 := 2703) (M' := mRd 2 _) (cl := 2) (sl := 911) (pc := 18) (by decide +kernel) (i_Rd (by omega) (by decide +kernel) (by decide +kernel) (by decide +kernel) (by decide +kernel) (by decide +kernel)) (Or.inr ⟨"HandsHeld", tbN_in (i := 1033) (by decide +kernel)⟩) (tb_in (i := 1034) (by decide +kernel)) (tb_in (i := 1002) (by decide +kernel)) rfl nm_Rd (by decide) trivial (by omega) rfl (by decide) (by decide) ?_
  refine cw_putf (ix := 16) (ci := 0) (j := 2) (z := 0) (x := ((2 : Nat) : Int)) (q := (RC0, TC0, 18)) (pc := 21) (by decide +kernel) (by decide +kernel) (by omega) rfl (by decide) (tb_in (i := 2166) (by decide +kernel)) rfl rfl rfl trivial ?_
  refine cw_aload (k := 0) (i := 0) (pc := 24) (by decide +kernel) rfl rfl ?_
  refine cw_new (ix := 20) (ci := 2) (q := (RC2, TC2, 12)) (n := 7) (cl := 6) (sl := 3614) (pc := 25) (by decide +kernel) (by decide +kernel) rfl (tb_in (i := 1075) (by decide +kernel)) (tb_in (i := 1076) (by decide +kernel)) (tb_in (i := 1003) (by decide +kernel)) (by decide) (by decide) ?_
  refine cw_dup (pc := 28) (by decide +kernel) (fun x h => by cases h) ?_
  refine cw_init (ix := 22) (mi2 := mi_Ha_init) (z := 7) (n := 8) (n' := 16) (mc2 := 8) (ms2 := 1923) (M' := mHa 7 _) (cl := 7) (sl := 3626) (pc := 29) (by decide +kernel) (i_Ha (by omega) (by decide +kernel) (by decide +kernel) (by decide +kernel) (by decide +kernel) (by decide +kernel) (by decide +kernel) (by decide +kernel) (by decide +kernel) (by decide +kernel)) (Or.inr ⟨"HandsHeld", tbN_in (i := 1077) (by decide +kernel)⟩) (tb_in (i := 1078) (by decide +kernel)) (tb_in (i := 1003) (by decide +kernel)) rfl nm_Ha (by decide) trivial (by omega) rfl (by decide) (by decide) ?_
  refine cw_putn (ix := 23) (ci := 0) (j := 3) (z := 0) (x := ((7 : Nat) : Int)) (q := (RC0, TC0, 18)) (pc := 32) (by decide +kernel) (by decide +kernel) (by omega) rfl (by decide) (tb_in (i := 2167) (by decide +kernel)) rfl trivial ?_
  refine cw_aload (k := 0) (i := 0) (pc := 35) (by decide +kernel) rfl rfl ?_
  refine cw_new (ix := 20) (ci := 2) (q := (RC2, TC2, 12)) (n := 16) (cl := 15) (sl := 5549) (pc := 36) (by decide +kernel) (by decide +kernel) rfl (tb_in (i := 1075) (by decide +kernel)) (tb_in (i := 1076) (by decide +kernel)) (tb_in (i := 1003) (by decide +kernel)) (by decide) (by decide) ?_
  refine cw_dup (pc := 39) (by decide +kernel) (fun x h => by cases h) ?_
  refine cw_init (ix := 22) (mi2 := mi_Ha_init) (z := 16) (n := 17) (n' := 25) (mc2 := 8) (ms2 := 1923) (M' := mHa 16 _) (cl := 16) (sl := 5561) (pc := 40) (by decide +kernel) (i_Ha (by omega) (by decide +kernel) (by decide +kernel) (by decide +kernel) (by decide +kernel) (by decide +kernel) (by decide +kernel) (by decide +kernel) (by decide +kernel) (by decide +kernel)) (Or.inr ⟨"HandsHeld", tbN_in (i := 1077) (by decide +kernel)⟩) (tb_in (i := 1078) (by decide +kernel)) (tb_in (i := 1003) (by decide +kernel)) rfl nm_Ha (by decide) trivial (by omega) rfl (by decide) (by decide) ?_
  refine cw_putn (ix := 27) (ci := 0) (j := 4) (z := 0) (x := ((16 : Nat) : Int)) (q := (RC0, TC0, 18)) (pc := 43) (by decide +kernel) (by decide +kernel) (by omega) rfl (by decide) (tb_in (i := 2168) (by decide +kernel)) rfl trivial ?_
  refine cw_aload (k := 0) (i := 0) (pc := 46) (by decide +kernel) rfl rfl ?_
  refine cw_new (ix := 30) (ci := 4) (q := (RC4, TC4, 4)) (n := 25) (cl := 24) (sl := 7484) (pc := 47) (by decide +kernel) (by decide +kernel) rfl (tb_in (i := 1153) (by decide +kernel)) (tb_in (i := 1154) (by decide +kernel)) (tb_in (i := 1005) (by decide +kernel)) (by decide) (by decide) ?_
  refine cw_dup (pc := 50) (by decide +kernel) (fun x h => by cases h) ?_
  exact kk
set_option maxRecDepth 20000 in
theorem i_H_1 {RC : RCt} (hd : 3 ≤ d) (kk : CW G d mi_H_init 116 92656 RC 102 [some (vr ((0 : Nat) : Int)), none] [vr ((0 : Nat) : Int)] 33 mH_2 32 7520) : CW G d mi_H_init 116 92656 RC 51 [some (vr ((0 : Nat) : Int)), none] [vr ((25 : Nat) : Int), vr ((25 : Nat) : Int), vr ((0 : Nat) : Int)] 26 mH_1 25 7488 := by
  refine cw_init (ix := 32) (mi2 := mi_Mo_init) (z := 25) (n := 26) (n' := 27) (mc2 := 1) (ms2 := 5) (M' := mMo 25 _) (cl := 25) (sl := 7488) (pc := 51) (by decide +kernel) (i_Mo (by omega) (by decide +kernel) (by decide +kernel)) (Or.inr ⟨"HandsHeld", tbN_in (i := 1155) (by decide +kernel)⟩) (tb_in (i := 1156) (by decide +kernel)) (tb_in (i := 1005) (by decide +kernel)) rfl nm_Mo (by decide) trivial (by omega) rfl (by decide) (by decide) ?_
  refine cw_putf (ix := 33) (ci := 0) (j := 5) (z := 0) (x := ((25 : Nat) : Int)) (q := (RC0, TC0, 18)) (pc := 54) (by decide +kernel) (by decide +kernel) (by omega) rfl (by decide) (tb_in (i := 2169) (by decide +kernel)) rfl rfl rfl trivial ?_
  refine cw_aload (k := 0) (i := 0) (pc := 57) (by decide +kernel) rfl rfl ?_
  refine cw_new (ix := 30) (ci := 4) (q := (RC4, TC4, 4)) (n := 27) (cl := 26) (sl := 7493) (pc := 58) (by decide +kernel) (by decide +kernel) rfl (tb_in (i := 1153) (by decide +kernel)) (tb_in (i := 1154) (by decide +kernel)) (tb_in (i := 1005) (by decide +kernel)) (by decide) (by decide) ?_
  refine cw_dup (pc := 61) (by decide +kernel) (fun x h => by cases h) ?_
  refine cw_init (ix := 32) (mi2 := mi_Mo_init) (z := 27) (n := 28) (n' := 29) (mc2 := 1) (ms2 := 5) (M' := mMo 27 _) (cl := 27) (sl := 7497) (pc := 62) (by decide +kernel) (i_Mo (by omega) (by decide +kernel) (by decide +kernel)) (Or.inr ⟨"HandsHeld", tbN_in (i := 1155) (by decide +kernel)⟩) (tb_in (i := 1156) (by decide +kernel)) (tb_in (i := 1005) (by decide +kernel)) rfl nm_Mo (by decide) trivial (by omega) rfl (by decide) (by decide) ?_
  refine cw_putf (ix := 37) (ci := 0) (j := 6) (z := 0) (x := ((27 : Nat) : Int)) (q := (RC0, TC0, 18)) (pc := 65) (by decide +kernel) (by decide +kernel) (by omega) rfl (by decide) (tb_in (i := 2170) (by decide +kernel)) rfl rfl rfl trivial ?_
  refine cw_aload (k := 0) (i := 0) (pc := 68) (by decide +kernel) rfl rfl ?_
  refine cw_bipush (x := ((10 : Nat) : Int)) (pc := 69) (by decide +kernel) (by omega) (by omega) ?_
  refine cw_newq (ix := 30) (C := "HandsHeld$Moment") (N := 10) (n := 29) (cl := 28) (sl := 7502) (pc := 71) (by decide +kernel) (by decide +kernel) (tb_in (i := 1153) (by decide +kernel)) (Or.inr (Or.inl rfl)) (by omega) (by omega) (by omega) ?_
  refine cw_putf (ix := 40) (ci := 0) (j := 7) (z := 0) (x := ((29 : Nat) : Int)) (q := (RC0, TC0, 18)) (pc := 74) (by decide +kernel) (by decide +kernel) (by omega) rfl (by decide) (tb_in (i := 2171) (by decide +kernel)) rfl rfl rfl trivial ?_
  refine cw_aload (k := 0) (i := 0) (pc := 77) (by decide +kernel) rfl rfl ?_
  refine cw_iconst (x := ((4 : Nat) : Int)) (pc := 78) (by decide +kernel) ⟨by omega, by omega⟩ ?_
  refine cw_newq (ix := 44) (C := "HandsHeld$Tray") (N := 4) (n := 30) (cl := 29) (sl := 7512) (pc := 79) (by decide +kernel) (by decide +kernel) (tb_in (i := 1183) (by decide +kernel)) (Or.inr (Or.inr rfl)) (by omega) (by omega) (by omega) ?_
  refine cw_putf (ix := 46) (ci := 0) (j := 9) (z := 0) (x := ((30 : Nat) : Int)) (q := (RC0, TC0, 18)) (pc := 82) (by decide +kernel) (by decide +kernel) (by omega) rfl (by decide) (tb_in (i := 2173) (by decide +kernel)) rfl rfl rfl trivial ?_
  refine cw_aload (k := 0) (i := 0) (pc := 85) (by decide +kernel) rfl rfl ?_
  refine cw_iconst (x := ((2 : Nat) : Int)) (pc := 86) (by decide +kernel) ⟨by omega, by omega⟩ ?_
  refine cw_newq (ix := 20) (C := "HandsHeld$Hall") (N := 2) (n := 31) (cl := 30) (sl := 7516) (pc := 87) (by decide +kernel) (by decide +kernel) (tb_in (i := 1075) (by decide +kernel)) (Or.inl rfl) (by omega) (by omega) (by omega) ?_
  refine cw_putf (ix := 50) (ci := 0) (j := 10) (z := 0) (x := ((31 : Nat) : Int)) (q := (RC0, TC0, 18)) (pc := 90) (by decide +kernel) (by decide +kernel) (by omega) rfl (by decide) (tb_in (i := 2174) (by decide +kernel)) rfl rfl rfl trivial ?_
  refine cw_aload (k := 0) (i := 0) (pc := 93) (by decide +kernel) rfl rfl ?_
  refine cw_iconst (x := ((2 : Nat) : Int)) (pc := 94) (by decide +kernel) ⟨by omega, by omega⟩ ?_
  refine cw_newq (ix := 30) (C := "HandsHeld$Moment") (N := 2) (n := 32) (cl := 31) (sl := 7518) (pc := 95) (by decide +kernel) (by decide +kernel) (tb_in (i := 1153) (by decide +kernel)) (Or.inr (Or.inl rfl)) (by omega) (by omega) (by omega) ?_
  refine cw_putf (ix := 54) (ci := 0) (j := 11) (z := 0) (x := ((32 : Nat) : Int)) (q := (RC0, TC0, 18)) (pc := 98) (by decide +kernel) (by decide +kernel) (by omega) rfl (by decide) (tb_in (i := 2175) (by decide +kernel)) rfl rfl rfl trivial ?_
  refine cw_aload (k := 0) (i := 0) (pc := 101) (by decide +kernel) rfl rfl ?_
  exact kk
set_option maxRecDepth 20000 in
theorem i_H_2 {RC : RCt} (hd : 3 ≤ d) (kk : CW G d mi_H_init 116 92656 RC 156 [some (vr ((0 : Nat) : Int)), none] [] 67 mH_3 66 88506) : CW G d mi_H_init 116 92656 RC 102 [some (vr ((0 : Nat) : Int)), none] [vr ((0 : Nat) : Int)] 33 mH_2 32 7520 := by
  refine cw_new (ix := 57) (ci := 5) (q := (RC5, TC5, 20)) (n := 33) (cl := 32) (sl := 7520) (pc := 102) (by decide +kernel) (by decide +kernel) rfl (tb_in (i := 1186) (by decide +kernel)) (tb_in (i := 1187) (by decide +kernel)) (tb_in (i := 1006) (by decide +kernel)) (by decide) (by decide) ?_
  refine cw_dup (pc := 105) (by decide +kernel) (fun x h => by cases h) ?_
  refine cw_init (ix := 59) (mi2 := mi_St_init) (z := 33) (n := 34) (n' := 43) (mc2 := 9) (ms2 := 5927) (M' := mSt 33 _) (cl := 33) (sl := 7540) (pc := 106) (by decide +kernel) (i_St (by omega) (by decide +kernel) (by decide +kernel) (by decide +kernel) (by decide +kernel) (by decide +kernel) (by decide +kernel) (by decide +kernel) (by decide +kernel) (by decide +kernel) (by decide +kernel)) (Or.inr ⟨"HandsHeld", tbN_in (i := 1188) (by decide +kernel)⟩) (tb_in (i := 1189) (by decide +kernel)) (tb_in (i := 1006) (by decide +kernel)) rfl nm_St (by decide) trivial (by omega) rfl (by decide) (by decide) ?_
  refine cw_putf (ix := 60) (ci := 0) (j := 13) (z := 0) (x := ((33 : Nat) : Int)) (q := (RC0, TC0, 18)) (pc := 109) (by decide +kernel) (by decide +kernel) (by omega) rfl (by decide) (tb_in (i := 2177) (by decide +kernel)) rfl rfl rfl trivial ?_
  refine cw_aload (k := 0) (i := 0) (pc := 112) (by decide +kernel) rfl rfl ?_
  refine cw_new (ix := 64) (ci := 6) (q := (RC6, TC6, 7)) (n := 43) (cl := 42) (sl := 13467) (pc := 113) (by decide +kernel) (by decide +kernel) rfl (tb_in (i := 2027) (by decide +kernel)) (tb_in (i := 2028) (by decide +kernel)) (tb_in (i := 1007) (by decide +kernel)) (by decide) (by decide) ?_
  refine cw_dup (pc := 116) (by decide +kernel) (fun x h => by cases h) ?_
  refine cw_init (ix := 66) (mi2 := mi_Wa_init) (z := 43) (n := 44) (n' := 49) (mc2 := 5) (ms2 := 15625) (M' := mWa 43 _) (cl := 43) (sl := 13474) (pc := 117) (by decide +kernel) (i_Wa (by omega) (by decide +kernel) (by decide +kernel) (by decide +kernel) (by decide +kernel) (by decide +kernel) (by decide +kernel)) (Or.inr ⟨"HandsHeld", tbN_in (i := 2029) (by decide +kernel)⟩) (tb_in (i := 2030) (by decide +kernel)) (tb_in (i := 1007) (by decide +kernel)) rfl nm_Wa (by decide) trivial (by omega) rfl (by decide) (by decide) ?_
  refine cw_putf (ix := 67) (ci := 0) (j := 14) (z := 0) (x := ((43 : Nat) : Int)) (q := (RC0, TC0, 18)) (pc := 120) (by decide +kernel) (by decide +kernel) (by omega) rfl (by decide) (tb_in (i := 2178) (by decide +kernel)) rfl rfl rfl trivial ?_
  refine cw_aload (k := 0) (i := 0) (pc := 123) (by decide +kernel) rfl rfl ?_
  refine cw_new (ix := 71) (ci := 7) (q := (RC7, TC7, 5)) (n := 49) (cl := 48) (sl := 29099) (pc := 124) (by decide +kernel) (by decide +kernel) rfl (tb_in (i := 2055) (by decide +kernel)) (tb_in (i := 2056) (by decide +kernel)) (tb_in (i := 1008) (by decide +kernel)) (by decide) (by decide) ?_
  refine cw_dup (pc := 127) (by decide +kernel) (fun x h => by cases h) ?_
  refine cw_init (ix := 73) (mi2 := mi_Wk_init) (z := 49) (n := 50) (n' := 53) (mc2 := 3) (ms2 := 9375) (M' := mWk 49 _) (cl := 49) (sl := 29104) (pc := 128) (by decide +kernel) (i_Wk (by omega) (by decide +kernel) (by decide +kernel) (by decide +kernel) (by decide +kernel)) (Or.inr ⟨"HandsHeld", tbN_in (i := 2057) (by decide +kernel)⟩) (tb_in (i := 2058) (by decide +kernel)) (tb_in (i := 1008) (by decide +kernel)) rfl nm_Wk (by decide) trivial (by omega) rfl (by decide) (by decide) ?_
  refine cw_putf (ix := 74) (ci := 0) (j := 15) (z := 0) (x := ((49 : Nat) : Int)) (q := (RC0, TC0, 18)) (pc := 131) (by decide +kernel) (by decide +kernel) (by omega) rfl (by decide) (tb_in (i := 2179) (by decide +kernel)) rfl rfl rfl trivial ?_
  refine cw_aload (k := 0) (i := 0) (pc := 134) (by decide +kernel) rfl rfl ?_
  refine cw_new (ix := 78) (ci := 8) (q := (RC8, TC8, 4)) (n := 53) (cl := 52) (sl := 38479) (pc := 135) (by decide +kernel) (by decide +kernel) rfl (tb_in (i := 2080) (by decide +kernel)) (tb_in (i := 2081) (by decide +kernel)) (tb_in (i := 1009) (by decide +kernel)) (by decide) (by decide) ?_
  refine cw_dup (pc := 138) (by decide +kernel) (fun x h => by cases h) ?_
  refine cw_init (ix := 80) (mi2 := mi_Du_init) (z := 53) (n := 54) (n' := 56) (mc2 := 2) (ms2 := 6250) (M' := mDu 53 _) (cl := 53) (sl := 38483) (pc := 139) (by decide +kernel) (i_Du (by omega) (by decide +kernel) (by decide +kernel) (by decide +kernel)) (Or.inr ⟨"HandsHeld", tbN_in (i := 2082) (by decide +kernel)⟩) (tb_in (i := 2083) (by decide +kernel)) (tb_in (i := 1009) (by decide +kernel)) rfl nm_Du (by decide) trivial (by omega) rfl (by decide) (by decide) ?_
  refine cw_putf (ix := 81) (ci := 0) (j := 16) (z := 0) (x := ((53 : Nat) : Int)) (q := (RC0, TC0, 18)) (pc := 142) (by decide +kernel) (by decide +kernel) (by omega) rfl (by decide) (tb_in (i := 2180) (by decide +kernel)) rfl rfl rfl trivial ?_
  refine cw_aload (k := 0) (i := 0) (pc := 145) (by decide +kernel) rfl rfl ?_
  refine cw_new (ix := 85) (ci := 9) (q := (RC9, TC9, 5)) (n := 56) (cl := 55) (sl := 44733) (pc := 146) (by decide +kernel) (by decide +kernel) rfl (tb_in (i := 2099) (by decide +kernel)) (tb_in (i := 2100) (by decide +kernel)) (tb_in (i := 1010) (by decide +kernel)) (by decide) (by decide) ?_
  refine cw_dup (pc := 149) (by decide +kernel) (fun x h => by cases h) ?_
  refine cw_init (ix := 87) (mi2 := mi_Ro_init) (z := 56) (n := 57) (n' := 67) (mc2 := 10) (ms2 := 43768) (M' := mRo 56 _) (cl := 56) (sl := 44738) (pc := 150) (by decide +kernel) (i_Ro (by omega) (by decide +kernel) (by decide +kernel) (by decide +kernel) (by decide +kernel) (by decide +kernel) (by decide +kernel) (by decide +kernel) (by decide +kernel) (by decide +kernel) (by decide +kernel) (by decide +kernel)) (Or.inr ⟨"HandsHeld", tbN_in (i := 2101) (by decide +kernel)⟩) (tb_in (i := 2102) (by decide +kernel)) (tb_in (i := 1010) (by decide +kernel)) rfl nm_Ro (by decide) trivial (by omega) rfl (by decide) (by decide) ?_
  refine cw_putf (ix := 88) (ci := 0) (j := 17) (z := 0) (x := ((56 : Nat) : Int)) (q := (RC0, TC0, 18)) (pc := 153) (by decide +kernel) (by decide +kernel) (by omega) rfl (by decide) (tb_in (i := 2181) (by decide +kernel)) rfl rfl rfl trivial ?_
  exact kk
set_option maxRecDepth 20000 in
theorem i_H_3 {RC : RCt} (hd : 3 ≤ d) (kk : CW G d mi_H_init 116 92656 RC 172 [some (vr ((0 : Nat) : Int)), some (vi ((1 : Nat) : Int))] [vr ((69 : Nat) : Int), vi ((1 : Nat) : Int), vr ((29 : Nat) : Int)] 70 mH_4 69 88519) : CW G d mi_H_init 116 92656 RC 156 [some (vr ((0 : Nat) : Int)), none] [] 67 mH_3 66 88506 := by
  refine cw_iconst (x := ((0 : Nat) : Int)) (pc := 156) (by decide +kernel) ⟨by omega, by omega⟩ ?_
  refine cw_istore (k := 1) (i := 1) (a := ((0 : Nat) : Int)) (L := [some (vr ((0 : Nat) : Int)), none]) (pc := 157) (by decide +kernel) rfl (by decide) ?_
  refine cw_iload (k := 1) (i := 1) (pc := 158) (by decide +kernel) rfl rfl ?_
  refine cw_bipush (x := ((10 : Nat) : Int)) (pc := 159) (by decide +kernel) (by omega) (by omega) ?_
  refine cw_icmp_ge (o := 23) (t := 184) (pc := 161) (by decide +kernel) (by decide) (fun h => absurd h (by omega)) (fun _ => ?_)
  refine cw_aload (k := 0) (i := 0) (pc := 164) (by decide +kernel) rfl rfl ?_
  refine cw_get (ix := 40) (ci := 0) (j := 7) (z := 0) (q := (RC0, TC0, 18)) (v := ((29 : Nat) : Int)) (pc := 165) (by decide +kernel) (by decide +kernel) (by omega) rfl (by decide) (tb_in (i := 2171) (by decide +kernel)) (by decide +kernel) (fun _ => rfl) ?_
  refine cw_iload (k := 1) (i := 1) (pc := 168) (by decide +kernel) rfl rfl ?_
  refine cw_new (ix := 30) (ci := 4) (q := (RC4, TC4, 4)) (n := 67) (cl := 66) (sl := 88506) (pc := 169) (by decide +kernel) (by decide +kernel) rfl (tb_in (i := 1153) (by decide +kernel)) (tb_in (i := 1154) (by decide +kernel)) (tb_in (i := 1005) (by decide +kernel)) (by decide) (by decide) ?_
  refine cw_dup (pc := 172) (by decide +kernel) (fun x h => by cases h) ?_
  refine cw_init (ix := 32) (mi2 := mi_Mo_init) (z := 67) (n := 68) (n' := 69) (mc2 := 1) (ms2 := 5) (M' := mMo 67 _) (cl := 67) (sl := 88510) (pc := 173) (by decide +kernel) (i_Mo (by omega) (by decide +kernel) (by decide +kernel)) (Or.inr ⟨"HandsHeld", tbN_in (i := 1155) (by decide +kernel)⟩) (tb_in (i := 1156) (by decide +kernel)) (tb_in (i := 1005) (by decide +kernel)) rfl nm_Mo (by decide) trivial (by omega) rfl (by decide) (by decide) ?_
  refine cw_aast (z := 29) (kx := 67) (i := 0) (N := 10) (ci := 4) (pc := 176) (by decide +kernel) (by decide +kernel) (by omega) (by decide +kernel) (by omega) (by omega) ?_
  refine cw_iload (k := 1) (i := 1) (pc := 177) (by decide +kernel) rfl rfl ?_
  refine cw_iconst (x := ((1 : Nat) : Int)) (pc := 178) (by decide +kernel) ⟨by omega, by omega⟩ ?_
  refine cw_iadd (a := ((0 : Nat) : Int)) (b := ((1 : Nat) : Int)) (pc := 179) (by decide +kernel) ⟨by omega, by omega⟩ ?_
  refine cw_istore (k := 1) (i := 1) (a := ((1 : Nat) : Int)) (L := [some (vr ((0 : Nat) : Int)), some (vi ((0 : Nat) : Int))]) (pc := 180) (by decide +kernel) rfl (by decide) ?_
  refine cw_goto (o := -23) (t := 158) (pc := 181) (by decide +kernel) (by decide) ?_
  refine cw_iload (k := 1) (i := 1) (pc := 158) (by decide +kernel) rfl rfl ?_
  refine cw_bipush (x := ((10 : Nat) : Int)) (pc := 159) (by decide +kernel) (by omega) (by omega) ?_
  refine cw_icmp_ge (o := 23) (t := 184) (pc := 161) (by decide +kernel) (by decide) (fun h => absurd h (by omega)) (fun _ => ?_)
  refine cw_aload (k := 0) (i := 0) (pc := 164) (by decide +kernel) rfl rfl ?_
  refine cw_get (ix := 40) (ci := 0) (j := 7) (z := 0) (q := (RC0, TC0, 18)) (v := ((29 : Nat) : Int)) (pc := 165) (by decide +kernel) (by decide +kernel) (by omega) rfl (by decide) (tb_in (i := 2171) (by decide +kernel)) (by decide +kernel) (fun _ => rfl) ?_
  refine cw_iload (k := 1) (i := 1) (pc := 168) (by decide +kernel) rfl rfl ?_
  refine cw_new (ix := 30) (ci := 4) (q := (RC4, TC4, 4)) (n := 69) (cl := 68) (sl := 88515) (pc := 169) (by decide +kernel) (by decide +kernel) rfl (tb_in (i := 1153) (by decide +kernel)) (tb_in (i := 1154) (by decide +kernel)) (tb_in (i := 1005) (by decide +kernel)) (by decide) (by decide) ?_
  exact kk
set_option maxRecDepth 20000 in
theorem i_H_4 {RC : RCt} (hd : 3 ≤ d) (kk : CW G d mi_H_init 116 92656 RC 159 [some (vr ((0 : Nat) : Int)), some (vi ((3 : Nat) : Int))] [vi ((3 : Nat) : Int)] 73 mH_5 72 88533) : CW G d mi_H_init 116 92656 RC 172 [some (vr ((0 : Nat) : Int)), some (vi ((1 : Nat) : Int))] [vr ((69 : Nat) : Int), vi ((1 : Nat) : Int), vr ((29 : Nat) : Int)] 70 mH_4 69 88519 := by
  refine cw_dup (pc := 172) (by decide +kernel) (fun x h => by cases h) ?_
  refine cw_init (ix := 32) (mi2 := mi_Mo_init) (z := 69) (n := 70) (n' := 71) (mc2 := 1) (ms2 := 5) (M' := mMo 69 _) (cl := 69) (sl := 88519) (pc := 173) (by decide +kernel) (i_Mo (by omega) (by decide +kernel) (by decide +kernel)) (Or.inr ⟨"HandsHeld", tbN_in (i := 1155) (by decide +kernel)⟩) (tb_in (i := 1156) (by decide +kernel)) (tb_in (i := 1005) (by decide +kernel)) rfl nm_Mo (by decide) trivial (by omega) rfl (by decide) (by decide) ?_
  refine cw_aast (z := 29) (kx := 69) (i := 1) (N := 10) (ci := 4) (pc := 176) (by decide +kernel) (by decide +kernel) (by omega) (by decide +kernel) (by omega) (by omega) ?_
  refine cw_iload (k := 1) (i := 1) (pc := 177) (by decide +kernel) rfl rfl ?_
  refine cw_iconst (x := ((1 : Nat) : Int)) (pc := 178) (by decide +kernel) ⟨by omega, by omega⟩ ?_
  refine cw_iadd (a := ((1 : Nat) : Int)) (b := ((1 : Nat) : Int)) (pc := 179) (by decide +kernel) ⟨by omega, by omega⟩ ?_
  refine cw_istore (k := 1) (i := 1) (a := ((2 : Nat) : Int)) (L := [some (vr ((0 : Nat) : Int)), some (vi ((1 : Nat) : Int))]) (pc := 180) (by decide +kernel) rfl (by decide) ?_
  refine cw_goto (o := -23) (t := 158) (pc := 181) (by decide +kernel) (by decide) ?_
  refine cw_iload (k := 1) (i := 1) (pc := 158) (by decide +kernel) rfl rfl ?_
  refine cw_bipush (x := ((10 : Nat) : Int)) (pc := 159) (by decide +kernel) (by omega) (by omega) ?_
  refine cw_icmp_ge (o := 23) (t := 184) (pc := 161) (by decide +kernel) (by decide) (fun h => absurd h (by omega)) (fun _ => ?_)
  refine cw_aload (k := 0) (i := 0) (pc := 164) (by decide +kernel) rfl rfl ?_
  refine cw_get (ix := 40) (ci := 0) (j := 7) (z := 0) (q := (RC0, TC0, 18)) (v := ((29 : Nat) : Int)) (pc := 165) (by decide +kernel) (by decide +kernel) (by omega) rfl (by decide) (tb_in (i := 2171) (by decide +kernel)) (by decide +kernel) (fun _ => rfl) ?_
  refine cw_iload (k := 1) (i := 1) (pc := 168) (by decide +kernel) rfl rfl ?_
  refine cw_new (ix := 30) (ci := 4) (q := (RC4, TC4, 4)) (n := 71) (cl := 70) (sl := 88524) (pc := 169) (by decide +kernel) (by decide +kernel) rfl (tb_in (i := 1153) (by decide +kernel)) (tb_in (i := 1154) (by decide +kernel)) (tb_in (i := 1005) (by decide +kernel)) (by decide) (by decide) ?_
  refine cw_dup (pc := 172) (by decide +kernel) (fun x h => by cases h) ?_
  refine cw_init (ix := 32) (mi2 := mi_Mo_init) (z := 71) (n := 72) (n' := 73) (mc2 := 1) (ms2 := 5) (M' := mMo 71 _) (cl := 71) (sl := 88528) (pc := 173) (by decide +kernel) (i_Mo (by omega) (by decide +kernel) (by decide +kernel)) (Or.inr ⟨"HandsHeld", tbN_in (i := 1155) (by decide +kernel)⟩) (tb_in (i := 1156) (by decide +kernel)) (tb_in (i := 1005) (by decide +kernel)) rfl nm_Mo (by decide) trivial (by omega) rfl (by decide) (by decide) ?_
  refine cw_aast (z := 29) (kx := 71) (i := 2) (N := 10) (ci := 4) (pc := 176) (by decide +kernel) (by decide +kernel) (by omega) (by decide +kernel) (by omega) (by omega) ?_
  refine cw_iload (k := 1) (i := 1) (pc := 177) (by decide +kernel) rfl rfl ?_
  refine cw_iconst (x := ((1 : Nat) : Int)) (pc := 178) (by decide +kernel) ⟨by omega, by omega⟩ ?_
  refine cw_iadd (a := ((2 : Nat) : Int)) (b := ((1 : Nat) : Int)) (pc := 179) (by decide +kernel) ⟨by omega, by omega⟩ ?_
  refine cw_istore (k := 1) (i := 1) (a := ((3 : Nat) : Int)) (L := [some (vr ((0 : Nat) : Int)), some (vi ((2 : Nat) : Int))]) (pc := 180) (by decide +kernel) rfl (by decide) ?_
  refine cw_goto (o := -23) (t := 158) (pc := 181) (by decide +kernel) (by decide) ?_
  refine cw_iload (k := 1) (i := 1) (pc := 158) (by decide +kernel) rfl rfl ?_
  exact kk
set_option maxRecDepth 20000 in
theorem i_H_5 {RC : RCt} (hd : 3 ≤ d) (kk : CW G d mi_H_init 116 92656 RC 177 [some (vr ((0 : Nat) : Int)), some (vi ((4 : Nat) : Int))] [] 77 mH_6 76 88551) : CW G d mi_H_init 116 92656 RC 159 [some (vr ((0 : Nat) : Int)), some (vi ((3 : Nat) : Int))] [vi ((3 : Nat) : Int)] 73 mH_5 72 88533 := by
  refine cw_bipush (x := ((10 : Nat) : Int)) (pc := 159) (by decide +kernel) (by omega) (by omega) ?_
  refine cw_icmp_ge (o := 23) (t := 184) (pc := 161) (by decide +kernel) (by decide) (fun h => absurd h (by omega)) (fun _ => ?_)
  refine cw_aload (k := 0) (i := 0) (pc := 164) (by decide +kernel) rfl rfl ?_
  refine cw_get (ix := 40) (ci := 0) (j := 7) (z := 0) (q := (RC0, TC0, 18)) (v := ((29 : Nat) : Int)) (pc := 165) (by decide +kernel) (by decide +kernel) (by omega) rfl (by decide) (tb_in (i := 2171) (by decide +kernel)) (by decide +kernel) (fun _ => rfl) ?_
  refine cw_iload (k := 1) (i := 1) (pc := 168) (by decide +kernel) rfl rfl ?_
  refine cw_new (ix := 30) (ci := 4) (q := (RC4, TC4, 4)) (n := 73) (cl := 72) (sl := 88533) (pc := 169) (by decide +kernel) (by decide +kernel) rfl (tb_in (i := 1153) (by decide +kernel)) (tb_in (i := 1154) (by decide +kernel)) (tb_in (i := 1005) (by decide +kernel)) (by decide) (by decide) ?_
  refine cw_dup (pc := 172) (by decide +kernel) (fun x h => by cases h) ?_
  refine cw_init (ix := 32) (mi2 := mi_Mo_init) (z := 73) (n := 74) (n' := 75) (mc2 := 1) (ms2 := 5) (M' := mMo 73 _) (cl := 73) (sl := 88537) (pc := 173) (by decide +kernel) (i_Mo (by omega) (by decide +kernel) (by decide +kernel)) (Or.inr ⟨"HandsHeld", tbN_in (i := 1155) (by decide +kernel)⟩) (tb_in (i := 1156) (by decide +kernel)) (tb_in (i := 1005) (by decide +kernel)) rfl nm_Mo (by decide) trivial (by omega) rfl (by decide) (by decide) ?_
  refine cw_aast (z := 29) (kx := 73) (i := 3) (N := 10) (ci := 4) (pc := 176) (by decide +kernel) (by decide +kernel) (by omega) (by decide +kernel) (by omega) (by omega) ?_
  refine cw_iload (k := 1) (i := 1) (pc := 177) (by decide +kernel) rfl rfl ?_
  refine cw_iconst (x := ((1 : Nat) : Int)) (pc := 178) (by decide +kernel) ⟨by omega, by omega⟩ ?_
  refine cw_iadd (a := ((3 : Nat) : Int)) (b := ((1 : Nat) : Int)) (pc := 179) (by decide +kernel) ⟨by omega, by omega⟩ ?_
  refine cw_istore (k := 1) (i := 1) (a := ((4 : Nat) : Int)) (L := [some (vr ((0 : Nat) : Int)), some (vi ((3 : Nat) : Int))]) (pc := 180) (by decide +kernel) rfl (by decide) ?_
  refine cw_goto (o := -23) (t := 158) (pc := 181) (by decide +kernel) (by decide) ?_
  refine cw_iload (k := 1) (i := 1) (pc := 158) (by decide +kernel) rfl rfl ?_
  refine cw_bipush (x := ((10 : Nat) : Int)) (pc := 159) (by decide +kernel) (by omega) (by omega) ?_
  refine cw_icmp_ge (o := 23) (t := 184) (pc := 161) (by decide +kernel) (by decide) (fun h => absurd h (by omega)) (fun _ => ?_)
  refine cw_aload (k := 0) (i := 0) (pc := 164) (by decide +kernel) rfl rfl ?_
  refine cw_get (ix := 40) (ci := 0) (j := 7) (z := 0) (q := (RC0, TC0, 18)) (v := ((29 : Nat) : Int)) (pc := 165) (by decide +kernel) (by decide +kernel) (by omega) rfl (by decide) (tb_in (i := 2171) (by decide +kernel)) (by decide +kernel) (fun _ => rfl) ?_
  refine cw_iload (k := 1) (i := 1) (pc := 168) (by decide +kernel) rfl rfl ?_
  refine cw_new (ix := 30) (ci := 4) (q := (RC4, TC4, 4)) (n := 75) (cl := 74) (sl := 88542) (pc := 169) (by decide +kernel) (by decide +kernel) rfl (tb_in (i := 1153) (by decide +kernel)) (tb_in (i := 1154) (by decide +kernel)) (tb_in (i := 1005) (by decide +kernel)) (by decide) (by decide) ?_
  refine cw_dup (pc := 172) (by decide +kernel) (fun x h => by cases h) ?_
  refine cw_init (ix := 32) (mi2 := mi_Mo_init) (z := 75) (n := 76) (n' := 77) (mc2 := 1) (ms2 := 5) (M' := mMo 75 _) (cl := 75) (sl := 88546) (pc := 173) (by decide +kernel) (i_Mo (by omega) (by decide +kernel) (by decide +kernel)) (Or.inr ⟨"HandsHeld", tbN_in (i := 1155) (by decide +kernel)⟩) (tb_in (i := 1156) (by decide +kernel)) (tb_in (i := 1005) (by decide +kernel)) rfl nm_Mo (by decide) trivial (by omega) rfl (by decide) (by decide) ?_
  refine cw_aast (z := 29) (kx := 75) (i := 4) (N := 10) (ci := 4) (pc := 176) (by decide +kernel) (by decide +kernel) (by omega) (by decide +kernel) (by omega) (by omega) ?_
  exact kk
set_option maxRecDepth 20000 in
theorem i_H_6 {RC : RCt} (hd : 3 ≤ d) (kk : CW G d mi_H_init 116 92656 RC 165 [some (vr ((0 : Nat) : Int)), some (vi ((6 : Nat) : Int))] [vr ((0 : Nat) : Int)] 79 mH_7 78 88560) : CW G d mi_H_init 116 92656 RC 177 [some (vr ((0 : Nat) : Int)), some (vi ((4 : Nat) : Int))] [] 77 mH_6 76 88551 := by
  refine cw_iload (k := 1) (i := 1) (pc := 177) (by decide +kernel) rfl rfl ?_
  refine cw_iconst (x := ((1 : Nat) : Int)) (pc := 178) (by decide +kernel) ⟨by omega, by omega⟩ ?_
  refine cw_iadd (a := ((4 : Nat) : Int)) (b := ((1 : Nat) : Int)) (pc := 179) (by decide +kernel) ⟨by omega, by omega⟩ ?_
  refine cw_istore (k := 1) (i := 1) (a := ((5 : Nat) : Int)) (L := [some (vr ((0 : Nat) : Int)), some (vi ((4 : Nat) : Int))]) (pc := 180) (by decide +kernel) rfl (by decide) ?_
  refine cw_goto (o := -23) (t := 158) (pc := 181) (by decide +kernel) (by decide) ?_
  refine cw_iload (k := 1) (i := 1) (pc := 158) (by decide +kernel) rfl rfl ?_
  refine cw_bipush (x := ((10 : Nat) : Int)) (pc := 159) (by decide +kernel) (by omega) (by omega) ?_
  refine cw_icmp_ge (o := 23) (t := 184) (pc := 161) (by decide +kernel) (by decide) (fun h => absurd h (by omega)) (fun _ => ?_)
  refine cw_aload (k := 0) (i := 0) (pc := 164) (by decide +kernel) rfl rfl ?_
  refine cw_get (ix := 40) (ci := 0) (j := 7) (z := 0) (q := (RC0, TC0, 18)) (v := ((29 : Nat) : Int)) (pc := 165) (by decide +kernel) (by decide +kernel) (by omega) rfl (by decide) (tb_in (i := 2171) (by decide +kernel)) (by decide +kernel) (fun _ => rfl) ?_
  refine cw_iload (k := 1) (i := 1) (pc := 168) (by decide +kernel) rfl rfl ?_
  refine cw_new (ix := 30) (ci := 4) (q := (RC4, TC4, 4)) (n := 77) (cl := 76) (sl := 88551) (pc := 169) (by decide +kernel) (by decide +kernel) rfl (tb_in (i := 1153) (by decide +kernel)) (tb_in (i := 1154) (by decide +kernel)) (tb_in (i := 1005) (by decide +kernel)) (by decide) (by decide) ?_
  refine cw_dup (pc := 172) (by decide +kernel) (fun x h => by cases h) ?_
  refine cw_init (ix := 32) (mi2 := mi_Mo_init) (z := 77) (n := 78) (n' := 79) (mc2 := 1) (ms2 := 5) (M' := mMo 77 _) (cl := 77) (sl := 88555) (pc := 173) (by decide +kernel) (i_Mo (by omega) (by decide +kernel) (by decide +kernel)) (Or.inr ⟨"HandsHeld", tbN_in (i := 1155) (by decide +kernel)⟩) (tb_in (i := 1156) (by decide +kernel)) (tb_in (i := 1005) (by decide +kernel)) rfl nm_Mo (by decide) trivial (by omega) rfl (by decide) (by decide) ?_
  refine cw_aast (z := 29) (kx := 77) (i := 5) (N := 10) (ci := 4) (pc := 176) (by decide +kernel) (by decide +kernel) (by omega) (by decide +kernel) (by omega) (by omega) ?_
  refine cw_iload (k := 1) (i := 1) (pc := 177) (by decide +kernel) rfl rfl ?_
  refine cw_iconst (x := ((1 : Nat) : Int)) (pc := 178) (by decide +kernel) ⟨by omega, by omega⟩ ?_
  refine cw_iadd (a := ((5 : Nat) : Int)) (b := ((1 : Nat) : Int)) (pc := 179) (by decide +kernel) ⟨by omega, by omega⟩ ?_
  refine cw_istore (k := 1) (i := 1) (a := ((6 : Nat) : Int)) (L := [some (vr ((0 : Nat) : Int)), some (vi ((5 : Nat) : Int))]) (pc := 180) (by decide +kernel) rfl (by decide) ?_
  refine cw_goto (o := -23) (t := 158) (pc := 181) (by decide +kernel) (by decide) ?_
  refine cw_iload (k := 1) (i := 1) (pc := 158) (by decide +kernel) rfl rfl ?_
  refine cw_bipush (x := ((10 : Nat) : Int)) (pc := 159) (by decide +kernel) (by omega) (by omega) ?_
  refine cw_icmp_ge (o := 23) (t := 184) (pc := 161) (by decide +kernel) (by decide) (fun h => absurd h (by omega)) (fun _ => ?_)
  refine cw_aload (k := 0) (i := 0) (pc := 164) (by decide +kernel) rfl rfl ?_
  exact kk
set_option maxRecDepth 20000 in
theorem i_H_7 {RC : RCt} (hd : 3 ≤ d) (kk : CW G d mi_H_init 116 92656 RC 180 [some (vr ((0 : Nat) : Int)), some (vi ((7 : Nat) : Int))] [vi ((8 : Nat) : Int)] 83 mH_8 82 88578) : CW G d mi_H_init 116 92656 RC 165 [some (vr ((0 : Nat) : Int)), some (vi ((6 : Nat) : Int))] [vr ((0 : Nat) : Int)] 79 mH_7 78 88560 := by
  refine cw_get (ix := 40) (ci := 0) (j := 7) (z := 0) (q := (RC0, TC0, 18)) (v := ((29 : Nat) : Int)) (pc := 165) (by decide +kernel) (by decide +kernel) (by omega) rfl (by decide) (tb_in (i := 2171) (by decide +kernel)) (by decide +kernel) (fun _ => rfl) ?_
  refine cw_iload (k := 1) (i := 1) (pc := 168) (by decide +kernel) rfl rfl ?_
  refine cw_new (ix := 30) (ci := 4) (q := (RC4, TC4, 4)) (n := 79) (cl := 78) (sl := 88560) (pc := 169) (by decide +kernel) (by decide +kernel) rfl (tb_in (i := 1153) (by decide +kernel)) (tb_in (i := 1154) (by decide +kernel)) (tb_in (i := 1005) (by decide +kernel)) (by decide) (by decide) ?_
  refine cw_dup (pc := 172) (by decide +kernel) (fun x h => by cases h) ?_
  refine cw_init (ix := 32) (mi2 := mi_Mo_init) (z := 79) (n := 80) (n' := 81) (mc2 := 1) (ms2 := 5) (M' := mMo 79 _) (cl := 79) (sl := 88564) (pc := 173) (by decide +kernel) (i_Mo (by omega) (by decide +kernel) (by decide +kernel)) (Or.inr ⟨"HandsHeld", tbN_in (i := 1155) (by decide +kernel)⟩) (tb_in (i := 1156) (by decide +kernel)) (tb_in (i := 1005) (by decide +kernel)) rfl nm_Mo (by decide) trivial (by omega) rfl (by decide) (by decide) ?_
  refine cw_aast (z := 29) (kx := 79) (i := 6) (N := 10) (ci := 4) (pc := 176) (by decide +kernel) (by decide +kernel) (by omega) (by decide +kernel) (by omega) (by omega) ?_
  refine cw_iload (k := 1) (i := 1) (pc := 177) (by decide +kernel) rfl rfl ?_
  refine cw_iconst (x := ((1 : Nat) : Int)) (pc := 178) (by decide +kernel) ⟨by omega, by omega⟩ ?_
  refine cw_iadd (a := ((6 : Nat) : Int)) (b := ((1 : Nat) : Int)) (pc := 179) (by decide +kernel) ⟨by omega, by omega⟩ ?_
  refine cw_istore (k := 1) (i := 1) (a := ((7 : Nat) : Int)) (L := [some (vr ((0 : Nat) : Int)), some (vi ((6 : Nat) : Int))]) (pc := 180) (by decide +kernel) rfl (by decide) ?_
  refine cw_goto (o := -23) (t := 158) (pc := 181) (by decide +kernel) (by decide) ?_
  refine cw_iload (k := 1) (i := 1) (pc := 158) (by decide +kernel) rfl rfl ?_
  refine cw_bipush (x := ((10 : Nat) : Int)) (pc := 159) (by decide +kernel) (by omega) (by omega) ?_
  refine cw_icmp_ge (o := 23) (t := 184) (pc := 161) (by decide +kernel) (by decide) (fun h => absurd h (by omega)) (fun _ => ?_)
  refine cw_aload (k := 0) (i := 0) (pc := 164) (by decide +kernel) rfl rfl ?_
  refine cw_get (ix := 40) (ci := 0) (j := 7) (z := 0) (q := (RC0, TC0, 18)) (v := ((29 : Nat) : Int)) (pc := 165) (by decide +kernel) (by decide +kernel) (by omega) rfl (by decide) (tb_in (i := 2171) (by decide +kernel)) (by decide +kernel) (fun _ => rfl) ?_
  refine cw_iload (k := 1) (i := 1) (pc := 168) (by decide +kernel) rfl rfl ?_
  refine cw_new (ix := 30) (ci := 4) (q := (RC4, TC4, 4)) (n := 81) (cl := 80) (sl := 88569) (pc := 169) (by decide +kernel) (by decide +kernel) rfl (tb_in (i := 1153) (by decide +kernel)) (tb_in (i := 1154) (by decide +kernel)) (tb_in (i := 1005) (by decide +kernel)) (by decide) (by decide) ?_
  refine cw_dup (pc := 172) (by decide +kernel) (fun x h => by cases h) ?_
  refine cw_init (ix := 32) (mi2 := mi_Mo_init) (z := 81) (n := 82) (n' := 83) (mc2 := 1) (ms2 := 5) (M' := mMo 81 _) (cl := 81) (sl := 88573) (pc := 173) (by decide +kernel) (i_Mo (by omega) (by decide +kernel) (by decide +kernel)) (Or.inr ⟨"HandsHeld", tbN_in (i := 1155) (by decide +kernel)⟩) (tb_in (i := 1156) (by decide +kernel)) (tb_in (i := 1005) (by decide +kernel)) rfl nm_Mo (by decide) trivial (by omega) rfl (by decide) (by decide) ?_
  refine cw_aast (z := 29) (kx := 81) (i := 7) (N := 10) (ci := 4) (pc := 176) (by decide +kernel) (by decide +kernel) (by omega) (by decide +kernel) (by omega) (by omega) ?_
  refine cw_iload (k := 1) (i := 1) (pc := 177) (by decide +kernel) rfl rfl ?_
  refine cw_iconst (x := ((1 : Nat) : Int)) (pc := 178) (by decide +kernel) ⟨by omega, by omega⟩ ?_
  refine cw_iadd (a := ((7 : Nat) : Int)) (b := ((1 : Nat) : Int)) (pc := 179) (by decide +kernel) ⟨by omega, by omega⟩ ?_
  exact kk
set_option maxRecDepth 20000 in
theorem i_H_8 {RC : RCt} (hd : 3 ≤ d) (kk : CW G d mi_H_init 116 92656 RC 172 [some (vr ((0 : Nat) : Int)), some (vi ((9 : Nat) : Int))] [vr ((85 : Nat) : Int), vi ((9 : Nat) : Int), vr ((29 : Nat) : Int)] 86 mH_9 85 88591) : CW G d mi_H_init 116 92656 RC 180 [some (vr ((0 : Nat) : Int)), some (vi ((7 : Nat) : Int))] [vi ((8 : Nat) : Int)] 83 mH_8 82 88578 := by
  refine cw_istore (k := 1) (i := 1) (a := ((8 : Nat) : Int)) (L := [some (vr ((0 : Nat) : Int)), some (vi ((7 : Nat) : Int))]) (pc := 180) (by decide +kernel) rfl (by decide) ?_
  refine cw_goto (o := -23) (t := 158) (pc := 181) (by decide +kernel) (by decide) ?_
  refine cw_iload (k := 1) (i := 1) (pc := 158) (by decide +kernel) rfl rfl ?_
  refine cw_bipush (x := ((10 : Nat) : Int)) (pc := 159) (by decide +kernel) (by omega) (by omega) ?_
  refine cw_icmp_ge (o := 23) (t := 184) (pc := 161) (by decide +kernel) (by decide) (fun h => absurd h (by omega)) (fun _ => ?_)
  refine cw_aload (k := 0) (i := 0) (pc := 164) (by decide +kernel) rfl rfl ?_
  refine cw_get (ix := 40) (ci := 0) (j := 7) (z := 0) (q := (RC0, TC0, 18)) (v := ((29 : Nat) : Int)) (pc := 165) (by decide +kernel) (by decide +kernel) (by omega) rfl (by decide) (tb_in (i := 2171) (by decide +kernel)) (by decide +kernel) (fun _ => rfl) ?_
  refine cw_iload (k := 1) (i := 1) (pc := 168) (by decide +kernel) rfl rfl ?_
  refine cw_new (ix := 30) (ci := 4) (q := (RC4, TC4, 4)) (n := 83) (cl := 82) (sl := 88578) (pc := 169) (by decide +kernel) (by decide +kernel) rfl (tb_in (i := 1153) (by decide +kernel)) (tb_in (i := 1154) (by decide +kernel)) (tb_in (i := 1005) (by decide +kernel)) (by decide) (by decide) ?_
  refine cw_dup (pc := 172) (by decide +kernel) (fun x h => by cases h) ?_
  refine cw_init (ix := 32) (mi2 := mi_Mo_init) (z := 83) (n := 84) (n' := 85) (mc2 := 1) (ms2 := 5) (M' := mMo 83 _) (cl := 83) (sl := 88582) (pc := 173) (by decide +kernel) (i_Mo (by omega) (by decide +kernel) (by decide +kernel)) (Or.inr ⟨"HandsHeld", tbN_in (i := 1155) (by decide +kernel)⟩) (tb_in (i := 1156) (by decide +kernel)) (tb_in (i := 1005) (by decide +kernel)) rfl nm_Mo (by decide) trivial (by omega) rfl (by decide) (by decide) ?_
  refine cw_aast (z := 29) (kx := 83) (i := 8) (N := 10) (ci := 4) (pc := 176) (by decide +kernel) (by decide +kernel) (by omega) (by decide +kernel) (by omega) (by omega) ?_
  refine cw_iload (k := 1) (i := 1) (pc := 177) (by decide +kernel) rfl rfl ?_
  refine cw_iconst (x := ((1 : Nat) : Int)) (pc := 178) (by decide +kernel) ⟨by omega, by omega⟩ ?_
  refine cw_iadd (a := ((8 : Nat) : Int)) (b := ((1 : Nat) : Int)) (pc := 179) (by decide +kernel) ⟨by omega, by omega⟩ ?_
  refine cw_istore (k := 1) (i := 1) (a := ((9 : Nat) : Int)) (L := [some (vr ((0 : Nat) : Int)), some (vi ((8 : Nat) : Int))]) (pc := 180) (by decide +kernel) rfl (by decide) ?_
  refine cw_goto (o := -23) (t := 158) (pc := 181) (by decide +kernel) (by decide) ?_
  refine cw_iload (k := 1) (i := 1) (pc := 158) (by decide +kernel) rfl rfl ?_
  refine cw_bipush (x := ((10 : Nat) : Int)) (pc := 159) (by decide +kernel) (by omega) (by omega) ?_
  refine cw_icmp_ge (o := 23) (t := 184) (pc := 161) (by decide +kernel) (by decide) (fun h => absurd h (by omega)) (fun _ => ?_)
  refine cw_aload (k := 0) (i := 0) (pc := 164) (by decide +kernel) rfl rfl ?_
  refine cw_get (ix := 40) (ci := 0) (j := 7) (z := 0) (q := (RC0, TC0, 18)) (v := ((29 : Nat) : Int)) (pc := 165) (by decide +kernel) (by decide +kernel) (by omega) rfl (by decide) (tb_in (i := 2171) (by decide +kernel)) (by decide +kernel) (fun _ => rfl) ?_
  refine cw_iload (k := 1) (i := 1) (pc := 168) (by decide +kernel) rfl rfl ?_
  refine cw_new (ix := 30) (ci := 4) (q := (RC4, TC4, 4)) (n := 85) (cl := 84) (sl := 88587) (pc := 169) (by decide +kernel) (by decide +kernel) rfl (tb_in (i := 1153) (by decide +kernel)) (tb_in (i := 1154) (by decide +kernel)) (tb_in (i := 1005) (by decide +kernel)) (by decide) (by decide) ?_
  exact kk
set_option maxRecDepth 20000 in
theorem i_H_9 {RC : RCt} (hd : 3 ≤ d) (kk : CW G d mi_H_init 116 92656 RC 205 [some (vr ((0 : Nat) : Int)), some (vi ((0 : Nat) : Int))] [vi ((0 : Nat) : Int)] 89 mH_10 88 88639) : CW G d mi_H_init 116 92656 RC 172 [some (vr ((0 : Nat) : Int)), some (vi ((9 : Nat) : Int))] [vr ((85 : Nat) : Int), vi ((9 : Nat) : Int), vr ((29 : Nat) : Int)] 86 mH_9 85 88591 := by
  refine cw_dup (pc := 172) (by decide +kernel) (fun x h => by cases h) ?_
  refine cw_init (ix := 32) (mi2 := mi_Mo_init) (z := 85) (n := 86) (n' := 87) (mc2 := 1) (ms2 := 5) (M' := mMo 85 _) (cl := 85) (sl := 88591) (pc := 173) (by decide +kernel) (i_Mo (by omega) (by decide +kernel) (by decide +kernel)) (Or.inr ⟨"HandsHeld", tbN_in (i := 1155) (by decide +kernel)⟩) (tb_in (i := 1156) (by decide +kernel)) (tb_in (i := 1005) (by decide +kernel)) rfl nm_Mo (by decide) trivial (by omega) rfl (by decide) (by decide) ?_
  refine cw_aast (z := 29) (kx := 85) (i := 9) (N := 10) (ci := 4) (pc := 176) (by decide +kernel) (by decide +kernel) (by omega) (by decide +kernel) (by omega) (by omega) ?_
  refine cw_iload (k := 1) (i := 1) (pc := 177) (by decide +kernel) rfl rfl ?_
  refine cw_iconst (x := ((1 : Nat) : Int)) (pc := 178) (by decide +kernel) ⟨by omega, by omega⟩ ?_
  refine cw_iadd (a := ((9 : Nat) : Int)) (b := ((1 : Nat) : Int)) (pc := 179) (by decide +kernel) ⟨by omega, by omega⟩ ?_
  refine cw_istore (k := 1) (i := 1) (a := ((10 : Nat) : Int)) (L := [some (vr ((0 : Nat) : Int)), some (vi ((9 : Nat) : Int))]) (pc := 180) (by decide +kernel) rfl (by decide) ?_
  refine cw_goto (o := -23) (t := 158) (pc := 181) (by decide +kernel) (by decide) ?_
  refine cw_iload (k := 1) (i := 1) (pc := 158) (by decide +kernel) rfl rfl ?_
  refine cw_bipush (x := ((10 : Nat) : Int)) (pc := 159) (by decide +kernel) (by omega) (by omega) ?_
  refine cw_icmp_ge (o := 23) (t := 184) (pc := 161) (by decide +kernel) (by decide) (fun _ => ?_) (fun h => absurd (by omega) h)
  refine cw_iconst (x := ((0 : Nat) : Int)) (pc := 184) (by decide +kernel) ⟨by omega, by omega⟩ ?_
  refine cw_istore (k := 1) (i := 1) (a := ((0 : Nat) : Int)) (L := [some (vr ((0 : Nat) : Int)), some (vi ((10 : Nat) : Int))]) (pc := 185) (by decide +kernel) rfl (by decide) ?_
  refine cw_iload (k := 1) (i := 1) (pc := 186) (by decide +kernel) rfl rfl ?_
  refine cw_iconst (x := ((4 : Nat) : Int)) (pc := 187) (by decide +kernel) ⟨by omega, by omega⟩ ?_
  refine cw_icmp_ge (o := 23) (t := 211) (pc := 188) (by decide +kernel) (by decide) (fun h => absurd h (by omega)) (fun _ => ?_)
  refine cw_aload (k := 0) (i := 0) (pc := 191) (by decide +kernel) rfl rfl ?_
  refine cw_get (ix := 46) (ci := 0) (j := 9) (z := 0) (q := (RC0, TC0, 18)) (v := ((30 : Nat) : Int)) (pc := 192) (by decide +kernel) (by decide +kernel) (by omega) rfl (by decide) (tb_in (i := 2173) (by decide +kernel)) (by decide +kernel) (fun _ => rfl) ?_
  refine cw_iload (k := 1) (i := 1) (pc := 195) (by decide +kernel) rfl rfl ?_
  refine cw_new (ix := 44) (ci := 11) (q := (RC11, TC11, 3)) (n := 87) (cl := 86) (sl := 88596) (pc := 196) (by decide +kernel) (by decide +kernel) rfl (tb_in (i := 1183) (by decide +kernel)) (tb_in (i := 2146) (by decide +kernel)) (tb_in (i := 1012) (by decide +kernel)) (by decide) (by decide) ?_
  refine cw_dup (pc := 199) (by decide +kernel) (fun x h => by cases h) ?_
  refine cw_init (ix := 92) (mi2 := mi_Tr_init) (z := 87) (n := 88) (n' := 89) (mc2 := 1) (ms2 := 40) (M' := mTr 87 _) (cl := 87) (sl := 88599) (pc := 200) (by decide +kernel) (i_Tr (by omega) (by decide +kernel) (by decide +kernel)) (Or.inr ⟨"HandsHeld", tbN_in (i := 2147) (by decide +kernel)⟩) (tb_in (i := 2148) (by decide +kernel)) (tb_in (i := 1012) (by decide +kernel)) rfl nm_Tr (by decide) trivial (by omega) rfl (by decide) (by decide) ?_
  refine cw_aast (z := 30) (kx := 87) (i := 0) (N := 4) (ci := 11) (pc := 203) (by decide +kernel) (by decide +kernel) (by omega) (by decide +kernel) (by omega) (by omega) ?_
  refine cw_iload (k := 1) (i := 1) (pc := 204) (by decide +kernel) rfl rfl ?_
  exact kk
set_option maxRecDepth 20000 in
theorem i_H_10 {RC : RCt} (hd : 3 ≤ d) (kk : CW G d mi_H_init 116 92656 RC 195 [some (vr ((0 : Nat) : Int)), some (vi ((2 : Nat) : Int))] [vr ((30 : Nat) : Int)] 91 mH_11 90 88682) : CW G d mi_H_init 116 92656 RC 205 [some (vr ((0 : Nat) : Int)), some (vi ((0 : Nat) : Int))] [vi ((0 : Nat) : Int)] 89 mH_10 88 88639 := by
  refine cw_iconst (x := ((1 : Nat) : Int)) (pc := 205) (by decide +kernel) ⟨by omega, by omega⟩ ?_
  refine cw_iadd (a := ((0 : Nat) : Int)) (b := ((1 : Nat) : Int)) (pc := 206) (by decide +kernel) ⟨by omega, by omega⟩ ?_
  refine cw_istore (k := 1) (i := 1) (a := ((1 : Nat) : Int)) (L := [some (vr ((0 : Nat) : Int)), some (vi ((0 : Nat) : Int))]) (pc := 207) (by decide +kernel) rfl (by decide) ?_
  refine cw_goto (o := -22) (t := 186) (pc := 208) (by decide +kernel) (by decide) ?_
  refine cw_iload (k := 1) (i := 1) (pc := 186) (by decide +kernel) rfl rfl ?_
  refine cw_iconst (x := ((4 : Nat) : Int)) (pc := 187) (by decide +kernel) ⟨by omega, by omega⟩ ?_
  refine cw_icmp_ge (o := 23) (t := 211) (pc := 188) (by decide +kernel) (by decide) (fun h => absurd h (by omega)) (fun _ => ?_)
  refine cw_aload (k := 0) (i := 0) (pc := 191) (by decide +kernel) rfl rfl ?_
  refine cw_get (ix := 46) (ci := 0) (j := 9) (z := 0) (q := (RC0, TC0, 18)) (v := ((30 : Nat) : Int)) (pc := 192) (by decide +kernel) (by decide +kernel) (by omega) rfl (by decide) (tb_in (i := 2173) (by decide +kernel)) (by decide +kernel) (fun _ => rfl) ?_
  refine cw_iload (k := 1) (i := 1) (pc := 195) (by decide +kernel) rfl rfl ?_
  refine cw_new (ix := 44) (ci := 11) (q := (RC11, TC11, 3)) (n := 89) (cl := 88) (sl := 88639) (pc := 196) (by decide +kernel) (by decide +kernel) rfl (tb_in (i := 1183) (by decide +kernel)) (tb_in (i := 2146) (by decide +kernel)) (tb_in (i := 1012) (by decide +kernel)) (by decide) (by decide) ?_
  refine cw_dup (pc := 199) (by decide +kernel) (fun x h => by cases h) ?_
  refine cw_init (ix := 92) (mi2 := mi_Tr_init) (z := 89) (n := 90) (n' := 91) (mc2 := 1) (ms2 := 40) (M' := mTr 89 _) (cl := 89) (sl := 88642) (pc := 200) (by decide +kernel) (i_Tr (by omega) (by decide +kernel) (by decide +kernel)) (Or.inr ⟨"HandsHeld", tbN_in (i := 2147) (by decide +kernel)⟩) (tb_in (i := 2148) (by decide +kernel)) (tb_in (i := 1012) (by decide +kernel)) rfl nm_Tr (by decide) trivial (by omega) rfl (by decide) (by decide) ?_
  refine cw_aast (z := 30) (kx := 89) (i := 1) (N := 4) (ci := 11) (pc := 203) (by decide +kernel) (by decide +kernel) (by omega) (by decide +kernel) (by omega) (by omega) ?_
  refine cw_iload (k := 1) (i := 1) (pc := 204) (by decide +kernel) rfl rfl ?_
  refine cw_iconst (x := ((1 : Nat) : Int)) (pc := 205) (by decide +kernel) ⟨by omega, by omega⟩ ?_
  refine cw_iadd (a := ((1 : Nat) : Int)) (b := ((1 : Nat) : Int)) (pc := 206) (by decide +kernel) ⟨by omega, by omega⟩ ?_
  refine cw_istore (k := 1) (i := 1) (a := ((2 : Nat) : Int)) (L := [some (vr ((0 : Nat) : Int)), some (vi ((1 : Nat) : Int))]) (pc := 207) (by decide +kernel) rfl (by decide) ?_
  refine cw_goto (o := -22) (t := 186) (pc := 208) (by decide +kernel) (by decide) ?_
  refine cw_iload (k := 1) (i := 1) (pc := 186) (by decide +kernel) rfl rfl ?_
  refine cw_iconst (x := ((4 : Nat) : Int)) (pc := 187) (by decide +kernel) ⟨by omega, by omega⟩ ?_
  refine cw_icmp_ge (o := 23) (t := 211) (pc := 188) (by decide +kernel) (by decide) (fun h => absurd h (by omega)) (fun _ => ?_)
  refine cw_aload (k := 0) (i := 0) (pc := 191) (by decide +kernel) rfl rfl ?_
  refine cw_get (ix := 46) (ci := 0) (j := 9) (z := 0) (q := (RC0, TC0, 18)) (v := ((30 : Nat) : Int)) (pc := 192) (by decide +kernel) (by decide +kernel) (by omega) rfl (by decide) (tb_in (i := 2173) (by decide +kernel)) (by decide +kernel) (fun _ => rfl) ?_
  exact kk
set_option maxRecDepth 20000 in
theorem i_H_11 {RC : RCt} (hd : 3 ≤ d) (kk : CW G d mi_H_init 116 92656 RC 208 [some (vr ((0 : Nat) : Int)), some (vi ((4 : Nat) : Int))] [] 95 mH_12 94 88768) : CW G d mi_H_init 116 92656 RC 195 [some (vr ((0 : Nat) : Int)), some (vi ((2 : Nat) : Int))] [vr ((30 : Nat) : Int)] 91 mH_11 90 88682 := by
  refine cw_iload (k := 1) (i := 1) (pc := 195) (by decide +kernel) rfl rfl ?_
  refine cw_new (ix := 44) (ci := 11) (q := (RC11, TC11, 3)) (n := 91) (cl := 90) (sl := 88682) (pc := 196) (by decide +kernel) (by decide +kernel) rfl (tb_in (i := 1183) (by decide +kernel)) (tb_in (i := 2146) (by decide +kernel)) (tb_in (i := 1012) (by decide +kernel)) (by decide) (by decide) ?_
  refine cw_dup (pc := 199) (by decide +kernel) (fun x h => by cases h) ?_
  refine cw_init (ix := 92) (mi2 := mi_Tr_init) (z := 91) (n := 92) (n' := 93) (mc2 := 1) (ms2 := 40) (M' := mTr 91 _) (cl := 91) (sl := 88685) (pc := 200) (by decide +kernel) (i_Tr (by omega) (by decide +kernel) (by decide +kernel)) (Or.inr ⟨"HandsHeld", tbN_in (i := 2147) (by decide +kernel)⟩) (tb_in (i := 2148) (by decide +kernel)) (tb_in (i := 1012) (by decide +kernel)) rfl nm_Tr (by decide) trivial (by omega) rfl (by decide) (by decide) ?_
  refine cw_aast (z := 30) (kx := 91) (i := 2) (N := 4) (ci := 11) (pc := 203) (by decide +kernel) (by decide +kernel) (by omega) (by decide +kernel) (by omega) (by omega) ?_
  refine cw_iload (k := 1) (i := 1) (pc := 204) (by decide +kernel) rfl rfl ?_
  refine cw_iconst (x := ((1 : Nat) : Int)) (pc := 205) (by decide +kernel) ⟨by omega, by omega⟩ ?_
  refine cw_iadd (a := ((2 : Nat) : Int)) (b := ((1 : Nat) : Int)) (pc := 206) (by decide +kernel) ⟨by omega, by omega⟩ ?_
  refine cw_istore (k := 1) (i := 1) (a := ((3 : Nat) : Int)) (L := [some (vr ((0 : Nat) : Int)), some (vi ((2 : Nat) : Int))]) (pc := 207) (by decide +kernel) rfl (by decide) ?_
  refine cw_goto (o := -22) (t := 186) (pc := 208) (by decide +kernel) (by decide) ?_
  refine cw_iload (k := 1) (i := 1) (pc := 186) (by decide +kernel) rfl rfl ?_
  refine cw_iconst (x := ((4 : Nat) : Int)) (pc := 187) (by decide +kernel) ⟨by omega, by omega⟩ ?_
  refine cw_icmp_ge (o := 23) (t := 211) (pc := 188) (by decide +kernel) (by decide) (fun h => absurd h (by omega)) (fun _ => ?_)
  refine cw_aload (k := 0) (i := 0) (pc := 191) (by decide +kernel) rfl rfl ?_
  refine cw_get (ix := 46) (ci := 0) (j := 9) (z := 0) (q := (RC0, TC0, 18)) (v := ((30 : Nat) : Int)) (pc := 192) (by decide +kernel) (by decide +kernel) (by omega) rfl (by decide) (tb_in (i := 2173) (by decide +kernel)) (by decide +kernel) (fun _ => rfl) ?_
  refine cw_iload (k := 1) (i := 1) (pc := 195) (by decide +kernel) rfl rfl ?_
  refine cw_new (ix := 44) (ci := 11) (q := (RC11, TC11, 3)) (n := 93) (cl := 92) (sl := 88725) (pc := 196) (by decide +kernel) (by decide +kernel) rfl (tb_in (i := 1183) (by decide +kernel)) (tb_in (i := 2146) (by decide +kernel)) (tb_in (i := 1012) (by decide +kernel)) (by decide) (by decide) ?_
  refine cw_dup (pc := 199) (by decide +kernel) (fun x h => by cases h) ?_
  refine cw_init (ix := 92) (mi2 := mi_Tr_init) (z := 93) (n := 94) (n' := 95) (mc2 := 1) (ms2 := 40) (M' := mTr 93 _) (cl := 93) (sl := 88728) (pc := 200) (by decide +kernel) (i_Tr (by omega) (by decide +kernel) (by decide +kernel)) (Or.inr ⟨"HandsHeld", tbN_in (i := 2147) (by decide +kernel)⟩) (tb_in (i := 2148) (by decide +kernel)) (tb_in (i := 1012) (by decide +kernel)) rfl nm_Tr (by decide) trivial (by omega) rfl (by decide) (by decide) ?_
  refine cw_aast (z := 30) (kx := 93) (i := 3) (N := 4) (ci := 11) (pc := 203) (by decide +kernel) (by decide +kernel) (by omega) (by decide +kernel) (by omega) (by omega) ?_
  refine cw_iload (k := 1) (i := 1) (pc := 204) (by decide +kernel) rfl rfl ?_
  refine cw_iconst (x := ((1 : Nat) : Int)) (pc := 205) (by decide +kernel) ⟨by omega, by omega⟩ ?_
  refine cw_iadd (a := ((3 : Nat) : Int)) (b := ((1 : Nat) : Int)) (pc := 206) (by decide +kernel) ⟨by omega, by omega⟩ ?_
  refine cw_istore (k := 1) (i := 1) (a := ((4 : Nat) : Int)) (L := [some (vr ((0 : Nat) : Int)), some (vi ((3 : Nat) : Int))]) (pc := 207) (by decide +kernel) rfl (by decide) ?_
  exact kk
set_option maxRecDepth 20000 in
theorem i_H_12 {RC : RCt} (hd : 3 ≤ d) (kk : CW G d mi_H_init 116 92656 RC 245 [some (vr ((0 : Nat) : Int)), some (vi ((0 : Nat) : Int))] [vi ((0 : Nat) : Int)] 106 mH_13 105 90712) : CW G d mi_H_init 116 92656 RC 208 [some (vr ((0 : Nat) : Int)), some (vi ((4 : Nat) : Int))] [] 95 mH_12 94 88768 := by
  refine cw_goto (o := -22) (t := 186) (pc := 208) (by decide +kernel) (by decide) ?_
  refine cw_iload (k := 1) (i := 1) (pc := 186) (by decide +kernel) rfl rfl ?_
  refine cw_iconst (x := ((4 : Nat) : Int)) (pc := 187) (by decide +kernel) ⟨by omega, by omega⟩ ?_
  refine cw_icmp_ge (o := 23) (t := 211) (pc := 188) (by decide +kernel) (by decide) (fun _ => ?_) (fun h => absurd (by omega) h)
  refine cw_iconst (x := ((0 : Nat) : Int)) (pc := 211) (by decide +kernel) ⟨by omega, by omega⟩ ?_
  refine cw_istore (k := 1) (i := 1) (a := ((0 : Nat) : Int)) (L := [some (vr ((0 : Nat) : Int)), some (vi ((4 : Nat) : Int))]) (pc := 212) (by decide +kernel) rfl (by decide) ?_
  refine cw_iload (k := 1) (i := 1) (pc := 213) (by decide +kernel) rfl rfl ?_
  refine cw_iconst (x := ((2 : Nat) : Int)) (pc := 214) (by decide +kernel) ⟨by omega, by omega⟩ ?_
  refine cw_icmp_ge (o := 36) (t := 251) (pc := 215) (by decide +kernel) (by decide) (fun h => absurd h (by omega)) (fun _ => ?_)
  refine cw_aload (k := 0) (i := 0) (pc := 218) (by decide +kernel) rfl rfl ?_
  refine cw_get (ix := 50) (ci := 0) (j := 10) (z := 0) (q := (RC0, TC0, 18)) (v := ((31 : Nat) : Int)) (pc := 219) (by decide +kernel) (by decide +kernel) (by omega) rfl (by decide) (tb_in (i := 2174) (by decide +kernel)) (by decide +kernel) (fun _ => rfl) ?_
  refine cw_iload (k := 1) (i := 1) (pc := 222) (by decide +kernel) rfl rfl ?_
  refine cw_new (ix := 20) (ci := 2) (q := (RC2, TC2, 12)) (n := 95) (cl := 94) (sl := 88768) (pc := 223) (by decide +kernel) (by decide +kernel) rfl (tb_in (i := 1075) (by decide +kernel)) (tb_in (i := 1076) (by decide +kernel)) (tb_in (i := 1003) (by decide +kernel)) (by decide) (by decide) ?_
  refine cw_dup (pc := 226) (by decide +kernel) (fun x h => by cases h) ?_
  refine cw_init (ix := 22) (mi2 := mi_Ha_init) (z := 95) (n := 96) (n' := 104) (mc2 := 8) (ms2 := 1923) (M' := mHa 95 _) (cl := 95) (sl := 88780) (pc := 227) (by decide +kernel) (i_Ha (by omega) (by decide +kernel) (by decide +kernel) (by decide +kernel) (by decide +kernel) (by decide +kernel) (by decide +kernel) (by decide +kernel) (by decide +kernel) (by decide +kernel)) (Or.inr ⟨"HandsHeld", tbN_in (i := 1077) (by decide +kernel)⟩) (tb_in (i := 1078) (by decide +kernel)) (tb_in (i := 1003) (by decide +kernel)) rfl nm_Ha (by decide) trivial (by omega) rfl (by decide) (by decide) ?_
  refine cw_aast (z := 31) (kx := 95) (i := 0) (N := 2) (ci := 2) (pc := 230) (by decide +kernel) (by decide +kernel) (by omega) (by decide +kernel) (by omega) (by omega) ?_
  refine cw_aload (k := 0) (i := 0) (pc := 231) (by decide +kernel) rfl rfl ?_
  refine cw_get (ix := 54) (ci := 0) (j := 11) (z := 0) (q := (RC0, TC0, 18)) (v := ((32 : Nat) : Int)) (pc := 232) (by decide +kernel) (by decide +kernel) (by omega) rfl (by decide) (tb_in (i := 2175) (by decide +kernel)) (by decide +kernel) (fun _ => rfl) ?_
  refine cw_iload (k := 1) (i := 1) (pc := 235) (by decide +kernel) rfl rfl ?_
  refine cw_new (ix := 30) (ci := 4) (q := (RC4, TC4, 4)) (n := 104) (cl := 103) (sl := 90703) (pc := 236) (by decide +kernel) (by decide +kernel) rfl (tb_in (i := 1153) (by decide +kernel)) (tb_in (i := 1154) (by decide +kernel)) (tb_in (i := 1005) (by decide +kernel)) (by decide) (by decide) ?_
  refine cw_dup (pc := 239) (by decide +kernel) (fun x h => by cases h) ?_
  refine cw_init (ix := 32) (mi2 := mi_Mo_init) (z := 104) (n := 105) (n' := 106) (mc2 := 1) (ms2 := 5) (M' := mMo 104 _) (cl := 104) (sl := 90707) (pc := 240) (by decide +kernel) (i_Mo (by omega) (by decide +kernel) (by decide +kernel)) (Or.inr ⟨"HandsHeld", tbN_in (i := 1155) (by decide +kernel)⟩) (tb_in (i := 1156) (by decide +kernel)) (tb_in (i := 1005) (by decide +kernel)) rfl nm_Mo (by decide) trivial (by omega) rfl (by decide) (by decide) ?_
  refine cw_aast (z := 32) (kx := 104) (i := 0) (N := 2) (ci := 4) (pc := 243) (by decide +kernel) (by decide +kernel) (by omega) (by decide +kernel) (by omega) (by omega) ?_
  refine cw_iload (k := 1) (i := 1) (pc := 244) (by decide +kernel) rfl rfl ?_
  exact kk
set_option maxRecDepth 20000 in
theorem i_H_13 {RC : RCt} (hd : 3 ≤ d) (kk : CW G d mi_H_init 116 92656 RC 247 [some (vr ((0 : Nat) : Int)), some (vi ((1 : Nat) : Int))] [vi ((2 : Nat) : Int)] 117 mH_14 116 92656) : CW G d mi_H_init 116 92656 RC 245 [some (vr ((0 : Nat) : Int)), some (vi ((0 : Nat) : Int))] [vi ((0 : Nat) : Int)] 106 mH_13 105 90712 := by
  refine cw_iconst (x := ((1 : Nat) : Int)) (pc := 245) (by decide +kernel) ⟨by omega, by omega⟩ ?_
  refine cw_iadd (a := ((0 : Nat) : Int)) (b := ((1 : Nat) : Int)) (pc := 246) (by decide +kernel) ⟨by omega, by omega⟩ ?_
  refine cw_istore (k := 1) (i := 1) (a := ((1 : Nat) : Int)) (L := [some (vr ((0 : Nat) : Int)), some (vi ((0 : Nat) : Int))]) (pc := 247) (by decide +kernel) rfl (by decide) ?_
  refine cw_goto (o := -35) (t := 213) (pc := 248) (by decide +kernel) (by decide) ?_
  refine cw_iload (k := 1) (i := 1) (pc := 213) (by decide +kernel) rfl rfl ?_
  refine cw_iconst (x := ((2 : Nat) : Int)) (pc := 214) (by decide +kernel) ⟨by omega, by omega⟩ ?_
  refine cw_icmp_ge (o := 36) (t := 251) (pc := 215) (by decide +kernel) (by decide) (fun h => absurd h (by omega)) (fun _ => ?_)
  refine cw_aload (k := 0) (i := 0) (pc := 218) (by decide +kernel) rfl rfl ?_
  refine cw_get (ix := 50) (ci := 0) (j := 10) (z := 0) (q := (RC0, TC0, 18)) (v := ((31 : Nat) : Int)) (pc := 219) (by decide +kernel) (by decide +kernel) (by omega) rfl (by decide) (tb_in (i := 2174) (by decide +kernel)) (by decide +kernel) (fun _ => rfl) ?_
  refine cw_iload (k := 1) (i := 1) (pc := 222) (by decide +kernel) rfl rfl ?_
  refine cw_new (ix := 20) (ci := 2) (q := (RC2, TC2, 12)) (n := 106) (cl := 105) (sl := 90712) (pc := 223) (by decide +kernel) (by decide +kernel) rfl (tb_in (i := 1075) (by decide +kernel)) (tb_in (i := 1076) (by decide +kernel)) (tb_in (i := 1003) (by decide +kernel)) (by decide) (by decide) ?_
  refine cw_dup (pc := 226) (by decide +kernel) (fun x h => by cases h) ?_
  refine cw_init (ix := 22) (mi2 := mi_Ha_init) (z := 106) (n := 107) (n' := 115) (mc2 := 8) (ms2 := 1923) (M' := mHa 106 _) (cl := 106) (sl := 90724) (pc := 227) (by decide +kernel) (i_Ha (by omega) (by decide +kernel) (by decide +kernel) (by decide +kernel) (by decide +kernel) (by decide +kernel) (by decide +kernel) (by decide +kernel) (by decide +kernel) (by decide +kernel)) (Or.inr ⟨"HandsHeld", tbN_in (i := 1077) (by decide +kernel)⟩) (tb_in (i := 1078) (by decide +kernel)) (tb_in (i := 1003) (by decide +kernel)) rfl nm_Ha (by decide) trivial (by omega) rfl (by decide) (by decide) ?_
  refine cw_aast (z := 31) (kx := 106) (i := 1) (N := 2) (ci := 2) (pc := 230) (by decide +kernel) (by decide +kernel) (by omega) (by decide +kernel) (by omega) (by omega) ?_
  refine cw_aload (k := 0) (i := 0) (pc := 231) (by decide +kernel) rfl rfl ?_
  refine cw_get (ix := 54) (ci := 0) (j := 11) (z := 0) (q := (RC0, TC0, 18)) (v := ((32 : Nat) : Int)) (pc := 232) (by decide +kernel) (by decide +kernel) (by omega) rfl (by decide) (tb_in (i := 2175) (by decide +kernel)) (by decide +kernel) (fun _ => rfl) ?_
  refine cw_iload (k := 1) (i := 1) (pc := 235) (by decide +kernel) rfl rfl ?_
  refine cw_new (ix := 30) (ci := 4) (q := (RC4, TC4, 4)) (n := 115) (cl := 114) (sl := 92647) (pc := 236) (by decide +kernel) (by decide +kernel) rfl (tb_in (i := 1153) (by decide +kernel)) (tb_in (i := 1154) (by decide +kernel)) (tb_in (i := 1005) (by decide +kernel)) (by decide) (by decide) ?_
  refine cw_dup (pc := 239) (by decide +kernel) (fun x h => by cases h) ?_
  refine cw_init (ix := 32) (mi2 := mi_Mo_init) (z := 115) (n := 116) (n' := 117) (mc2 := 1) (ms2 := 5) (M' := mMo 115 _) (cl := 115) (sl := 92651) (pc := 240) (by decide +kernel) (i_Mo (by omega) (by decide +kernel) (by decide +kernel)) (Or.inr ⟨"HandsHeld", tbN_in (i := 1155) (by decide +kernel)⟩) (tb_in (i := 1156) (by decide +kernel)) (tb_in (i := 1005) (by decide +kernel)) rfl nm_Mo (by decide) trivial (by omega) rfl (by decide) (by decide) ?_
  refine cw_aast (z := 32) (kx := 115) (i := 1) (N := 2) (ci := 4) (pc := 243) (by decide +kernel) (by decide +kernel) (by omega) (by decide +kernel) (by omega) (by omega) ?_
  refine cw_iload (k := 1) (i := 1) (pc := 244) (by decide +kernel) rfl rfl ?_
  refine cw_iconst (x := ((1 : Nat) : Int)) (pc := 245) (by decide +kernel) ⟨by omega, by omega⟩ ?_
  refine cw_iadd (a := ((1 : Nat) : Int)) (b := ((1 : Nat) : Int)) (pc := 246) (by decide +kernel) ⟨by omega, by omega⟩ ?_
  exact kk
set_option maxRecDepth 20000 in
theorem i_H_14 {RC : RCt} (hd : 3 ≤ d) (kk : CW G d mi_H_init 116 92656 RC 251 [some (vr ((0 : Nat) : Int)), some (vi ((2 : Nat) : Int))] [] 117 mH_15 116 92656) : CW G d mi_H_init 116 92656 RC 247 [some (vr ((0 : Nat) : Int)), some (vi ((1 : Nat) : Int))] [vi ((2 : Nat) : Int)] 117 mH_14 116 92656 := by
  refine cw_istore (k := 1) (i := 1) (a := ((2 : Nat) : Int)) (L := [some (vr ((0 : Nat) : Int)), some (vi ((1 : Nat) : Int))]) (pc := 247) (by decide +kernel) rfl (by decide) ?_
  refine cw_goto (o := -35) (t := 213) (pc := 248) (by decide +kernel) (by decide) ?_
  refine cw_iload (k := 1) (i := 1) (pc := 213) (by decide +kernel) rfl rfl ?_
  refine cw_iconst (x := ((2 : Nat) : Int)) (pc := 214) (by decide +kernel) ⟨by omega, by omega⟩ ?_
  refine cw_icmp_ge (o := 36) (t := 251) (pc := 215) (by decide +kernel) (by decide) (fun _ => ?_) (fun h => absurd (by omega) h)
  exact kk
end XF
