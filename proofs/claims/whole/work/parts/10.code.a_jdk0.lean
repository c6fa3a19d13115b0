def cd_JS_length : List (Nat × List XI) := [(0, [(.aload_n 0, [0], 0, none), (.getfield 9, [2, 0, 2083], 0, none), (.arraylength, [1], 0, none), (.aload_n 0, [0], 0, none), (.invokevirtual 335, [1, 0, 651, 652, 653, 654, 153], 0, some mi_JS_coder), (.ishr, [], 0, none), (.ireturn, [0], 0, none)])]
theorem b_JS_length : blk cd_JS_length 0 = [(.aload_n 0, [0], 0, none), (.getfield 9, [2, 0, 2083], 0, none), (.arraylength, [1], 0, none), (.aload_n 0, [0], 0, none), (.invokevirtual 335, [1, 0, 651, 652, 653, 654, 153], 0, some mi_JS_coder), (.ishr, [], 0, none), (.ireturn, [0], 0, none)] := rfl
theorem ck_JS_length : chkC mi_JS_length cd_JS_length = true := by decide +kernel
def cd_JS_coder : List (Nat × List XI) := [(0, [(.getstatic 38, [1, 655, 0], 0, none), (.ifCond .eq 10, [13], 0, none), (.aload_n 0, [0], 0, none), (.getfield 15, [2, 1, 2084], 0, none), (.goto 4, [14], 0, none)]),
  (13, [(.iconst 1, [], 0, none), (.nop, [14], 0, none)]),
  (14, [(.ireturn, [3], 0, none)])]
theorem b_JS_coder : blk cd_JS_coder 0 = [(.getstatic 38, [1, 655, 0], 0, none), (.ifCond .eq 10, [13], 0, none), (.aload_n 0, [0], 0, none), (.getfield 15, [2, 1, 2084], 0, none), (.goto 4, [14], 0, none)] ∧
  blk cd_JS_coder 13 = [(.iconst 1, [], 0, none), (.nop, [14], 0, none)] ∧
  blk cd_JS_coder 14 = [(.ireturn, [3], 0, none)] := ⟨rfl, rfl, rfl⟩
theorem ck_JS_coder : chkC mi_JS_coder cd_JS_coder = true := by decide +kernel
def cd_JS_charAt : List (Nat × List XI) := [(0, [(.aload_n 0, [0], 0, none), (.invokevirtual 492, [1, 0, 661, 662, 663, 664, 153], 0, some mi_JS_isLatin1), (.ifCond .eq 12, [16], 0, none), (.aload_n 0, [0], 0, none), (.getfield 9, [2, 0, 2083], 0, none), (.iload_n 1, [1], 0, none), (.invokestatic 495, [0, 665, 666, 667, 154, 0, 2], 0, some mi_JL_charAt), (.ireturn, [2], 0, none)]),
  (16, [(.aload_n 0, [0], 0, none), (.getfield 9, [2, 0, 2083], 0, none), (.iload_n 1, [1], 0, none)])]
theorem b_JS_charAt : blk cd_JS_charAt 0 = [(.aload_n 0, [0], 0, none), (.invokevirtual 492, [1, 0, 661, 662, 663, 664, 153], 0, some mi_JS_isLatin1), (.ifCond .eq 12, [16], 0, none), (.aload_n 0, [0], 0, none), (.getfield 9, [2, 0, 2083], 0, none), (.iload_n 1, [1], 0, none), (.invokestatic 495, [0, 665, 666, 667, 154, 0, 2], 0, some mi_JL_charAt), (.ireturn, [2], 0, none)] ∧
  blk cd_JS_charAt 16 = [(.aload_n 0, [0], 0, none), (.getfield 9, [2, 0, 2083], 0, none), (.iload_n 1, [1], 0, none)] := ⟨rfl, rfl⟩
theorem ck_JS_charAt : chkC mi_JS_charAt cd_JS_charAt = true := by decide +kernel
def cd_JS_isLatin1 : List (Nat × List XI) := [(0, [(.getstatic 38, [1, 655, 0], 0, none), (.ifCond .eq 14, [17], 0, none), (.aload_n 0, [0], 0, none), (.getfield 15, [2, 1, 2084], 0, none), (.ifCond .ne 7, [17], 0, none), (.iconst 1, [], 0, none), (.goto 4, [18], 0, none)]),
  (17, [(.iconst 0, [], 0, none), (.nop, [18], 0, none)]),
  (18, [(.ireturn, [1], 0, none)])]
theorem b_JS_isLatin1 : blk cd_JS_isLatin1 0 = [(.getstatic 38, [1, 655, 0], 0, none), (.ifCond .eq 14, [17], 0, none), (.aload_n 0, [0], 0, none), (.getfield 15, [2, 1, 2084], 0, none), (.ifCond .ne 7, [17], 0, none), (.iconst 1, [], 0, none), (.goto 4, [18], 0, none)] ∧
  blk cd_JS_isLatin1 17 = [(.iconst 0, [], 0, none), (.nop, [18], 0, none)] ∧
  blk cd_JS_isLatin1 18 = [(.ireturn, [1], 0, none)] := ⟨rfl, rfl, rfl⟩
theorem ck_JS_isLatin1 : chkC mi_JS_isLatin1 cd_JS_isLatin1 = true := by decide +kernel
def cd_JL_charAt : List (Nat × List XI) := [(0, [(.iload_n 1, [1], 0, none), (.aload_n 0, [0], 0, none), (.arraylength, [1], 0, none), (.invokestatic 9, [0, 668, 669, 670, 153, 0, 0], 0, some mi_JS_checkIndex), (.aload_n 0, [0], 0, none), (.iload_n 1, [1], 0, none), (.baload, [1], 0, none), (.sipush 255, [], 0, none), (.iand, [], 0, none), (.i2c, [], 0, none), (.ireturn, [2], 0, none)])]
theorem b_JL_charAt : blk cd_JL_charAt 0 = [(.iload_n 1, [1], 0, none), (.aload_n 0, [0], 0, none), (.arraylength, [1], 0, none), (.invokestatic 9, [0, 668, 669, 670, 153, 0, 0], 0, some mi_JS_checkIndex), (.aload_n 0, [0], 0, none), (.iload_n 1, [1], 0, none), (.baload, [1], 0, none), (.sipush 255, [], 0, none), (.iand, [], 0, none), (.i2c, [], 0, none), (.ireturn, [2], 0, none)] := rfl
theorem ck_JL_charAt : chkC mi_JL_charAt cd_JL_charAt = true := by decide +kernel
def cd_JS_checkIndex : List (Nat × List XI) := [(0, [(.iload_n 0, [0], 0, none), (.iload_n 1, [1], 0, none), (.getstatic 1053, [2, 671, 0], 0, none), (.invokestatic 1059, [0, 673, 674, 675, 155, 2, 0, 0], 0, some mi_JP_checkIndex), (.pop, [], 0, none), (.return_, [], 0, none)])]
theorem b_JS_checkIndex : blk cd_JS_checkIndex 0 = [(.iload_n 0, [0], 0, none), (.iload_n 1, [1], 0, none), (.getstatic 1053, [2, 671, 0], 0, none), (.invokestatic 1059, [0, 673, 674, 675, 155, 2, 0, 0], 0, some mi_JP_checkIndex), (.pop, [], 0, none), (.return_, [], 0, none)] := rfl
theorem ck_JS_checkIndex : chkC mi_JS_checkIndex cd_JS_checkIndex = true := by decide +kernel
def cd_JP_checkIndex : List (Nat × List XI) := [(0, [(.iload_n 0, [0], 0, none), (.ifCond .lt 8, [9], 0, none), (.iload_n 0, [0], 0, none), (.iload_n 1, [1], 0, none), (.if_icmp .lt 10, [16], 0, none), (.nop, [9], 0, none)]),
  (9, [(.aload_n 2, [2], 0, none), (.iload_n 0, [0], 0, none), (.iload_n 1, [1], 0, none)]),
  (16, [(.iload_n 0, [0], 0, none), (.ireturn, [0], 0, none)])]
theorem b_JP_checkIndex : blk cd_JP_checkIndex 0 = [(.iload_n 0, [0], 0, none), (.ifCond .lt 8, [9], 0, none), (.iload_n 0, [0], 0, none), (.iload_n 1, [1], 0, none), (.if_icmp .lt 10, [16], 0, none), (.nop, [9], 0, none)] ∧
  blk cd_JP_checkIndex 9 = [(.aload_n 2, [2], 0, none), (.iload_n 0, [0], 0, none), (.iload_n 1, [1], 0, none)] ∧
  blk cd_JP_checkIndex 16 = [(.iload_n 0, [0], 0, none), (.ireturn, [0], 0, none)] := ⟨rfl, rfl, rfl⟩
theorem ck_JP_checkIndex : chkC mi_JP_checkIndex cd_JP_checkIndex = true := by decide +kernel
def cd_JS_indexOf : List (Nat × List XI) := [(0, [(.aload_n 0, [0], 0, none), (.iload_n 1, [1], 0, none), (.iconst 0, [], 0, none), (.invokevirtual 633, [1, 0, 700, 701, 702, 703, 153, 0, 0], 0, some mi_JS_indexOf2), (.ireturn, [0], 0, none)])]
theorem b_JS_indexOf : blk cd_JS_indexOf 0 = [(.aload_n 0, [0], 0, none), (.iload_n 1, [1], 0, none), (.iconst 0, [], 0, none), (.invokevirtual 633, [1, 0, 700, 701, 702, 703, 153, 0, 0], 0, some mi_JS_indexOf2), (.ireturn, [0], 0, none)] := rfl
theorem ck_JS_indexOf : chkC mi_JS_indexOf cd_JS_indexOf = true := by decide +kernel
def cd_JS_indexOf2 : List (Nat × List XI) := [(0, [(.aload_n 0, [0], 0, none), (.invokevirtual 492, [1, 0, 661, 662, 663, 664, 153], 0, some mi_JS_isLatin1), (.ifCond .eq 19, [23], 0, none), (.aload_n 0, [0], 0, none), (.getfield 9, [2, 0, 2083], 0, none), (.iload_n 1, [1], 0, none), (.iload_n 2, [2], 0, none), (.aload_n 0, [0], 0, none), (.invokevirtual 505, [1, 0, 704, 648, 649, 650, 153], 0, some mi_JS_length), (.invokestatic 637, [0, 705, 706, 707, 154, 0, 0, 0, 2], 0, some mi_JL_indexOf), (.goto 16, [36], 0, none)]),
  (23, [(.aload_n 0, [0], 0, none), (.getfield 9, [2, 0, 2083], 0, none), (.iload_n 1, [1], 0, none), (.iload_n 2, [2], 0, none), (.aload_n 0, [0], 0, none), (.invokevirtual 505, [1, 0, 704, 648, 649, 650, 153], 0, some mi_JS_length)]),
  (36, [(.ireturn, [0], 0, none)])]
theorem b_JS_indexOf2 : blk cd_JS_indexOf2 0 = [(.aload_n 0, [0], 0, none), (.invokevirtual 492, [1, 0, 661, 662, 663, 664, 153], 0, some mi_JS_isLatin1), (.ifCond .eq 19, [23], 0, none), (.aload_n 0, [0], 0, none), (.getfield 9, [2, 0, 2083], 0, none), (.iload_n 1, [1], 0, none), (.iload_n 2, [2], 0, none), (.aload_n 0, [0], 0, none), (.invokevirtual 505, [1, 0, 704, 648, 649, 650, 153], 0, some mi_JS_length), (.invokestatic 637, [0, 705, 706, 707, 154, 0, 0, 0, 2], 0, some mi_JL_indexOf), (.goto 16, [36], 0, none)] ∧
  blk cd_JS_indexOf2 23 = [(.aload_n 0, [0], 0, none), (.getfield 9, [2, 0, 2083], 0, none), (.iload_n 1, [1], 0, none), (.iload_n 2, [2], 0, none), (.aload_n 0, [0], 0, none), (.invokevirtual 505, [1, 0, 704, 648, 649, 650, 153], 0, some mi_JS_length)] ∧
  blk cd_JS_indexOf2 36 = [(.ireturn, [0], 0, none)] := ⟨rfl, rfl, rfl⟩
theorem ck_JS_indexOf2 : chkC mi_JS_indexOf2 cd_JS_indexOf2 = true := by decide +kernel
def cd_JL_indexOf : List (Nat × List XI) := [(0, [(.iload_n 1, [1], 0, none), (.invokestatic 88, [0, 708, 709, 710, 154, 0], 0, some mi_JL_canEncode), (.ifCond .ne 5, [9], 0, none), (.iconst (-1), [], 0, none), (.ireturn, [0], 0, none)]),
  (9, [(.iload_n 2, [2], 0, none), (.iconst 0, [], 0, none), (.invokestatic 92, [3, 711, 712, 713, 152], 0, none), (.istore_n 2, [2], 0, none), (.iload_n 3, [3], 0, none), (.aload_n 0, [0], 0, none), (.arraylength, [1], 0, none), (.invokestatic 38, [4, 714, 618, 619, 152], 0, none), (.istore_n 3, [3], 0, none), (.iload_n 2, [2], 0, none), (.iload_n 3, [3], 0, none), (.if_icmp .lt 5, [29], 0, none), (.iconst (-1), [], 0, none), (.ireturn, [0], 0, none)]),
  (29, [(.aload_n 0, [0], 0, none), (.iload_n 1, [1], 0, none), (.iload_n 2, [2], 0, none), (.iload_n 3, [3], 0, none), (.invokestatic 95, [0, 715, 716, 717, 154, 0, 0, 0, 2], 0, some mi_JL_indexOfChar), (.ireturn, [0], 0, none)])]
theorem b_JL_indexOf : blk cd_JL_indexOf 0 = [(.iload_n 1, [1], 0, none), (.invokestatic 88, [0, 708, 709, 710, 154, 0], 0, some mi_JL_canEncode), (.ifCond .ne 5, [9], 0, none), (.iconst (-1), [], 0, none), (.ireturn, [0], 0, none)] ∧
  blk cd_JL_indexOf 9 = [(.iload_n 2, [2], 0, none), (.iconst 0, [], 0, none), (.invokestatic 92, [3, 711, 712, 713, 152], 0, none), (.istore_n 2, [2], 0, none), (.iload_n 3, [3], 0, none), (.aload_n 0, [0], 0, none), (.arraylength, [1], 0, none), (.invokestatic 38, [4, 714, 618, 619, 152], 0, none), (.istore_n 3, [3], 0, none), (.iload_n 2, [2], 0, none), (.iload_n 3, [3], 0, none), (.if_icmp .lt 5, [29], 0, none), (.iconst (-1), [], 0, none), (.ireturn, [0], 0, none)] ∧
  blk cd_JL_indexOf 29 = [(.aload_n 0, [0], 0, none), (.iload_n 1, [1], 0, none), (.iload_n 2, [2], 0, none), (.iload_n 3, [3], 0, none), (.invokestatic 95, [0, 715, 716, 717, 154, 0, 0, 0, 2], 0, some mi_JL_indexOfChar), (.ireturn, [0], 0, none)] := ⟨rfl, rfl, rfl⟩
theorem ck_JL_indexOf : chkC mi_JL_indexOf cd_JL_indexOf = true := by decide +kernel
def cd_JL_canEncode : List (Nat × List XI) := [(0, [(.iload_n 0, [0], 0, none), (.ifCond .lt 14, [15], 0, none), (.iload_n 0, [0], 0, none), (.sipush 255, [], 0, none), (.if_icmp .gt 7, [15], 0, none), (.iconst 1, [], 0, none), (.goto 4, [16], 0, none)]),
  (15, [(.iconst 0, [], 0, none), (.nop, [16], 0, none)]),
  (16, [(.ireturn, [1], 0, none)])]
theorem b_JL_canEncode : blk cd_JL_canEncode 0 = [(.iload_n 0, [0], 0, none), (.ifCond .lt 14, [15], 0, none), (.iload_n 0, [0], 0, none), (.sipush 255, [], 0, none), (.if_icmp .gt 7, [15], 0, none), (.iconst 1, [], 0, none), (.goto 4, [16], 0, none)] ∧
  blk cd_JL_canEncode 15 = [(.iconst 0, [], 0, none), (.nop, [16], 0, none)] ∧
  blk cd_JL_canEncode 16 = [(.ireturn, [1], 0, none)] := ⟨rfl, rfl, rfl⟩
theorem ck_JL_canEncode : chkC mi_JL_canEncode cd_JL_canEncode = true := by decide +kernel
def cd_JL_indexOfChar : List (Nat × List XI) := [(0, [(.iload_n 1, [1], 0, none), (.i2b, [], 0, none), (.istore 4, [], 0, none), (.iload_n 2, [2], 0, none), (.istore 5, [], 0, none), (.nop, [7], 0, none)]),
  (7, [(.iload 5, [], 0, none), (.iload_n 3, [3], 0, none), (.if_icmp .ge 21, [31], 0, none), (.aload_n 0, [0], 0, none), (.iload 5, [], 0, none), (.baload, [1], 0, none), (.iload 4, [], 0, none), (.if_icmp .ne 6, [25], 0, none), (.iload 5, [], 0, none), (.ireturn, [0], 0, none)]),
  (25, [(.iinc 5 1, [], 0, none), (.goto (-21), [7], 0, none)]),
  (31, [(.iconst (-1), [], 0, none), (.ireturn, [0], 0, none)])]
theorem b_JL_indexOfChar : blk cd_JL_indexOfChar 0 = [(.iload_n 1, [1], 0, none), (.i2b, [], 0, none), (.istore 4, [], 0, none), (.iload_n 2, [2], 0, none), (.istore 5, [], 0, none), (.nop, [7], 0, none)] ∧
  blk cd_JL_indexOfChar 7 = [(.iload 5, [], 0, none), (.iload_n 3, [3], 0, none), (.if_icmp .ge 21, [31], 0, none), (.aload_n 0, [0], 0, none), (.iload 5, [], 0, none), (.baload, [1], 0, none), (.iload 4, [], 0, none), (.if_icmp .ne 6, [25], 0, none), (.iload 5, [], 0, none), (.ireturn, [0], 0, none)] ∧
  blk cd_JL_indexOfChar 25 = [(.iinc 5 1, [], 0, none), (.goto (-21), [7], 0, none)] ∧
  blk cd_JL_indexOfChar 31 = [(.iconst (-1), [], 0, none), (.ireturn, [0], 0, none)] := ⟨rfl, rfl, rfl, rfl⟩
theorem ck_JL_indexOfChar : chkC mi_JL_indexOfChar cd_JL_indexOfChar = true := by decide +kernel
def cd_JS_checkBoundsBeginEnd : List (Nat × List XI) := [(0, [(.iload_n 0, [0], 0, none), (.iload_n 1, [1], 0, none), (.iload_n 2, [2], 0, none), (.getstatic 1053, [2, 671, 0], 0, none), (.invokestatic 1062, [0, 733, 734, 735, 155, 2, 0, 0, 0], 0, some mi_JP_checkFromToIndex), (.pop, [], 0, none), (.return_, [], 0, none)])]
theorem b_JS_checkBoundsBeginEnd : blk cd_JS_checkBoundsBeginEnd 0 = [(.iload_n 0, [0], 0, none), (.iload_n 1, [1], 0, none), (.iload_n 2, [2], 0, none), (.getstatic 1053, [2, 671, 0], 0, none), (.invokestatic 1062, [0, 733, 734, 735, 155, 2, 0, 0, 0], 0, some mi_JP_checkFromToIndex), (.pop, [], 0, none), (.return_, [], 0, none)] := rfl
theorem ck_JS_checkBoundsBeginEnd : chkC mi_JS_checkBoundsBeginEnd cd_JS_checkBoundsBeginEnd = true := by decide +kernel
def cd_JP_checkFromToIndex : List (Nat × List XI) := [(0, [(.iload_n 0, [0], 0, none), (.ifCond .lt 13, [14], 0, none), (.iload_n 0, [0], 0, none), (.iload_n 1, [1], 0, none), (.if_icmp .gt 8, [14], 0, none), (.iload_n 1, [1], 0, none), (.iload_n 2, [2], 0, none), (.if_icmp .le 11, [22], 0, none), (.nop, [14], 0, none)]),
  (14, [(.aload_n 3, [3], 0, none), (.iload_n 0, [0], 0, none), (.iload_n 1, [1], 0, none), (.iload_n 2, [2], 0, none)]),
  (22, [(.iload_n 0, [0], 0, none), (.ireturn, [0], 0, none)])]
theorem b_JP_checkFromToIndex : blk cd_JP_checkFromToIndex 0 = [(.iload_n 0, [0], 0, none), (.ifCond .lt 13, [14], 0, none), (.iload_n 0, [0], 0, none), (.iload_n 1, [1], 0, none), (.if_icmp .gt 8, [14], 0, none), (.iload_n 1, [1], 0, none), (.iload_n 2, [2], 0, none), (.if_icmp .le 11, [22], 0, none), (.nop, [14], 0, none)] ∧
  blk cd_JP_checkFromToIndex 14 = [(.aload_n 3, [3], 0, none), (.iload_n 0, [0], 0, none), (.iload_n 1, [1], 0, none), (.iload_n 2, [2], 0, none)] ∧
  blk cd_JP_checkFromToIndex 22 = [(.iload_n 0, [0], 0, none), (.ireturn, [0], 0, none)] := ⟨rfl, rfl, rfl⟩
theorem ck_JP_checkFromToIndex : chkC mi_JP_checkFromToIndex cd_JP_checkFromToIndex = true := by decide +kernel
def cd_JI_bitCount : List (Nat × List XI) := [(0, [(.iload_n 0, [0], 0, none), (.iload_n 0, [0], 0, none), (.iconst 1, [], 0, none), (.iushr, [], 0, none), (.ldc_w 265, [0, 930], 1431655765, none), (.iand, [], 0, none), (.isub, [1], 0, none), (.istore_n 0, [0], 0, none), (.iload_n 0, [0], 0, none), (.ldc_w 266, [0, 931], 858993459, none), (.iand, [], 0, none), (.iload_n 0, [0], 0, none), (.iconst 2, [], 0, none), (.iushr, [], 0, none), (.ldc_w 266, [0, 931], 858993459, none), (.iand, [], 0, none), (.iadd, [1], 0, none), (.istore_n 0, [0], 0, none), (.iload_n 0, [0], 0, none), (.iload_n 0, [0], 0, none), (.iconst 4, [], 0, none), (.iushr, [], 0, none), (.iadd, [1], 0, none), (.ldc_w 267, [0, 932], 252645135, none), (.iand, [], 0, none), (.istore_n 0, [0], 0, none), (.iload_n 0, [0], 0, none), (.iload_n 0, [0], 0, none), (.bipush 8, [], 0, none), (.iushr, [], 0, none), (.iadd, [1], 0, none), (.istore_n 0, [0], 0, none), (.iload_n 0, [0], 0, none), (.iload_n 0, [0], 0, none), (.bipush 16, [], 0, none), (.iushr, [], 0, none), (.iadd, [1], 0, none), (.istore_n 0, [0], 0, none), (.iload_n 0, [0], 0, none), (.bipush 63, [], 0, none), (.iand, [], 0, none), (.ireturn, [0], 0, none)])]
theorem b_JI_bitCount : blk cd_JI_bitCount 0 = [(.iload_n 0, [0], 0, none), (.iload_n 0, [0], 0, none), (.iconst 1, [], 0, none), (.iushr, [], 0, none), (.ldc_w 265, [0, 930], 1431655765, none), (.iand, [], 0, none), (.isub, [1], 0, none), (.istore_n 0, [0], 0, none), (.iload_n 0, [0], 0, none), (.ldc_w 266, [0, 931], 858993459, none), (.iand, [], 0, none), (.iload_n 0, [0], 0, none), (.iconst 2, [], 0, none), (.iushr, [], 0, none), (.ldc_w 266, [0, 931], 858993459, none), (.iand, [], 0, none), (.iadd, [1], 0, none), (.istore_n 0, [0], 0, none), (.iload_n 0, [0], 0, none), (.iload_n 0, [0], 0, none), (.iconst 4, [], 0, none), (.iushr, [], 0, none), (.iadd, [1], 0, none), (.ldc_w 267, [0, 932], 252645135, none), (.iand, [], 0, none), (.istore_n 0, [0], 0, none), (.iload_n 0, [0], 0, none), (.iload_n 0, [0], 0, none), (.bipush 8, [], 0, none), (.iushr, [], 0, none), (.iadd, [1], 0, none), (.istore_n 0, [0], 0, none), (.iload_n 0, [0], 0, none), (.iload_n 0, [0], 0, none), (.bipush 16, [], 0, none), (.iushr, [], 0, none), (.iadd, [1], 0, none), (.istore_n 0, [0], 0, none), (.iload_n 0, [0], 0, none), (.bipush 63, [], 0, none), (.iand, [], 0, none), (.ireturn, [0], 0, none)] := rfl
theorem ck_JI_bitCount : chkC mi_JI_bitCount cd_JI_bitCount = true := by decide +kernel
def cd_JA_fill : List (Nat × List XI) := [(0, [(.aload_n 0, [0], 0, none), (.arraylength, [0], 0, none), (.iload_n 1, [1], 0, none), (.iload_n 2, [2], 0, none), (.invokestatic 13, [0, 1065, 1066, 1067, 160, 0, 0, 0], 0, some mi_JA_rangeCheck), (.iload_n 1, [1], 0, none), (.istore 4, [], 0, none), (.nop, [10], 0, none)]),
  (10, [(.iload 4, [], 0, none), (.iload_n 2, [2], 0, none), (.if_icmp .ge 14, [27], 0, none), (.aload_n 0, [0], 0, none), (.iload 4, [], 0, none), (.iload_n 3, [3], 0, none), (.iastore, [], 0, none), (.iinc 4 1, [], 0, none), (.goto (-14), [10], 0, none)]),
  (27, [(.return_, [], 0, none)])]
theorem b_JA_fill : blk cd_JA_fill 0 = [(.aload_n 0, [0], 0, none), (.arraylength, [0], 0, none), (.iload_n 1, [1], 0, none), (.iload_n 2, [2], 0, none), (.invokestatic 13, [0, 1065, 1066, 1067, 160, 0, 0, 0], 0, some mi_JA_rangeCheck), (.iload_n 1, [1], 0, none), (.istore 4, [], 0, none), (.nop, [10], 0, none)] ∧
  blk cd_JA_fill 10 = [(.iload 4, [], 0, none), (.iload_n 2, [2], 0, none), (.if_icmp .ge 14, [27], 0, none), (.aload_n 0, [0], 0, none), (.iload 4, [], 0, none), (.iload_n 3, [3], 0, none), (.iastore, [], 0, none), (.iinc 4 1, [], 0, none), (.goto (-14), [10], 0, none)] ∧
  blk cd_JA_fill 27 = [(.return_, [], 0, none)] := ⟨rfl, rfl, rfl⟩
theorem ck_JA_fill : chkC mi_JA_fill cd_JA_fill = true := by decide +kernel
def cd_JA_rangeCheck : List (Nat × List XI) := [(0, [(.iload_n 1, [1], 0, none), (.iload_n 2, [2], 0, none), (.if_icmp .le 44, [46], 0, none)]),
  (46, [(.iload_n 1, [1], 0, none), (.ifCond .ge 12, [59], 0, none)]),
  (59, [(.iload_n 2, [2], 0, none), (.iload_n 0, [0], 0, none), (.if_icmp .le 12, [73], 0, none)]),
  (73, [(.return_, [], 0, none)])]
theorem b_JA_rangeCheck : blk cd_JA_rangeCheck 0 = [(.iload_n 1, [1], 0, none), (.iload_n 2, [2], 0, none), (.if_icmp .le 44, [46], 0, none)] ∧
  blk cd_JA_rangeCheck 46 = [(.iload_n 1, [1], 0, none), (.ifCond .ge 12, [59], 0, none)] ∧
  blk cd_JA_rangeCheck 59 = [(.iload_n 2, [2], 0, none), (.iload_n 0, [0], 0, none), (.if_icmp .le 12, [73], 0, none)] ∧
  blk cd_JA_rangeCheck 73 = [(.return_, [], 0, none)] := ⟨rfl, rfl, rfl, rfl⟩
theorem ck_JA_rangeCheck : chkC mi_JA_rangeCheck cd_JA_rangeCheck = true := by decide +kernel
def cd_JA_fill2 : List (Nat × List XI) := [(0, [(.iconst 0, [], 0, none), (.istore_n 2, [2], 0, none), (.aload_n 0, [0], 0, none), (.arraylength, [0], 0, none), (.istore_n 3, [3], 0, none), (.nop, [5], 0, none)]),
  (5, [(.iload_n 2, [2], 0, none), (.iload_n 3, [3], 0, none), (.if_icmp .ge 13, [20], 0, none), (.aload_n 0, [0], 0, none), (.iload_n 2, [2], 0, none), (.iload_n 1, [1], 0, none), (.iastore, [], 0, none), (.iinc 2 1, [], 0, none), (.goto (-12), [5], 0, none)]),
  (20, [(.return_, [], 0, none)])]
theorem b_JA_fill2 : blk cd_JA_fill2 0 = [(.iconst 0, [], 0, none), (.istore_n 2, [2], 0, none), (.aload_n 0, [0], 0, none), (.arraylength, [0], 0, none), (.istore_n 3, [3], 0, none), (.nop, [5], 0, none)] ∧
  blk cd_JA_fill2 5 = [(.iload_n 2, [2], 0, none), (.iload_n 3, [3], 0, none), (.if_icmp .ge 13, [20], 0, none), (.aload_n 0, [0], 0, none), (.iload_n 2, [2], 0, none), (.iload_n 1, [1], 0, none), (.iastore, [], 0, none), (.iinc 2 1, [], 0, none), (.goto (-12), [5], 0, none)] ∧
  blk cd_JA_fill2 20 = [(.return_, [], 0, none)] := ⟨rfl, rfl, rfl⟩
theorem ck_JA_fill2 : chkC mi_JA_fill2 cd_JA_fill2 = true := by decide +kernel
def cd_JA_fill3 : List (Nat × List XI) := [(0, [(.iconst 0, [], 0, none), (.istore_n 3, [3], 0, none), (.aload_n 0, [0], 0, none), (.arraylength, [0], 0, none), (.istore 4, [], 0, none), (.nop, [6], 0, none)]),
  (6, [(.iload_n 3, [3], 0, none), (.iload 4, [], 0, none), (.if_icmp .ge 13, [22], 0, none), (.aload_n 0, [0], 0, none), (.iload_n 3, [3], 0, none), (.lload_n 1, [1], 0, none), (.lastore, [], 0, none), (.iinc 3 1, [], 0, none), (.goto (-13), [6], 0, none)]),
  (22, [(.return_, [], 0, none)])]
theorem b_JA_fill3 : blk cd_JA_fill3 0 = [(.iconst 0, [], 0, none), (.istore_n 3, [3], 0, none), (.aload_n 0, [0], 0, none), (.arraylength, [0], 0, none), (.istore 4, [], 0, none), (.nop, [6], 0, none)] ∧
  blk cd_JA_fill3 6 = [(.iload_n 3, [3], 0, none), (.iload 4, [], 0, none), (.if_icmp .ge 13, [22], 0, none), (.aload_n 0, [0], 0, none), (.iload_n 3, [3], 0, none), (.lload_n 1, [1], 0, none), (.lastore, [], 0, none), (.iinc 3 1, [], 0, none), (.goto (-13), [6], 0, none)] ∧
  blk cd_JA_fill3 22 = [(.return_, [], 0, none)] := ⟨rfl, rfl, rfl⟩
theorem ck_JA_fill3 : chkC mi_JA_fill3 cd_JA_fill3 = true := by decide +kernel
