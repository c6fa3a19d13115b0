def cd_JS_length : List (Nat × List XI) := [(0, [(.aload_n 0, [0], 0, none), (.getfield 9, [2, 0, 9025], 0, none), (.arraylength, [1], 0, none), (.aload_n 0, [0], 0, none), (.invokevirtual 335, [1, 0, 3033, 3034, 3035, 3036, 1015], 0, some mi_JS_coder), (.ishr, [], 0, none), (.ireturn, [0], 0, none)])]
theorem b_JS_length : blk cd_JS_length 0 = [(.aload_n 0, [0], 0, none), (.getfield 9, [2, 0, 9025], 0, none), (.arraylength, [1], 0, none), (.aload_n 0, [0], 0, none), (.invokevirtual 335, [1, 0, 3033, 3034, 3035, 3036, 1015], 0, some mi_JS_coder), (.ishr, [], 0, none), (.ireturn, [0], 0, none)] := rfl
theorem ck_JS_length : CK mi_JS_length cd_JS_length := CK.of (by decide +kernel) 3032 rfl
def cd_JS_coder : List (Nat × List XI) := [(0, [(.getstatic 38, [1, 3037, 0], 0, none), (.ifCond .eq 10, [13], 0, none), (.aload_n 0, [0], 0, none), (.getfield 15, [2, 1, 9026], 0, none), (.goto 4, [14], 0, none)]),
  (13, [(.iconst 1, [], 0, none), (.nop, [14], 0, none)]),
  (14, [(.ireturn, [3], 0, none)])]
theorem b_JS_coder : blk cd_JS_coder 0 = [(.getstatic 38, [1, 3037, 0], 0, none), (.ifCond .eq 10, [13], 0, none), (.aload_n 0, [0], 0, none), (.getfield 15, [2, 1, 9026], 0, none), (.goto 4, [14], 0, none)] ∧
  blk cd_JS_coder 13 = [(.iconst 1, [], 0, none), (.nop, [14], 0, none)] ∧
  blk cd_JS_coder 14 = [(.ireturn, [3], 0, none)] := ⟨rfl, rfl, rfl⟩
theorem ck_JS_coder : CK mi_JS_coder cd_JS_coder := CK.of (by decide +kernel) 3036 rfl
def cd_JS_charAt : List (Nat × List XI) := [(0, [(.aload_n 0, [0], 0, none), (.invokevirtual 492, [1, 0, 3043, 3044, 3045, 3046, 1015], 0, some mi_JS_isLatin1), (.ifCond .eq 12, [16], 0, none), (.aload_n 0, [0], 0, none), (.getfield 9, [2, 0, 9025], 0, none), (.iload_n 1, [1], 0, none), (.invokestatic 495, [0, 3047, 3048, 3049, 1016, 0, 2], 0, some mi_JL_charAt), (.ireturn, [2], 0, none)]),
  (16, [(.aload_n 0, [0], 0, none), (.getfield 9, [2, 0, 9025], 0, none), (.iload_n 1, [1], 0, none)])]
theorem b_JS_charAt : blk cd_JS_charAt 0 = [(.aload_n 0, [0], 0, none), (.invokevirtual 492, [1, 0, 3043, 3044, 3045, 3046, 1015], 0, some mi_JS_isLatin1), (.ifCond .eq 12, [16], 0, none), (.aload_n 0, [0], 0, none), (.getfield 9, [2, 0, 9025], 0, none), (.iload_n 1, [1], 0, none), (.invokestatic 495, [0, 3047, 3048, 3049, 1016, 0, 2], 0, some mi_JL_charAt), (.ireturn, [2], 0, none)] ∧
  blk cd_JS_charAt 16 = [(.aload_n 0, [0], 0, none), (.getfield 9, [2, 0, 9025], 0, none), (.iload_n 1, [1], 0, none)] := ⟨rfl, rfl⟩
theorem ck_JS_charAt : CK mi_JS_charAt cd_JS_charAt := CK.of (by decide +kernel) 3042 rfl
def cd_JS_isLatin1 : List (Nat × List XI) := [(0, [(.getstatic 38, [1, 3037, 0], 0, none), (.ifCond .eq 14, [17], 0, none), (.aload_n 0, [0], 0, none), (.getfield 15, [2, 1, 9026], 0, none), (.ifCond .ne 7, [17], 0, none), (.iconst 1, [], 0, none), (.goto 4, [18], 0, none)]),
  (17, [(.iconst 0, [], 0, none), (.nop, [18], 0, none)]),
  (18, [(.ireturn, [1], 0, none)])]
theorem b_JS_isLatin1 : blk cd_JS_isLatin1 0 = [(.getstatic 38, [1, 3037, 0], 0, none), (.ifCond .eq 14, [17], 0, none), (.aload_n 0, [0], 0, none), (.getfield 15, [2, 1, 9026], 0, none), (.ifCond .ne 7, [17], 0, none), (.iconst 1, [], 0, none), (.goto 4, [18], 0, none)] ∧
  blk cd_JS_isLatin1 17 = [(.iconst 0, [], 0, none), (.nop, [18], 0, none)] ∧
  blk cd_JS_isLatin1 18 = [(.ireturn, [1], 0, none)] := ⟨rfl, rfl, rfl⟩
theorem ck_JS_isLatin1 : CK mi_JS_isLatin1 cd_JS_isLatin1 := CK.of (by decide +kernel) 3046 rfl
def cd_JL_charAt : List (Nat × List XI) := [(0, [(.iload_n 1, [1], 0, none), (.aload_n 0, [0], 0, none), (.arraylength, [1], 0, none), (.invokestatic 9, [0, 3050, 3051, 3052, 1015, 0, 0], 0, some mi_JS_checkIndex), (.aload_n 0, [0], 0, none), (.iload_n 1, [1], 0, none), (.baload, [1], 0, none), (.sipush 255, [], 0, none), (.iand, [], 0, none), (.i2c, [], 0, none), (.ireturn, [2], 0, none)])]
theorem b_JL_charAt : blk cd_JL_charAt 0 = [(.iload_n 1, [1], 0, none), (.aload_n 0, [0], 0, none), (.arraylength, [1], 0, none), (.invokestatic 9, [0, 3050, 3051, 3052, 1015, 0, 0], 0, some mi_JS_checkIndex), (.aload_n 0, [0], 0, none), (.iload_n 1, [1], 0, none), (.baload, [1], 0, none), (.sipush 255, [], 0, none), (.iand, [], 0, none), (.i2c, [], 0, none), (.ireturn, [2], 0, none)] := rfl
theorem ck_JL_charAt : CK mi_JL_charAt cd_JL_charAt := CK.of (by decide +kernel) 3049 rfl
def cd_JS_checkIndex : List (Nat × List XI) := [(0, [(.iload_n 0, [0], 0, none), (.iload_n 1, [1], 0, none), (.getstatic 1053, [2, 3053, 0], 0, none), (.invokestatic 1059, [0, 3055, 3056, 3057, 1017, 2, 0, 0], 0, some mi_JP_checkIndex), (.pop, [], 0, none), (.return_, [], 0, none)])]
theorem b_JS_checkIndex : blk cd_JS_checkIndex 0 = [(.iload_n 0, [0], 0, none), (.iload_n 1, [1], 0, none), (.getstatic 1053, [2, 3053, 0], 0, none), (.invokestatic 1059, [0, 3055, 3056, 3057, 1017, 2, 0, 0], 0, some mi_JP_checkIndex), (.pop, [], 0, none), (.return_, [], 0, none)] := rfl
theorem ck_JS_checkIndex : CK mi_JS_checkIndex cd_JS_checkIndex := CK.of (by decide +kernel) 3052 rfl
def cd_JP_checkIndex : List (Nat × List XI) := [(0, [(.iload_n 0, [0], 0, none), (.ifCond .lt 8, [9], 0, none), (.iload_n 0, [0], 0, none), (.iload_n 1, [1], 0, none), (.if_icmp .lt 10, [16], 0, none), (.nop, [9], 0, none)]),
  (9, [(.aload_n 2, [2], 0, none), (.iload_n 0, [0], 0, none), (.iload_n 1, [1], 0, none)]),
  (16, [(.iload_n 0, [0], 0, none), (.ireturn, [0], 0, none)])]
theorem b_JP_checkIndex : blk cd_JP_checkIndex 0 = [(.iload_n 0, [0], 0, none), (.ifCond .lt 8, [9], 0, none), (.iload_n 0, [0], 0, none), (.iload_n 1, [1], 0, none), (.if_icmp .lt 10, [16], 0, none), (.nop, [9], 0, none)] ∧
  blk cd_JP_checkIndex 9 = [(.aload_n 2, [2], 0, none), (.iload_n 0, [0], 0, none), (.iload_n 1, [1], 0, none)] ∧
  blk cd_JP_checkIndex 16 = [(.iload_n 0, [0], 0, none), (.ireturn, [0], 0, none)] := ⟨rfl, rfl, rfl⟩
theorem ck_JP_checkIndex : CK mi_JP_checkIndex cd_JP_checkIndex := CK.of (by decide +kernel) 3057 rfl
def cd_JS_indexOf : List (Nat × List XI) := [(0, [(.aload_n 0, [0], 0, none), (.iload_n 1, [1], 0, none), (.iconst 0, [], 0, none), (.invokevirtual 633, [1, 0, 3082, 3083, 3084, 3085, 1015, 0, 0], 0, some mi_JS_indexOf2), (.ireturn, [0], 0, none)])]
theorem b_JS_indexOf : blk cd_JS_indexOf 0 = [(.aload_n 0, [0], 0, none), (.iload_n 1, [1], 0, none), (.iconst 0, [], 0, none), (.invokevirtual 633, [1, 0, 3082, 3083, 3084, 3085, 1015, 0, 0], 0, some mi_JS_indexOf2), (.ireturn, [0], 0, none)] := rfl
theorem ck_JS_indexOf : CK mi_JS_indexOf cd_JS_indexOf := CK.of (by decide +kernel) 3081 rfl
def cd_JS_indexOf2 : List (Nat × List XI) := [(0, [(.aload_n 0, [0], 0, none), (.invokevirtual 492, [1, 0, 3043, 3044, 3045, 3046, 1015], 0, some mi_JS_isLatin1), (.ifCond .eq 19, [23], 0, none), (.aload_n 0, [0], 0, none), (.getfield 9, [2, 0, 9025], 0, none), (.iload_n 1, [1], 0, none), (.iload_n 2, [2], 0, none), (.aload_n 0, [0], 0, none), (.invokevirtual 505, [1, 0, 3086, 3030, 3031, 3032, 1015], 0, some mi_JS_length), (.invokestatic 637, [0, 3087, 3088, 3089, 1016, 0, 0, 0, 2], 0, some mi_JL_indexOf), (.goto 16, [36], 0, none)]),
  (23, [(.aload_n 0, [0], 0, none), (.getfield 9, [2, 0, 9025], 0, none), (.iload_n 1, [1], 0, none), (.iload_n 2, [2], 0, none), (.aload_n 0, [0], 0, none), (.invokevirtual 505, [1, 0, 3086, 3030, 3031, 3032, 1015], 0, some mi_JS_length)]),
  (36, [(.ireturn, [0], 0, none)])]
theorem b_JS_indexOf2 : blk cd_JS_indexOf2 0 = [(.aload_n 0, [0], 0, none), (.invokevirtual 492, [1, 0, 3043, 3044, 3045, 3046, 1015], 0, some mi_JS_isLatin1), (.ifCond .eq 19, [23], 0, none), (.aload_n 0, [0], 0, none), (.getfield 9, [2, 0, 9025], 0, none), (.iload_n 1, [1], 0, none), (.iload_n 2, [2], 0, none), (.aload_n 0, [0], 0, none), (.invokevirtual 505, [1, 0, 3086, 3030, 3031, 3032, 1015], 0, some mi_JS_length), (.invokestatic 637, [0, 3087, 3088, 3089, 1016, 0, 0, 0, 2], 0, some mi_JL_indexOf), (.goto 16, [36], 0, none)] ∧
  blk cd_JS_indexOf2 23 = [(.aload_n 0, [0], 0, none), (.getfield 9, [2, 0, 9025], 0, none), (.iload_n 1, [1], 0, none), (.iload_n 2, [2], 0, none), (.aload_n 0, [0], 0, none), (.invokevirtual 505, [1, 0, 3086, 3030, 3031, 3032, 1015], 0, some mi_JS_length)] ∧
  blk cd_JS_indexOf2 36 = [(.ireturn, [0], 0, none)] := ⟨rfl, rfl, rfl⟩
theorem ck_JS_indexOf2 : CK mi_JS_indexOf2 cd_JS_indexOf2 := CK.of (by decide +kernel) 3085 rfl
def cd_JL_indexOf : List (Nat × List XI) := [(0, [(.iload_n 1, [1], 0, none), (.invokestatic 88, [0, 3090, 3091, 3092, 1016, 0], 0, some mi_JL_canEncode), (.ifCond .ne 5, [9], 0, none), (.iconst (-1), [], 0, none), (.ireturn, [0], 0, none)]),
  (9, [(.iload_n 2, [2], 0, none), (.iconst 0, [], 0, none), (.invokestatic 92, [3, 3093, 3094, 3095, 1014], 0, none), (.istore_n 2, [2], 0, none), (.iload_n 3, [3], 0, none), (.aload_n 0, [0], 0, none), (.arraylength, [1], 0, none), (.invokestatic 38, [4, 3096, 3000, 3001, 1014], 0, none), (.istore_n 3, [3], 0, none), (.iload_n 2, [2], 0, none), (.iload_n 3, [3], 0, none), (.if_icmp .lt 5, [29], 0, none), (.iconst (-1), [], 0, none), (.ireturn, [0], 0, none)]),
  (29, [(.aload_n 0, [0], 0, none), (.iload_n 1, [1], 0, none), (.iload_n 2, [2], 0, none), (.iload_n 3, [3], 0, none), (.invokestatic 95, [0, 3097, 3098, 3099, 1016, 0, 0, 0, 2], 0, some mi_JL_indexOfChar), (.ireturn, [0], 0, none)])]
theorem b_JL_indexOf : blk cd_JL_indexOf 0 = [(.iload_n 1, [1], 0, none), (.invokestatic 88, [0, 3090, 3091, 3092, 1016, 0], 0, some mi_JL_canEncode), (.ifCond .ne 5, [9], 0, none), (.iconst (-1), [], 0, none), (.ireturn, [0], 0, none)] ∧
  blk cd_JL_indexOf 9 = [(.iload_n 2, [2], 0, none), (.iconst 0, [], 0, none), (.invokestatic 92, [3, 3093, 3094, 3095, 1014], 0, none), (.istore_n 2, [2], 0, none), (.iload_n 3, [3], 0, none), (.aload_n 0, [0], 0, none), (.arraylength, [1], 0, none), (.invokestatic 38, [4, 3096, 3000, 3001, 1014], 0, none), (.istore_n 3, [3], 0, none), (.iload_n 2, [2], 0, none), (.iload_n 3, [3], 0, none), (.if_icmp .lt 5, [29], 0, none), (.iconst (-1), [], 0, none), (.ireturn, [0], 0, none)] ∧
  blk cd_JL_indexOf 29 = [(.aload_n 0, [0], 0, none), (.iload_n 1, [1], 0, none), (.iload_n 2, [2], 0, none), (.iload_n 3, [3], 0, none), (.invokestatic 95, [0, 3097, 3098, 3099, 1016, 0, 0, 0, 2], 0, some mi_JL_indexOfChar), (.ireturn, [0], 0, none)] := ⟨rfl, rfl, rfl⟩
theorem ck_JL_indexOf : CK mi_JL_indexOf cd_JL_indexOf := CK.of (by decide +kernel) 3089 rfl
def cd_JL_canEncode : List (Nat × List XI) := [(0, [(.iload_n 0, [0], 0, none), (.ifCond .lt 14, [15], 0, none), (.iload_n 0, [0], 0, none), (.sipush 255, [], 0, none), (.if_icmp .gt 7, [15], 0, none), (.iconst 1, [], 0, none), (.goto 4, [16], 0, none)]),
  (15, [(.iconst 0, [], 0, none), (.nop, [16], 0, none)]),
  (16, [(.ireturn, [1], 0, none)])]
theorem b_JL_canEncode : blk cd_JL_canEncode 0 = [(.iload_n 0, [0], 0, none), (.ifCond .lt 14, [15], 0, none), (.iload_n 0, [0], 0, none), (.sipush 255, [], 0, none), (.if_icmp .gt 7, [15], 0, none), (.iconst 1, [], 0, none), (.goto 4, [16], 0, none)] ∧
  blk cd_JL_canEncode 15 = [(.iconst 0, [], 0, none), (.nop, [16], 0, none)] ∧
  blk cd_JL_canEncode 16 = [(.ireturn, [1], 0, none)] := ⟨rfl, rfl, rfl⟩
theorem ck_JL_canEncode : CK mi_JL_canEncode cd_JL_canEncode := CK.of (by decide +kernel) 3092 rfl
def cd_JL_indexOfChar : List (Nat × List XI) := [(0, [(.iload_n 1, [1], 0, none), (.i2b, [], 0, none), (.istore 4, [], 0, none), (.iload_n 2, [2], 0, none), (.istore 5, [], 0, none), (.nop, [7], 0, none)]),
  (7, [(.iload 5, [], 0, none), (.iload_n 3, [3], 0, none), (.if_icmp .ge 21, [31], 0, none), (.aload_n 0, [0], 0, none), (.iload 5, [], 0, none), (.baload, [1], 0, none), (.iload 4, [], 0, none), (.if_icmp .ne 6, [25], 0, none), (.iload 5, [], 0, none), (.ireturn, [0], 0, none)]),
  (25, [(.iinc 5 1, [], 0, none), (.goto (-21), [7], 0, none)]),
  (31, [(.iconst (-1), [], 0, none), (.ireturn, [0], 0, none)])]
theorem b_JL_indexOfChar : blk cd_JL_indexOfChar 0 = [(.iload_n 1, [1], 0, none), (.i2b, [], 0, none), (.istore 4, [], 0, none), (.iload_n 2, [2], 0, none), (.istore 5, [], 0, none), (.nop, [7], 0, none)] ∧
  blk cd_JL_indexOfChar 7 = [(.iload 5, [], 0, none), (.iload_n 3, [3], 0, none), (.if_icmp .ge 21, [31], 0, none), (.aload_n 0, [0], 0, none), (.iload 5, [], 0, none), (.baload, [1], 0, none), (.iload 4, [], 0, none), (.if_icmp .ne 6, [25], 0, none), (.iload 5, [], 0, none), (.ireturn, [0], 0, none)] ∧
  blk cd_JL_indexOfChar 25 = [(.iinc 5 1, [], 0, none), (.goto (-21), [7], 0, none)] ∧
  blk cd_JL_indexOfChar 31 = [(.iconst (-1), [], 0, none), (.ireturn, [0], 0, none)] := ⟨rfl, rfl, rfl, rfl⟩
theorem ck_JL_indexOfChar : CK mi_JL_indexOfChar cd_JL_indexOfChar := CK.of (by decide +kernel) 3099 rfl
def cd_JS_checkBoundsBeginEnd : List (Nat × List XI) := [(0, [(.iload_n 0, [0], 0, none), (.iload_n 1, [1], 0, none), (.iload_n 2, [2], 0, none), (.getstatic 1053, [2, 3053, 0], 0, none), (.invokestatic 1062, [0, 3115, 3116, 3117, 1017, 2, 0, 0, 0], 0, some mi_JP_checkFromToIndex), (.pop, [], 0, none), (.return_, [], 0, none)])]
theorem b_JS_checkBoundsBeginEnd : blk cd_JS_checkBoundsBeginEnd 0 = [(.iload_n 0, [0], 0, none), (.iload_n 1, [1], 0, none), (.iload_n 2, [2], 0, none), (.getstatic 1053, [2, 3053, 0], 0, none), (.invokestatic 1062, [0, 3115, 3116, 3117, 1017, 2, 0, 0, 0], 0, some mi_JP_checkFromToIndex), (.pop, [], 0, none), (.return_, [], 0, none)] := rfl
theorem ck_JS_checkBoundsBeginEnd : CK mi_JS_checkBoundsBeginEnd cd_JS_checkBoundsBeginEnd := CK.of (by decide +kernel) 3114 rfl
def cd_JP_checkFromToIndex : List (Nat × List XI) := [(0, [(.iload_n 0, [0], 0, none), (.ifCond .lt 13, [14], 0, none), (.iload_n 0, [0], 0, none), (.iload_n 1, [1], 0, none), (.if_icmp .gt 8, [14], 0, none), (.iload_n 1, [1], 0, none), (.iload_n 2, [2], 0, none), (.if_icmp .le 11, [22], 0, none), (.nop, [14], 0, none)]),
  (14, [(.aload_n 3, [3], 0, none), (.iload_n 0, [0], 0, none), (.iload_n 1, [1], 0, none), (.iload_n 2, [2], 0, none)]),
  (22, [(.iload_n 0, [0], 0, none), (.ireturn, [0], 0, none)])]
theorem b_JP_checkFromToIndex : blk cd_JP_checkFromToIndex 0 = [(.iload_n 0, [0], 0, none), (.ifCond .lt 13, [14], 0, none), (.iload_n 0, [0], 0, none), (.iload_n 1, [1], 0, none), (.if_icmp .gt 8, [14], 0, none), (.iload_n 1, [1], 0, none), (.iload_n 2, [2], 0, none), (.if_icmp .le 11, [22], 0, none), (.nop, [14], 0, none)] ∧
  blk cd_JP_checkFromToIndex 14 = [(.aload_n 3, [3], 0, none), (.iload_n 0, [0], 0, none), (.iload_n 1, [1], 0, none), (.iload_n 2, [2], 0, none)] ∧
  blk cd_JP_checkFromToIndex 22 = [(.iload_n 0, [0], 0, none), (.ireturn, [0], 0, none)] := ⟨rfl, rfl, rfl⟩
theorem ck_JP_checkFromToIndex : CK mi_JP_checkFromToIndex cd_JP_checkFromToIndex := CK.of (by decide +kernel) 3117 rfl
def cd_JI_bitCount : List (Nat × List XI) := [(0, [(.iload_n 0, [0], 0, none), (.iload_n 0, [0], 0, none), (.iconst 1, [], 0, none), (.iushr, [], 0, none), (.ldc_w 265, [0, 4072], 1431655765, none), (.iand, [], 0, none), (.isub, [1], 0, none), (.istore_n 0, [0], 0, none), (.iload_n 0, [0], 0, none), (.ldc_w 266, [0, 4073], 858993459, none), (.iand, [], 0, none), (.iload_n 0, [0], 0, none), (.iconst 2, [], 0, none), (.iushr, [], 0, none), (.ldc_w 266, [0, 4073], 858993459, none), (.iand, [], 0, none), (.iadd, [1], 0, none), (.istore_n 0, [0], 0, none), (.iload_n 0, [0], 0, none), (.iload_n 0, [0], 0, none), (.iconst 4, [], 0, none), (.iushr, [], 0, none), (.iadd, [1], 0, none), (.ldc_w 267, [0, 4074], 252645135, none), (.iand, [], 0, none), (.istore_n 0, [0], 0, none), (.iload_n 0, [0], 0, none), (.iload_n 0, [0], 0, none), (.bipush 8, [], 0, none), (.iushr, [], 0, none), (.iadd, [1], 0, none), (.istore_n 0, [0], 0, none), (.iload_n 0, [0], 0, none), (.iload_n 0, [0], 0, none), (.bipush 16, [], 0, none), (.iushr, [], 0, none), (.iadd, [1], 0, none), (.istore_n 0, [0], 0, none), (.iload_n 0, [0], 0, none), (.bipush 63, [], 0, none), (.iand, [], 0, none), (.ireturn, [0], 0, none)])]
theorem b_JI_bitCount : blk cd_JI_bitCount 0 = [(.iload_n 0, [0], 0, none), (.iload_n 0, [0], 0, none), (.iconst 1, [], 0, none), (.iushr, [], 0, none), (.ldc_w 265, [0, 4072], 1431655765, none), (.iand, [], 0, none), (.isub, [1], 0, none), (.istore_n 0, [0], 0, none), (.iload_n 0, [0], 0, none), (.ldc_w 266, [0, 4073], 858993459, none), (.iand, [], 0, none), (.iload_n 0, [0], 0, none), (.iconst 2, [], 0, none), (.iushr, [], 0, none), (.ldc_w 266, [0, 4073], 858993459, none), (.iand, [], 0, none), (.iadd, [1], 0, none), (.istore_n 0, [0], 0, none), (.iload_n 0, [0], 0, none), (.iload_n 0, [0], 0, none), (.iconst 4, [], 0, none), (.iushr, [], 0, none), (.iadd, [1], 0, none), (.ldc_w 267, [0, 4074], 252645135, none), (.iand, [], 0, none), (.istore_n 0, [0], 0, none), (.iload_n 0, [0], 0, none), (.iload_n 0, [0], 0, none), (.bipush 8, [], 0, none), (.iushr, [], 0, none), (.iadd, [1], 0, none), (.istore_n 0, [0], 0, none), (.iload_n 0, [0], 0, none), (.iload_n 0, [0], 0, none), (.bipush 16, [], 0, none), (.iushr, [], 0, none), (.iadd, [1], 0, none), (.istore_n 0, [0], 0, none), (.iload_n 0, [0], 0, none), (.bipush 63, [], 0, none), (.iand, [], 0, none), (.ireturn, [0], 0, none)] := rfl
theorem ck_JI_bitCount : CK mi_JI_bitCount cd_JI_bitCount := CK.of (by decide +kernel) 4071 rfl
def cd_JA_fill : List (Nat × List XI) := [(0, [(.aload_n 0, [0], 0, none), (.arraylength, [0], 0, none), (.iload_n 1, [1], 0, none), (.iload_n 2, [2], 0, none), (.invokestatic 13, [0, 4207, 4208, 4209, 1022, 0, 0, 0], 0, some mi_JA_rangeCheck), (.iload_n 1, [1], 0, none), (.istore 4, [], 0, none), (.nop, [10], 0, none)]),
  (10, [(.iload 4, [], 0, none), (.iload_n 2, [2], 0, none), (.if_icmp .ge 14, [27], 0, none), (.aload_n 0, [0], 0, none), (.iload 4, [], 0, none), (.iload_n 3, [3], 0, none), (.iastore, [], 0, none), (.iinc 4 1, [], 0, none), (.goto (-14), [10], 0, none)]),
  (27, [(.return_, [], 0, none)])]
theorem b_JA_fill : blk cd_JA_fill 0 = [(.aload_n 0, [0], 0, none), (.arraylength, [0], 0, none), (.iload_n 1, [1], 0, none), (.iload_n 2, [2], 0, none), (.invokestatic 13, [0, 4207, 4208, 4209, 1022, 0, 0, 0], 0, some mi_JA_rangeCheck), (.iload_n 1, [1], 0, none), (.istore 4, [], 0, none), (.nop, [10], 0, none)] ∧
  blk cd_JA_fill 10 = [(.iload 4, [], 0, none), (.iload_n 2, [2], 0, none), (.if_icmp .ge 14, [27], 0, none), (.aload_n 0, [0], 0, none), (.iload 4, [], 0, none), (.iload_n 3, [3], 0, none), (.iastore, [], 0, none), (.iinc 4 1, [], 0, none), (.goto (-14), [10], 0, none)] ∧
  blk cd_JA_fill 27 = [(.return_, [], 0, none)] := ⟨rfl, rfl, rfl⟩
theorem ck_JA_fill : CK mi_JA_fill cd_JA_fill := CK.of (by decide +kernel) 4206 rfl
def cd_JA_rangeCheck : List (Nat × List XI) := [(0, [(.iload_n 1, [1], 0, none), (.iload_n 2, [2], 0, none), (.if_icmp .le 44, [46], 0, none)]),
  (46, [(.iload_n 1, [1], 0, none), (.ifCond .ge 12, [59], 0, none)]),
  (59, [(.iload_n 2, [2], 0, none), (.iload_n 0, [0], 0, none), (.if_icmp .le 12, [73], 0, none)]),
  (73, [(.return_, [], 0, none)])]
theorem b_JA_rangeCheck : blk cd_JA_rangeCheck 0 = [(.iload_n 1, [1], 0, none), (.iload_n 2, [2], 0, none), (.if_icmp .le 44, [46], 0, none)] ∧
  blk cd_JA_rangeCheck 46 = [(.iload_n 1, [1], 0, none), (.ifCond .ge 12, [59], 0, none)] ∧
  blk cd_JA_rangeCheck 59 = [(.iload_n 2, [2], 0, none), (.iload_n 0, [0], 0, none), (.if_icmp .le 12, [73], 0, none)] ∧
  blk cd_JA_rangeCheck 73 = [(.return_, [], 0, none)] := ⟨rfl, rfl, rfl, rfl⟩
theorem ck_JA_rangeCheck : CK mi_JA_rangeCheck cd_JA_rangeCheck := CK.of (by decide +kernel) 4209 rfl
def cd_JA_fill2 : List (Nat × List XI) := [(0, [(.iconst 0, [], 0, none), (.istore_n 2, [2], 0, none), (.aload_n 0, [0], 0, none), (.arraylength, [0], 0, none), (.istore_n 3, [3], 0, none), (.nop, [5], 0, none)]),
  (5, [(.iload_n 2, [2], 0, none), (.iload_n 3, [3], 0, none), (.if_icmp .ge 13, [20], 0, none), (.aload_n 0, [0], 0, none), (.iload_n 2, [2], 0, none), (.iload_n 1, [1], 0, none), (.iastore, [], 0, none), (.iinc 2 1, [], 0, none), (.goto (-12), [5], 0, none)]),
  (20, [(.return_, [], 0, none)])]
theorem b_JA_fill2 : blk cd_JA_fill2 0 = [(.iconst 0, [], 0, none), (.istore_n 2, [2], 0, none), (.aload_n 0, [0], 0, none), (.arraylength, [0], 0, none), (.istore_n 3, [3], 0, none), (.nop, [5], 0, none)] ∧
  blk cd_JA_fill2 5 = [(.iload_n 2, [2], 0, none), (.iload_n 3, [3], 0, none), (.if_icmp .ge 13, [20], 0, none), (.aload_n 0, [0], 0, none), (.iload_n 2, [2], 0, none), (.iload_n 1, [1], 0, none), (.iastore, [], 0, none), (.iinc 2 1, [], 0, none), (.goto (-12), [5], 0, none)] ∧
  blk cd_JA_fill2 20 = [(.return_, [], 0, none)] := ⟨rfl, rfl, rfl⟩
theorem ck_JA_fill2 : CK mi_JA_fill2 cd_JA_fill2 := CK.of (by decide +kernel) 4229 rfl
def cd_JA_fill3 : List (Nat × List XI) := [(0, [(.iconst 0, [], 0, none), (.istore_n 3, [3], 0, none), (.aload_n 0, [0], 0, none), (.arraylength, [0], 0, none), (.istore 4, [], 0, none), (.nop, [6], 0, none)]),
  (6, [(.iload_n 3, [3], 0, none), (.iload 4, [], 0, none), (.if_icmp .ge 13, [22], 0, none), (.aload_n 0, [0], 0, none), (.iload_n 3, [3], 0, none), (.lload_n 1, [1], 0, none), (.lastore, [], 0, none), (.iinc 3 1, [], 0, none), (.goto (-13), [6], 0, none)]),
  (22, [(.return_, [], 0, none)])]
theorem b_JA_fill3 : blk cd_JA_fill3 0 = [(.iconst 0, [], 0, none), (.istore_n 3, [3], 0, none), (.aload_n 0, [0], 0, none), (.arraylength, [0], 0, none), (.istore 4, [], 0, none), (.nop, [6], 0, none)] ∧
  blk cd_JA_fill3 6 = [(.iload_n 3, [3], 0, none), (.iload 4, [], 0, none), (.if_icmp .ge 13, [22], 0, none), (.aload_n 0, [0], 0, none), (.iload_n 3, [3], 0, none), (.lload_n 1, [1], 0, none), (.lastore, [], 0, none), (.iinc 3 1, [], 0, none), (.goto (-13), [6], 0, none)] ∧
  blk cd_JA_fill3 22 = [(.return_, [], 0, none)] := ⟨rfl, rfl, rfl⟩
theorem ck_JA_fill3 : CK mi_JA_fill3 cd_JA_fill3 := CK.of (by decide +kernel) 6080 rfl
