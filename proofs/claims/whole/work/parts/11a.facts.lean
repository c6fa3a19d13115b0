/-! places: what lies where -/
theorem shK_nat (k : Nat) : shK (k : Int) = shL[k]? := by
  unfold shK
  rw [if_pos (by omega)]
  rfl
theorem isO_of {k ci : Nat} (h : shL[k]? = some (.inr ci)) {z : Int} (hz : z = k) : isO z ci := by
  subst hz
  unfold isO
  rw [shK_nat, h]
theorem arT_of {k n : Nat} {ty : FieldType} (h : shL[k]? = some (.inl (ty, n))) {z : Int} (hz : z = k) : arT z ty ∧ alen z = n := by
  subst hz
  have e : shK (k : Int) = some (.inl (ty, n)) := by rw [shK_nat, h]
  exact ⟨⟨n, e⟩, by unfold alen; rw [e]⟩
theorem shO0 : isO 0 0 ∧ isO 2 1 ∧ isO 7 2 ∧ isO 10 3 ∧ isO 12 3 ∧ isO 16 2 ∧ isO 19 3 ∧ isO 21 3 ∧ isO 25 4 ∧ isO 27 4 ∧ isO 33 5 ∧ isO 43 6 ∧ isO 49 7 ∧ isO 53 8 ∧ isO 56 9 ∧ isO 58 10 ∧ isO 62 10 ∧ isO 67 4 ∧ isO 69 4 ∧ isO 71 4 ∧ isO 73 4 ∧ isO 75 4 ∧ isO 77 4 ∧ isO 79 4 ∧ isO 81 4 ∧ isO 83 4 ∧ isO 85 4 ∧ isO 87 11 ∧ isO 89 11 ∧ isO 91 11 ∧ isO 93 11 ∧ isO 95 2 ∧ isO 98 3 ∧ isO 100 3 ∧ isO 104 4 ∧ isO 106 2 ∧ isO 109 3 ∧ isO 111 3 ∧ isO 115 4 ∧ isO 117 12 := ⟨isO_of (k := 0) rfl rfl, isO_of (k := 2) rfl rfl, isO_of (k := 7) rfl rfl, isO_of (k := 10) rfl rfl, isO_of (k := 12) rfl rfl, isO_of (k := 16) rfl rfl, isO_of (k := 19) rfl rfl, isO_of (k := 21) rfl rfl, isO_of (k := 25) rfl rfl, isO_of (k := 27) rfl rfl, isO_of (k := 33) rfl rfl, isO_of (k := 43) rfl rfl, isO_of (k := 49) rfl rfl, isO_of (k := 53) rfl rfl, isO_of (k := 56) rfl rfl, isO_of (k := 58) rfl rfl, isO_of (k := 62) rfl rfl, isO_of (k := 67) rfl rfl, isO_of (k := 69) rfl rfl, isO_of (k := 71) rfl rfl, isO_of (k := 73) rfl rfl, isO_of (k := 75) rfl rfl, isO_of (k := 77) rfl rfl, isO_of (k := 79) rfl rfl, isO_of (k := 81) rfl rfl, isO_of (k := 83) rfl rfl, isO_of (k := 85) rfl rfl, isO_of (k := 87) rfl rfl, isO_of (k := 89) rfl rfl, isO_of (k := 91) rfl rfl, isO_of (k := 93) rfl rfl, isO_of (k := 95) rfl rfl, isO_of (k := 98) rfl rfl, isO_of (k := 100) rfl rfl, isO_of (k := 104) rfl rfl, isO_of (k := 106) rfl rfl, isO_of (k := 109) rfl rfl, isO_of (k := 111) rfl rfl, isO_of (k := 115) rfl rfl, isO_of (k := 117) rfl rfl⟩
theorem shA0 : (arT 1 .byte ∧ alen 1 = 900) ∧ (arT 3 .byte ∧ alen 3 = 0) ∧ (arT 4 .int ∧ alen 4 = 901) ∧ (arT 5 .int ∧ alen 5 = 901) ∧ (arT 6 .int ∧ alen 6 = 901) ∧ (arT 8 .int ∧ alen 8 = 5) ∧ (arT 9 .int ∧ alen 9 = 5) ∧ (arT 11 .int ∧ alen 11 = 900) ∧ (arT 13 .int ∧ alen 13 = 900) ∧ (arT 14 .int ∧ alen 14 = 9) ∧ (arT 15 .int ∧ alen 15 = 100) ∧ (arT 17 .int ∧ alen 17 = 5) ∧ (arT 18 .int ∧ alen 18 = 5) ∧ (arT 20 .int ∧ alen 20 = 900) ∧ (arT 22 .int ∧ alen 22 = 900) ∧ (arT 23 .int ∧ alen 23 = 9) ∧ (arT 24 .int ∧ alen 24 = 100) ∧ (arT 26 .int ∧ alen 26 = 5) ∧ (arT 28 .int ∧ alen 28 = 5) ∧ (arT 29 (.object "HandsHeld$Moment") ∧ alen 29 = 10) ∧ (arT 30 (.object "HandsHeld$Tray") ∧ alen 30 = 4) ∧ (arT 31 (.object "HandsHeld$Hall") ∧ alen 31 = 2) ∧ (arT 32 (.object "HandsHeld$Moment") ∧ alen 32 = 2) ∧ (arT 34 .int ∧ alen 34 = 2) ∧ (arT 35 .int ∧ alen 35 = 800) ∧ (arT 36 .boolean ∧ alen 36 = 25) ∧ (arT 37 .int ∧ alen 37 = 4000) ∧ (arT 38 .int ∧ alen 38 = 800) ∧ (arT 39 .int ∧ alen 39 = 125) ∧ (arT 40 .int ∧ alen 40 = 125) ∧ (arT 41 .int ∧ alen 41 = 25) ∧ (arT 42 .int ∧ alen 42 = 25) ∧ (arT 44 .int ∧ alen 44 = 3125) ∧ (arT 45 .int ∧ alen 45 = 3125) ∧ (arT 46 .int ∧ alen 46 = 3125) ∧ (arT 47 .int ∧ alen 47 = 3125) ∧ (arT 48 .int ∧ alen 48 = 3125) ∧ (arT 50 .int ∧ alen 50 = 3125) ∧ (arT 51 .int ∧ alen 51 = 3125) ∧ (arT 52 .int ∧ alen 52 = 3125) := ⟨arT_of (k := 1) rfl rfl, arT_of (k := 3) rfl rfl, arT_of (k := 4) rfl rfl, arT_of (k := 5) rfl rfl, arT_of (k := 6) rfl rfl, arT_of (k := 8) rfl rfl, arT_of (k := 9) rfl rfl, arT_of (k := 11) rfl rfl, arT_of (k := 13) rfl rfl, arT_of (k := 14) rfl rfl, arT_of (k := 15) rfl rfl, arT_of (k := 17) rfl rfl, arT_of (k := 18) rfl rfl, arT_of (k := 20) rfl rfl, arT_of (k := 22) rfl rfl, arT_of (k := 23) rfl rfl, arT_of (k := 24) rfl rfl, arT_of (k := 26) rfl rfl, arT_of (k := 28) rfl rfl, arT_of (k := 29) rfl rfl, arT_of (k := 30) rfl rfl, arT_of (k := 31) rfl rfl, arT_of (k := 32) rfl rfl, arT_of (k := 34) rfl rfl, arT_of (k := 35) rfl rfl, arT_of (k := 36) rfl rfl, arT_of (k := 37) rfl rfl, arT_of (k := 38) rfl rfl, arT_of (k := 39) rfl rfl, arT_of (k := 40) rfl rfl, arT_of (k := 41) rfl rfl, arT_of (k := 42) rfl rfl, arT_of (k := 44) rfl rfl, arT_of (k := 45) rfl rfl, arT_of (k := 46) rfl rfl, arT_of (k := 47) rfl rfl, arT_of (k := 48) rfl rfl, arT_of (k := 50) rfl rfl, arT_of (k := 51) rfl rfl, arT_of (k := 52) rfl rfl⟩
theorem shA1 : (arT 54 .int ∧ alen 54 = 3125) ∧ (arT 55 .int ∧ alen 55 = 3125) ∧ (arT 57 .int ∧ alen 57 = 10) ∧ (arT 59 .int ∧ alen 59 = 3125) ∧ (arT 60 .long ∧ alen 60 = 3125) ∧ (arT 61 .int ∧ alen 61 = 3125) ∧ (arT 63 .int ∧ alen 63 = 3125) ∧ (arT 64 .long ∧ alen 64 = 3125) ∧ (arT 65 .int ∧ alen 65 = 3125) ∧ (arT 66 .int ∧ alen 66 = 25000) ∧ (arT 68 .int ∧ alen 68 = 5) ∧ (arT 70 .int ∧ alen 70 = 5) ∧ (arT 72 .int ∧ alen 72 = 5) ∧ (arT 74 .int ∧ alen 74 = 5) ∧ (arT 76 .int ∧ alen 76 = 5) ∧ (arT 78 .int ∧ alen 78 = 5) ∧ (arT 80 .int ∧ alen 80 = 5) ∧ (arT 82 .int ∧ alen 82 = 5) ∧ (arT 84 .int ∧ alen 84 = 5) ∧ (arT 86 .int ∧ alen 86 = 5) ∧ (arT 88 .long ∧ alen 88 = 40) ∧ (arT 90 .long ∧ alen 90 = 40) ∧ (arT 92 .long ∧ alen 92 = 40) ∧ (arT 94 .long ∧ alen 94 = 40) ∧ (arT 96 .int ∧ alen 96 = 5) ∧ (arT 97 .int ∧ alen 97 = 5) ∧ (arT 99 .int ∧ alen 99 = 900) ∧ (arT 101 .int ∧ alen 101 = 900) ∧ (arT 102 .int ∧ alen 102 = 9) ∧ (arT 103 .int ∧ alen 103 = 100) ∧ (arT 105 .int ∧ alen 105 = 5) ∧ (arT 107 .int ∧ alen 107 = 5) ∧ (arT 108 .int ∧ alen 108 = 5) ∧ (arT 110 .int ∧ alen 110 = 900) ∧ (arT 112 .int ∧ alen 112 = 900) ∧ (arT 113 .int ∧ alen 113 = 9) ∧ (arT 114 .int ∧ alen 114 = 100) ∧ (arT 116 .int ∧ alen 116 = 5) ∧ (arT 118 .int ∧ alen 118 = 3159) ∧ (arT 119 .boolean ∧ alen 119 = 2) := ⟨arT_of (k := 54) rfl rfl, arT_of (k := 55) rfl rfl, arT_of (k := 57) rfl rfl, arT_of (k := 59) rfl rfl, arT_of (k := 60) rfl rfl, arT_of (k := 61) rfl rfl, arT_of (k := 63) rfl rfl, arT_of (k := 64) rfl rfl, arT_of (k := 65) rfl rfl, arT_of (k := 66) rfl rfl, arT_of (k := 68) rfl rfl, arT_of (k := 70) rfl rfl, arT_of (k := 72) rfl rfl, arT_of (k := 74) rfl rfl, arT_of (k := 76) rfl rfl, arT_of (k := 78) rfl rfl, arT_of (k := 80) rfl rfl, arT_of (k := 82) rfl rfl, arT_of (k := 84) rfl rfl, arT_of (k := 86) rfl rfl, arT_of (k := 88) rfl rfl, arT_of (k := 90) rfl rfl, arT_of (k := 92) rfl rfl, arT_of (k := 94) rfl rfl, arT_of (k := 96) rfl rfl, arT_of (k := 97) rfl rfl, arT_of (k := 99) rfl rfl, arT_of (k := 101) rfl rfl, arT_of (k := 102) rfl rfl, arT_of (k := 103) rfl rfl, arT_of (k := 105) rfl rfl, arT_of (k := 107) rfl rfl, arT_of (k := 108) rfl rfl, arT_of (k := 110) rfl rfl, arT_of (k := 112) rfl rfl, arT_of (k := 113) rfl rfl, arT_of (k := 114) rfl rfl, arT_of (k := 116) rfl rfl, arT_of (k := 118) rfl rfl, arT_of (k := 119) rfl rfl⟩
theorem shA2 : (arT 120 .int ∧ alen 120 = 900) ∧ (arT 121 .int ∧ alen 121 = 1053) ∧ (arT 122 .int ∧ alen 122 = 900) ∧ (arT 123 .int ∧ alen 123 = 9) ∧ (arT 124 .int ∧ alen 124 = 12) ∧ (arT 125 .int ∧ alen 125 = 3125) ∧ (arT 126 .int ∧ alen 126 = 100000) ∧ (arT 127 .int ∧ alen 127 = 3125) ∧ (arT 128 .int ∧ alen 128 = 3125) ∧ (arT 129 .byte ∧ alen 129 = 100000) ∧ (arT 130 .boolean ∧ alen 130 = 3125) ∧ (arT 131 .long ∧ alen 131 = 3125) ∧ (arT 132 .long ∧ alen 132 = 3125) ∧ (arT 133 .long ∧ alen 133 = 28125) ∧ (arT 134 .int ∧ alen 134 = 10) ∧ (arT 135 .int ∧ alen 135 = 4) ∧ (arT 136 .int ∧ alen 136 = 4) ∧ (arT 137 .long ∧ alen 137 = 160) := ⟨arT_of (k := 120) rfl rfl, arT_of (k := 121) rfl rfl, arT_of (k := 122) rfl rfl, arT_of (k := 123) rfl rfl, arT_of (k := 124) rfl rfl, arT_of (k := 125) rfl rfl, arT_of (k := 126) rfl rfl, arT_of (k := 127) rfl rfl, arT_of (k := 128) rfl rfl, arT_of (k := 129) rfl rfl, arT_of (k := 130) rfl rfl, arT_of (k := 131) rfl rfl, arT_of (k := 132) rfl rfl, arT_of (k := 133) rfl rfl, arT_of (k := 134) rfl rfl, arT_of (k := 135) rfl rfl, arT_of (k := 136) rfl rfl, arT_of (k := 137) rfl rfl⟩
theorem shR0 : arR 29 4 ∧ arR 30 11 ∧ arR 31 2 ∧ arR 32 4 := ⟨(arT_of (k := 29) rfl rfl).1, (arT_of (k := 30) rfl rfl).1, (arT_of (k := 31) rfl rfl).1, (arT_of (k := 32) rfl rfl).1⟩
theorem isArr_of {z : Int} {ty : FieldType} (h : arT z ty) : isArr z := ⟨ty, h⟩
theorem shI0 : isArr 1 ∧ isArr 3 ∧ isArr 4 ∧ isArr 5 ∧ isArr 6 ∧ isArr 8 ∧ isArr 9 ∧ isArr 11 ∧ isArr 13 ∧ isArr 14 ∧ isArr 15 ∧ isArr 17 ∧ isArr 18 ∧ isArr 20 ∧ isArr 22 ∧ isArr 23 ∧ isArr 24 ∧ isArr 26 ∧ isArr 28 ∧ isArr 29 ∧ isArr 30 ∧ isArr 31 ∧ isArr 32 ∧ isArr 34 ∧ isArr 35 ∧ isArr 36 ∧ isArr 37 ∧ isArr 38 ∧ isArr 39 ∧ isArr 40 ∧ isArr 41 ∧ isArr 42 ∧ isArr 44 ∧ isArr 45 ∧ isArr 46 ∧ isArr 47 ∧ isArr 48 ∧ isArr 50 ∧ isArr 51 ∧ isArr 52 := ⟨⟨_, (arT_of (k := 1) rfl rfl).1⟩, ⟨_, (arT_of (k := 3) rfl rfl).1⟩, ⟨_, (arT_of (k := 4) rfl rfl).1⟩, ⟨_, (arT_of (k := 5) rfl rfl).1⟩, ⟨_, (arT_of (k := 6) rfl rfl).1⟩, ⟨_, (arT_of (k := 8) rfl rfl).1⟩, ⟨_, (arT_of (k := 9) rfl rfl).1⟩, ⟨_, (arT_of (k := 11) rfl rfl).1⟩, ⟨_, (arT_of (k := 13) rfl rfl).1⟩, ⟨_, (arT_of (k := 14) rfl rfl).1⟩, ⟨_, (arT_of (k := 15) rfl rfl).1⟩, ⟨_, (arT_of (k := 17) rfl rfl).1⟩, ⟨_, (arT_of (k := 18) rfl rfl).1⟩, ⟨_, (arT_of (k := 20) rfl rfl).1⟩, ⟨_, (arT_of (k := 22) rfl rfl).1⟩, ⟨_, (arT_of (k := 23) rfl rfl).1⟩, ⟨_, (arT_of (k := 24) rfl rfl).1⟩, ⟨_, (arT_of (k := 26) rfl rfl).1⟩, ⟨_, (arT_of (k := 28) rfl rfl).1⟩, ⟨_, (arT_of (k := 29) rfl rfl).1⟩, ⟨_, (arT_of (k := 30) rfl rfl).1⟩, ⟨_, (arT_of (k := 31) rfl rfl).1⟩, ⟨_, (arT_of (k := 32) rfl rfl).1⟩, ⟨_, (arT_of (k := 34) rfl rfl).1⟩, ⟨_, (arT_of (k := 35) rfl rfl).1⟩, ⟨_, (arT_of (k := 36) rfl rfl).1⟩, ⟨_, (arT_of (k := 37) rfl rfl).1⟩, ⟨_, (arT_of (k := 38) rfl rfl).1⟩, ⟨_, (arT_of (k := 39) rfl rfl).1⟩, ⟨_, (arT_of (k := 40) rfl rfl).1⟩, ⟨_, (arT_of (k := 41) rfl rfl).1⟩, ⟨_, (arT_of (k := 42) rfl rfl).1⟩, ⟨_, (arT_of (k := 44) rfl rfl).1⟩, ⟨_, (arT_of (k := 45) rfl rfl).1⟩, ⟨_, (arT_of (k := 46) rfl rfl).1⟩, ⟨_, (arT_of (k := 47) rfl rfl).1⟩, ⟨_, (arT_of (k := 48) rfl rfl).1⟩, ⟨_, (arT_of (k := 50) rfl rfl).1⟩, ⟨_, (arT_of (k := 51) rfl rfl).1⟩, ⟨_, (arT_of (k := 52) rfl rfl).1⟩⟩
theorem shI1 : isArr 54 ∧ isArr 55 ∧ isArr 57 ∧ isArr 59 ∧ isArr 60 ∧ isArr 61 ∧ isArr 63 ∧ isArr 64 ∧ isArr 65 ∧ isArr 66 ∧ isArr 68 ∧ isArr 70 ∧ isArr 72 ∧ isArr 74 ∧ isArr 76 ∧ isArr 78 ∧ isArr 80 ∧ isArr 82 ∧ isArr 84 ∧ isArr 86 ∧ isArr 88 ∧ isArr 90 ∧ isArr 92 ∧ isArr 94 ∧ isArr 96 ∧ isArr 97 ∧ isArr 99 ∧ isArr 101 ∧ isArr 102 ∧ isArr 103 ∧ isArr 105 ∧ isArr 107 ∧ isArr 108 ∧ isArr 110 ∧ isArr 112 ∧ isArr 113 ∧ isArr 114 ∧ isArr 116 ∧ isArr 118 ∧ isArr 119 := ⟨⟨_, (arT_of (k := 54) rfl rfl).1⟩, ⟨_, (arT_of (k := 55) rfl rfl).1⟩, ⟨_, (arT_of (k := 57) rfl rfl).1⟩, ⟨_, (arT_of (k := 59) rfl rfl).1⟩, ⟨_, (arT_of (k := 60) rfl rfl).1⟩, ⟨_, (arT_of (k := 61) rfl rfl).1⟩, ⟨_, (arT_of (k := 63) rfl rfl).1⟩, ⟨_, (arT_of (k := 64) rfl rfl).1⟩, ⟨_, (arT_of (k := 65) rfl rfl).1⟩, ⟨_, (arT_of (k := 66) rfl rfl).1⟩, ⟨_, (arT_of (k := 68) rfl rfl).1⟩, ⟨_, (arT_of (k := 70) rfl rfl).1⟩, ⟨_, (arT_of (k := 72) rfl rfl).1⟩, ⟨_, (arT_of (k := 74) rfl rfl).1⟩, ⟨_, (arT_of (k := 76) rfl rfl).1⟩, ⟨_, (arT_of (k := 78) rfl rfl).1⟩, ⟨_, (arT_of (k := 80) rfl rfl).1⟩, ⟨_, (arT_of (k := 82) rfl rfl).1⟩, ⟨_, (arT_of (k := 84) rfl rfl).1⟩, ⟨_, (arT_of (k := 86) rfl rfl).1⟩, ⟨_, (arT_of (k := 88) rfl rfl).1⟩, ⟨_, (arT_of (k := 90) rfl rfl).1⟩, ⟨_, (arT_of (k := 92) rfl rfl).1⟩, ⟨_, (arT_of (k := 94) rfl rfl).1⟩, ⟨_, (arT_of (k := 96) rfl rfl).1⟩, ⟨_, (arT_of (k := 97) rfl rfl).1⟩, ⟨_, (arT_of (k := 99) rfl rfl).1⟩, ⟨_, (arT_of (k := 101) rfl rfl).1⟩, ⟨_, (arT_of (k := 102) rfl rfl).1⟩, ⟨_, (arT_of (k := 103) rfl rfl).1⟩, ⟨_, (arT_of (k := 105) rfl rfl).1⟩, ⟨_, (arT_of (k := 107) rfl rfl).1⟩, ⟨_, (arT_of (k := 108) rfl rfl).1⟩, ⟨_, (arT_of (k := 110) rfl rfl).1⟩, ⟨_, (arT_of (k := 112) rfl rfl).1⟩, ⟨_, (arT_of (k := 113) rfl rfl).1⟩, ⟨_, (arT_of (k := 114) rfl rfl).1⟩, ⟨_, (arT_of (k := 116) rfl rfl).1⟩, ⟨_, (arT_of (k := 118) rfl rfl).1⟩, ⟨_, (arT_of (k := 119) rfl rfl).1⟩⟩
theorem shI2 : isArr 120 ∧ isArr 121 ∧ isArr 122 ∧ isArr 123 ∧ isArr 124 ∧ isArr 125 ∧ isArr 126 ∧ isArr 127 ∧ isArr 128 ∧ isArr 129 ∧ isArr 130 ∧ isArr 131 ∧ isArr 132 ∧ isArr 133 ∧ isArr 134 ∧ isArr 135 ∧ isArr 136 ∧ isArr 137 := ⟨⟨_, (arT_of (k := 120) rfl rfl).1⟩, ⟨_, (arT_of (k := 121) rfl rfl).1⟩, ⟨_, (arT_of (k := 122) rfl rfl).1⟩, ⟨_, (arT_of (k := 123) rfl rfl).1⟩, ⟨_, (arT_of (k := 124) rfl rfl).1⟩, ⟨_, (arT_of (k := 125) rfl rfl).1⟩, ⟨_, (arT_of (k := 126) rfl rfl).1⟩, ⟨_, (arT_of (k := 127) rfl rfl).1⟩, ⟨_, (arT_of (k := 128) rfl rfl).1⟩, ⟨_, (arT_of (k := 129) rfl rfl).1⟩, ⟨_, (arT_of (k := 130) rfl rfl).1⟩, ⟨_, (arT_of (k := 131) rfl rfl).1⟩, ⟨_, (arT_of (k := 132) rfl rfl).1⟩, ⟨_, (arT_of (k := 133) rfl rfl).1⟩, ⟨_, (arT_of (k := 134) rfl rfl).1⟩, ⟨_, (arT_of (k := 135) rfl rfl).1⟩, ⟨_, (arT_of (k := 136) rfl rfl).1⟩, ⟨_, (arT_of (k := 137) rfl rfl).1⟩⟩
theorem shMd : isO 117 12 ∧ (arT 118 .int ∧ alen 118 = 3159) ∧ (arT 119 .boolean ∧ alen 119 = 2) ∧ (arT 120 .int ∧ alen 120 = 900) ∧ (arT 121 .int ∧ alen 121 = 1053) ∧ (arT 122 .int ∧ alen 122 = 900) ∧ (arT 123 .int ∧ alen 123 = 9) ∧ (arT 124 .int ∧ alen 124 = 12) ∧ (arT 125 .int ∧ alen 125 = 3125) ∧ (arT 126 .int ∧ alen 126 = 100000) ∧ (arT 127 .int ∧ alen 127 = 3125) ∧ (arT 128 .int ∧ alen 128 = 3125) ∧ (arT 129 .byte ∧ alen 129 = 100000) ∧ (arT 130 .boolean ∧ alen 130 = 3125) ∧ (arT 131 .long ∧ alen 131 = 3125) ∧ (arT 132 .long ∧ alen 132 = 3125) ∧ (arT 133 .long ∧ alen 133 = 28125) ∧ (arT 134 .int ∧ alen 134 = 10) ∧ (arT 135 .int ∧ alen 135 = 4) ∧ (arT 136 .int ∧ alen 136 = 4) ∧ (arT 137 .long ∧ alen 137 = 160) := ⟨isO_of (k := 117) rfl rfl, arT_of (k := 118) rfl rfl, arT_of (k := 119) rfl rfl, arT_of (k := 120) rfl rfl, arT_of (k := 121) rfl rfl, arT_of (k := 122) rfl rfl, arT_of (k := 123) rfl rfl, arT_of (k := 124) rfl rfl, arT_of (k := 125) rfl rfl, arT_of (k := 126) rfl rfl, arT_of (k := 127) rfl rfl, arT_of (k := 128) rfl rfl, arT_of (k := 129) rfl rfl, arT_of (k := 130) rfl rfl, arT_of (k := 131) rfl rfl, arT_of (k := 132) rfl rfl, arT_of (k := 133) rfl rfl, arT_of (k := 134) rfl rfl, arT_of (k := 135) rfl rfl, arT_of (k := 136) rfl rfl, arT_of (k := 137) rfl rfl⟩
theorem shH : isO 0 0 ∧ (arT 1 .byte ∧ alen 1 = 900) ∧ isO 2 1 ∧ isO 25 4 ∧ isO 27 4 ∧ isO 33 5 ∧ isO 43 6 ∧ isO 49 7 ∧ isO 53 8 ∧ isO 56 9 ∧ (arT 4 .int ∧ alen 4 = 901) ∧ (arT 5 .int ∧ alen 5 = 901) ∧ (arT 6 .int ∧ alen 6 = 901) := ⟨isO_of (k := 0) rfl rfl, arT_of (k := 1) rfl rfl, isO_of (k := 2) rfl rfl, isO_of (k := 25) rfl rfl, isO_of (k := 27) rfl rfl, isO_of (k := 33) rfl rfl, isO_of (k := 43) rfl rfl, isO_of (k := 49) rfl rfl, isO_of (k := 53) rfl rfl, isO_of (k := 56) rfl rfl, arT_of (k := 4) rfl rfl, arT_of (k := 5) rfl rfl, arT_of (k := 6) rfl rfl⟩
theorem shSt : isO 33 5 ∧ (arT 34 .int ∧ alen 34 = 2) ∧ (arT 35 .int ∧ alen 35 = 800) ∧ (arT 36 .boolean ∧ alen 36 = 25) ∧ (arT 37 .int ∧ alen 37 = 4000) ∧ (arT 38 .int ∧ alen 38 = 800) ∧ (arT 39 .int ∧ alen 39 = 125) ∧ (arT 40 .int ∧ alen 40 = 125) ∧ (arT 41 .int ∧ alen 41 = 25) ∧ (arT 42 .int ∧ alen 42 = 25) := ⟨isO_of (k := 33) rfl rfl, arT_of (k := 34) rfl rfl, arT_of (k := 35) rfl rfl, arT_of (k := 36) rfl rfl, arT_of (k := 37) rfl rfl, arT_of (k := 38) rfl rfl, arT_of (k := 39) rfl rfl, arT_of (k := 40) rfl rfl, arT_of (k := 41) rfl rfl, arT_of (k := 42) rfl rfl⟩
theorem shWa : isO 43 6 ∧ (arT 44 .int ∧ alen 44 = 3125) ∧ (arT 45 .int ∧ alen 45 = 3125) ∧ (arT 46 .int ∧ alen 46 = 3125) ∧ (arT 47 .int ∧ alen 47 = 3125) ∧ (arT 48 .int ∧ alen 48 = 3125) := ⟨isO_of (k := 43) rfl rfl, arT_of (k := 44) rfl rfl, arT_of (k := 45) rfl rfl, arT_of (k := 46) rfl rfl, arT_of (k := 47) rfl rfl, arT_of (k := 48) rfl rfl⟩
theorem shWk : isO 49 7 ∧ (arT 50 .int ∧ alen 50 = 3125) ∧ (arT 51 .int ∧ alen 51 = 3125) ∧ (arT 52 .int ∧ alen 52 = 3125) := ⟨isO_of (k := 49) rfl rfl, arT_of (k := 50) rfl rfl, arT_of (k := 51) rfl rfl, arT_of (k := 52) rfl rfl⟩
theorem shDu : isO 53 8 ∧ (arT 54 .int ∧ alen 54 = 3125) ∧ (arT 55 .int ∧ alen 55 = 3125) := ⟨isO_of (k := 53) rfl rfl, arT_of (k := 54) rfl rfl, arT_of (k := 55) rfl rfl⟩
theorem shRo : isO 56 9 ∧ (arT 57 .int ∧ alen 57 = 10) ∧ (arT 66 .int ∧ alen 66 = 25000) := ⟨isO_of (k := 56) rfl rfl, arT_of (k := 57) rfl rfl, arT_of (k := 66) rfl rfl⟩
theorem isO_H {z : Int} (h : isO z 0) : z = 0 := by
  obtain ⟨k, rfl, hs⟩ := isO_at h
  have hk := shL_lt hs
  have key : ∀ k : Fin NN, shL[k.val]? = some (.inr 0) → k.val = 0 := by decide +kernel
  have := key ⟨k, hk⟩ hs
  simp only at this
  omega
theorem isO_Rd {z : Int} (h : isO z 1) : z = 2 := by
  obtain ⟨k, rfl, hs⟩ := isO_at h
  have hk := shL_lt hs
  have key : ∀ k : Fin NN, shL[k.val]? = some (.inr 1) → k.val = 2 := by decide +kernel
  have := key ⟨k, hk⟩ hs
  simp only at this
  omega
theorem isO_Ha {z : Int} (h : isO z 2) : z = 7 ∨ z = 16 ∨ z = 95 ∨ z = 106 := by
  obtain ⟨k, rfl, hs⟩ := isO_at h
  have hk := shL_lt hs
  have key : ∀ k : Fin NN, shL[k.val]? = some (.inr 2) → k.val = 7 ∨ k.val = 16 ∨ k.val = 95 ∨ k.val = 106 := by decide +kernel
  have := key ⟨k, hk⟩ hs
  simp only at this
  omega
theorem sh_Ha {z : Int} (h : isO z 2) : (arT (z + 1) .int ∧ alen (z + 1) = 5) ∧ (arT (z + 2) .int ∧ alen (z + 2) = 5) ∧ isO (z + 3) 3 ∧ isO (z + 5) 3 ∧ (arT (z + 7) .int ∧ alen (z + 7) = 9) ∧ (arT (z + 8) .int ∧ alen (z + 8) = 100) := by
  rcases isO_Ha h with rfl | rfl | rfl | rfl
  · exact ⟨arT_of (k := 8) rfl rfl, arT_of (k := 9) rfl rfl, isO_of (k := 10) rfl rfl, isO_of (k := 12) rfl rfl, arT_of (k := 14) rfl rfl, arT_of (k := 15) rfl rfl⟩
  · exact ⟨arT_of (k := 17) rfl rfl, arT_of (k := 18) rfl rfl, isO_of (k := 19) rfl rfl, isO_of (k := 21) rfl rfl, arT_of (k := 23) rfl rfl, arT_of (k := 24) rfl rfl⟩
  · exact ⟨arT_of (k := 96) rfl rfl, arT_of (k := 97) rfl rfl, isO_of (k := 98) rfl rfl, isO_of (k := 100) rfl rfl, arT_of (k := 102) rfl rfl, arT_of (k := 103) rfl rfl⟩
  · exact ⟨arT_of (k := 107) rfl rfl, arT_of (k := 108) rfl rfl, isO_of (k := 109) rfl rfl, isO_of (k := 111) rfl rfl, arT_of (k := 113) rfl rfl, arT_of (k := 114) rfl rfl⟩
theorem isO_La {z : Int} (h : isO z 3) : z = 10 ∨ z = 12 ∨ z = 19 ∨ z = 21 ∨ z = 98 ∨ z = 100 ∨ z = 109 ∨ z = 111 := by
  obtain ⟨k, rfl, hs⟩ := isO_at h
  have hk := shL_lt hs
  have key : ∀ k : Fin NN, shL[k.val]? = some (.inr 3) → k.val = 10 ∨ k.val = 12 ∨ k.val = 19 ∨ k.val = 21 ∨ k.val = 98 ∨ k.val = 100 ∨ k.val = 109 ∨ k.val = 111 := by decide +kernel
  have := key ⟨k, hk⟩ hs
  simp only at this
  omega
theorem sh_La {z : Int} (h : isO z 3) : (arT (z + 1) .int ∧ alen (z + 1) = 900) := by
  rcases isO_La h with rfl | rfl | rfl | rfl | rfl | rfl | rfl | rfl
  · exact arT_of (k := 11) rfl rfl
  · exact arT_of (k := 13) rfl rfl
  · exact arT_of (k := 20) rfl rfl
  · exact arT_of (k := 22) rfl rfl
  · exact arT_of (k := 99) rfl rfl
  · exact arT_of (k := 101) rfl rfl
  · exact arT_of (k := 110) rfl rfl
  · exact arT_of (k := 112) rfl rfl
theorem isO_Mo {z : Int} (h : isO z 4) : z = 25 ∨ z = 27 ∨ z = 67 ∨ z = 69 ∨ z = 71 ∨ z = 73 ∨ z = 75 ∨ z = 77 ∨ z = 79 ∨ z = 81 ∨ z = 83 ∨ z = 85 ∨ z = 104 ∨ z = 115 := by
  obtain ⟨k, rfl, hs⟩ := isO_at h
  have hk := shL_lt hs
  have key : ∀ k : Fin NN, shL[k.val]? = some (.inr 4) → k.val = 25 ∨ k.val = 27 ∨ k.val = 67 ∨ k.val = 69 ∨ k.val = 71 ∨ k.val = 73 ∨ k.val = 75 ∨ k.val = 77 ∨ k.val = 79 ∨ k.val = 81 ∨ k.val = 83 ∨ k.val = 85 ∨ k.val = 104 ∨ k.val = 115 := by decide +kernel
  have := key ⟨k, hk⟩ hs
  simp only at this
  omega
theorem sh_Mo {z : Int} (h : isO z 4) : (arT (z + 1) .int ∧ alen (z + 1) = 5) := by
  rcases isO_Mo h with rfl | rfl | rfl | rfl | rfl | rfl | rfl | rfl | rfl | rfl | rfl | rfl | rfl | rfl
  · exact arT_of (k := 26) rfl rfl
  · exact arT_of (k := 28) rfl rfl
  · exact arT_of (k := 68) rfl rfl
  · exact arT_of (k := 70) rfl rfl
  · exact arT_of (k := 72) rfl rfl
  · exact arT_of (k := 74) rfl rfl
  · exact arT_of (k := 76) rfl rfl
  · exact arT_of (k := 78) rfl rfl
  · exact arT_of (k := 80) rfl rfl
  · exact arT_of (k := 82) rfl rfl
  · exact arT_of (k := 84) rfl rfl
  · exact arT_of (k := 86) rfl rfl
  · exact arT_of (k := 105) rfl rfl
  · exact arT_of (k := 116) rfl rfl
theorem isO_St {z : Int} (h : isO z 5) : z = 33 := by
  obtain ⟨k, rfl, hs⟩ := isO_at h
  have hk := shL_lt hs
  have key : ∀ k : Fin NN, shL[k.val]? = some (.inr 5) → k.val = 33 := by decide +kernel
  have := key ⟨k, hk⟩ hs
  simp only at this
  omega
theorem isO_Wa {z : Int} (h : isO z 6) : z = 43 := by
  obtain ⟨k, rfl, hs⟩ := isO_at h
  have hk := shL_lt hs
  have key : ∀ k : Fin NN, shL[k.val]? = some (.inr 6) → k.val = 43 := by decide +kernel
  have := key ⟨k, hk⟩ hs
  simp only at this
  omega
theorem isO_Wk {z : Int} (h : isO z 7) : z = 49 := by
  obtain ⟨k, rfl, hs⟩ := isO_at h
  have hk := shL_lt hs
  have key : ∀ k : Fin NN, shL[k.val]? = some (.inr 7) → k.val = 49 := by decide +kernel
  have := key ⟨k, hk⟩ hs
  simp only at this
  omega
theorem isO_Du {z : Int} (h : isO z 8) : z = 53 := by
  obtain ⟨k, rfl, hs⟩ := isO_at h
  have hk := shL_lt hs
  have key : ∀ k : Fin NN, shL[k.val]? = some (.inr 8) → k.val = 53 := by decide +kernel
  have := key ⟨k, hk⟩ hs
  simp only at this
  omega
theorem isO_Ro {z : Int} (h : isO z 9) : z = 56 := by
  obtain ⟨k, rfl, hs⟩ := isO_at h
  have hk := shL_lt hs
  have key : ∀ k : Fin NN, shL[k.val]? = some (.inr 9) → k.val = 56 := by decide +kernel
  have := key ⟨k, hk⟩ hs
  simp only at this
  omega
theorem isO_Fr {z : Int} (h : isO z 10) : z = 58 ∨ z = 62 := by
  obtain ⟨k, rfl, hs⟩ := isO_at h
  have hk := shL_lt hs
  have key : ∀ k : Fin NN, shL[k.val]? = some (.inr 10) → k.val = 58 ∨ k.val = 62 := by decide +kernel
  have := key ⟨k, hk⟩ hs
  simp only at this
  omega
theorem sh_Fr {z : Int} (h : isO z 10) : (arT (z + 1) .int ∧ alen (z + 1) = 3125) ∧ (arT (z + 2) .long ∧ alen (z + 2) = 3125) ∧ (arT (z + 3) .int ∧ alen (z + 3) = 3125) := by
  rcases isO_Fr h with rfl | rfl
  · exact ⟨arT_of (k := 59) rfl rfl, arT_of (k := 60) rfl rfl, arT_of (k := 61) rfl rfl⟩
  · exact ⟨arT_of (k := 63) rfl rfl, arT_of (k := 64) rfl rfl, arT_of (k := 65) rfl rfl⟩
theorem isO_Tr {z : Int} (h : isO z 11) : z = 87 ∨ z = 89 ∨ z = 91 ∨ z = 93 := by
  obtain ⟨k, rfl, hs⟩ := isO_at h
  have hk := shL_lt hs
  have key : ∀ k : Fin NN, shL[k.val]? = some (.inr 11) → k.val = 87 ∨ k.val = 89 ∨ k.val = 91 ∨ k.val = 93 := by decide +kernel
  have := key ⟨k, hk⟩ hs
  simp only at this
  omega
theorem sh_Tr {z : Int} (h : isO z 11) : (arT (z + 1) .long ∧ alen (z + 1) = 40) := by
  rcases isO_Tr h with rfl | rfl | rfl | rfl
  · exact arT_of (k := 88) rfl rfl
  · exact arT_of (k := 90) rfl rfl
  · exact arT_of (k := 92) rfl rfl
  · exact arT_of (k := 94) rfl rfl
theorem isO_Md {z : Int} (h : isO z 12) : z = 117 := by
  obtain ⟨k, rfl, hs⟩ := isO_at h
  have hk := shL_lt hs
  have key : ∀ k : Fin NN, shL[k.val]? = some (.inr 12) → k.val = 117 := by decide +kernel
  have := key ⟨k, hk⟩ hs
  simp only at this
  omega
