section XG
def wr (M : AM) : List (Int × Int × Int) → AM
  | [] => M
  | u :: U => wr (up M u.1 u.2.1 u.2.2) U
theorem wr_row : ∀ (U : List (Int × Int × Int)) (M : AM) (k : Int), (∀ u ∈ U, u.1 ≠ k) → wr M U k = M k
  | [], M, k, h => rfl
  | u :: U, M, k, h => by
    show wr (up M u.1 u.2.1 u.2.2) U k = M k
    rw [wr_row U _ k fun v hv => h v (List.mem_cons_of_mem _ hv)]
    exact up_z (fun e => h u List.mem_cons_self e.symm)
def UL : List (Int × Int × Int) := [(((0 : Nat) : Int), ((0 : Nat) : Int), ((1 : Nat) : Int)), (((2 : Nat) : Int), ((1 : Nat) : Int), (-1)), (((2 : Nat) : Int), ((2 : Nat) : Int), ((3 : Nat) : Int)), (((2 : Nat) : Int), ((4 : Nat) : Int), ((4 : Nat) : Int)), (((2 : Nat) : Int), ((5 : Nat) : Int), ((5 : Nat) : Int)), (((2 : Nat) : Int), ((6 : Nat) : Int), ((6 : Nat) : Int)), (((0 : Nat) : Int), ((2 : Nat) : Int), ((2 : Nat) : Int)), (((7 : Nat) : Int), ((1 : Nat) : Int), ((1 : Nat) : Int)), (((7 : Nat) : Int), ((6 : Nat) : Int), ((8 : Nat) : Int)), (((7 : Nat) : Int), ((7 : Nat) : Int), ((9 : Nat) : Int)), (((10 : Nat) : Int), ((0 : Nat) : Int), ((11 : Nat) : Int)), (((7 : Nat) : Int), ((8 : Nat) : Int), ((10 : Nat) : Int)), (((12 : Nat) : Int), ((0 : Nat) : Int), ((13 : Nat) : Int)), (((7 : Nat) : Int), ((9 : Nat) : Int), ((12 : Nat) : Int)), (((7 : Nat) : Int), ((10 : Nat) : Int), ((14 : Nat) : Int)), (((7 : Nat) : Int), ((11 : Nat) : Int), ((15 : Nat) : Int)), (((0 : Nat) : Int), ((3 : Nat) : Int), ((7 : Nat) : Int)), (((16 : Nat) : Int), ((1 : Nat) : Int), ((1 : Nat) : Int)), (((16 : Nat) : Int), ((6 : Nat) : Int), ((17 : Nat) : Int)), (((16 : Nat) : Int), ((7 : Nat) : Int), ((18 : Nat) : Int)), (((19 : Nat) : Int), ((0 : Nat) : Int), ((20 : Nat) : Int)), (((16 : Nat) : Int), ((8 : Nat) : Int), ((19 : Nat) : Int)), (((21 : Nat) : Int), ((0 : Nat) : Int), ((22 : Nat) : Int)), (((16 : Nat) : Int), ((9 : Nat) : Int), ((21 : Nat) : Int)), (((16 : Nat) : Int), ((10 : Nat) : Int), ((23 : Nat) : Int)), (((16 : Nat) : Int), ((11 : Nat) : Int), ((24 : Nat) : Int)), (((0 : Nat) : Int), ((4 : Nat) : Int), ((16 : Nat) : Int)), (((25 : Nat) : Int), ((3 : Nat) : Int), ((26 : Nat) : Int)), (((0 : Nat) : Int), ((5 : Nat) : Int), ((25 : Nat) : Int)), (((27 : Nat) : Int), ((3 : Nat) : Int), ((28 : Nat) : Int)), (((0 : Nat) : Int), ((6 : Nat) : Int), ((27 : Nat) : Int)), (((0 : Nat) : Int), ((7 : Nat) : Int), ((29 : Nat) : Int)), (((0 : Nat) : Int), ((9 : Nat) : Int), ((30 : Nat) : Int)), (((0 : Nat) : Int), ((10 : Nat) : Int), ((31 : Nat) : Int)), (((0 : Nat) : Int), ((11 : Nat) : Int), ((32 : Nat) : Int)), (((33 : Nat) : Int), ((0 : Nat) : Int), ((1 : Nat) : Int)), (((33 : Nat) : Int), ((5 : Nat) : Int), ((34 : Nat) : Int)), (((33 : Nat) : Int), ((12 : Nat) : Int), ((35 : Nat) : Int)), (((33 : Nat) : Int), ((13 : Nat) : Int), ((36 : Nat) : Int)), (((33 : Nat) : Int), ((14 : Nat) : Int), ((37 : Nat) : Int)), (((33 : Nat) : Int), ((15 : Nat) : Int), ((38 : Nat) : Int)), (((33 : Nat) : Int), ((16 : Nat) : Int), ((39 : Nat) : Int)), (((33 : Nat) : Int), ((17 : Nat) : Int), ((40 : Nat) : Int)), (((33 : Nat) : Int), ((18 : Nat) : Int), ((41 : Nat) : Int)), (((33 : Nat) : Int), ((19 : Nat) : Int), ((42 : Nat) : Int)), (((0 : Nat) : Int), ((13 : Nat) : Int), ((33 : Nat) : Int)), (((43 : Nat) : Int), ((0 : Nat) : Int), ((44 : Nat) : Int)), (((43 : Nat) : Int), ((1 : Nat) : Int), ((45 : Nat) : Int)), (((43 : Nat) : Int), ((2 : Nat) : Int), ((46 : Nat) : Int)), (((43 : Nat) : Int), ((3 : Nat) : Int), ((47 : Nat) : Int)), (((43 : Nat) : Int), ((4 : Nat) : Int), ((48 : Nat) : Int)), (((0 : Nat) : Int), ((14 : Nat) : Int), ((43 : Nat) : Int)), (((49 : Nat) : Int), ((0 : Nat) : Int), ((50 : Nat) : Int)), (((49 : Nat) : Int), ((2 : Nat) : Int), ((51 : Nat) : Int)), (((49 : Nat) : Int), ((3 : Nat) : Int), ((52 : Nat) : Int)), (((0 : Nat) : Int), ((15 : Nat) : Int), ((49 : Nat) : Int)), (((53 : Nat) : Int), ((0 : Nat) : Int), ((54 : Nat) : Int)), (((53 : Nat) : Int), ((1 : Nat) : Int), ((55 : Nat) : Int)), (((0 : Nat) : Int), ((16 : Nat) : Int), ((53 : Nat) : Int)), (((56 : Nat) : Int), ((0 : Nat) : Int), ((57 : Nat) : Int)), (((58 : Nat) : Int), ((0 : Nat) : Int), ((59 : Nat) : Int)), (((58 : Nat) : Int), ((2 : Nat) : Int), ((60 : Nat) : Int)), (((58 : Nat) : Int), ((3 : Nat) : Int), ((61 : Nat) : Int)), (((56 : Nat) : Int), ((1 : Nat) : Int), ((58 : Nat) : Int)), (((62 : Nat) : Int), ((0 : Nat) : Int), ((63 : Nat) : Int)), (((62 : Nat) : Int), ((2 : Nat) : Int), ((64 : Nat) : Int)), (((62 : Nat) : Int), ((3 : Nat) : Int), ((65 : Nat) : Int)), (((56 : Nat) : Int), ((2 : Nat) : Int), ((62 : Nat) : Int)), (((56 : Nat) : Int), ((3 : Nat) : Int), ((66 : Nat) : Int)), (((0 : Nat) : Int), ((17 : Nat) : Int), ((56 : Nat) : Int)), (((67 : Nat) : Int), ((3 : Nat) : Int), ((68 : Nat) : Int)), (((29 : Nat) : Int), ((0 : Nat) : Int), ((67 : Nat) : Int)), (((69 : Nat) : Int), ((3 : Nat) : Int), ((70 : Nat) : Int)), (((29 : Nat) : Int), ((1 : Nat) : Int), ((69 : Nat) : Int)), (((71 : Nat) : Int), ((3 : Nat) : Int), ((72 : Nat) : Int)), (((29 : Nat) : Int), ((2 : Nat) : Int), ((71 : Nat) : Int)), (((73 : Nat) : Int), ((3 : Nat) : Int), ((74 : Nat) : Int)), (((29 : Nat) : Int), ((3 : Nat) : Int), ((73 : Nat) : Int)), (((75 : Nat) : Int), ((3 : Nat) : Int), ((76 : Nat) : Int)), (((29 : Nat) : Int), ((4 : Nat) : Int), ((75 : Nat) : Int)), (((77 : Nat) : Int), ((3 : Nat) : Int), ((78 : Nat) : Int)), (((29 : Nat) : Int), ((5 : Nat) : Int), ((77 : Nat) : Int)), (((79 : Nat) : Int), ((3 : Nat) : Int), ((80 : Nat) : Int)), (((29 : Nat) : Int), ((6 : Nat) : Int), ((79 : Nat) : Int)), (((81 : Nat) : Int), ((3 : Nat) : Int), ((82 : Nat) : Int)), (((29 : Nat) : Int), ((7 : Nat) : Int), ((81 : Nat) : Int)), (((83 : Nat) : Int), ((3 : Nat) : Int), ((84 : Nat) : Int)), (((29 : Nat) : Int), ((8 : Nat) : Int), ((83 : Nat) : Int)), (((85 : Nat) : Int), ((3 : Nat) : Int), ((86 : Nat) : Int)), (((29 : Nat) : Int), ((9 : Nat) : Int), ((85 : Nat) : Int)), (((87 : Nat) : Int), ((0 : Nat) : Int), (-1)), (((87 : Nat) : Int), ((2 : Nat) : Int), ((88 : Nat) : Int)), (((30 : Nat) : Int), ((0 : Nat) : Int), ((87 : Nat) : Int)), (((89 : Nat) : Int), ((0 : Nat) : Int), (-1)), (((89 : Nat) : Int), ((2 : Nat) : Int), ((90 : Nat) : Int)), (((30 : Nat) : Int), ((1 : Nat) : Int), ((89 : Nat) : Int)), (((91 : Nat) : Int), ((0 : Nat) : Int), (-1)), (((91 : Nat) : Int), ((2 : Nat) : Int), ((92 : Nat) : Int)), (((30 : Nat) : Int), ((2 : Nat) : Int), ((91 : Nat) : Int)), (((93 : Nat) : Int), ((0 : Nat) : Int), (-1)), (((93 : Nat) : Int), ((2 : Nat) : Int), ((94 : Nat) : Int)), (((30 : Nat) : Int), ((3 : Nat) : Int), ((93 : Nat) : Int)), (((95 : Nat) : Int), ((1 : Nat) : Int), ((1 : Nat) : Int)), (((95 : Nat) : Int), ((6 : Nat) : Int), ((96 : Nat) : Int)), (((95 : Nat) : Int), ((7 : Nat) : Int), ((97 : Nat) : Int)), (((98 : Nat) : Int), ((0 : Nat) : Int), ((99 : Nat) : Int)), (((95 : Nat) : Int), ((8 : Nat) : Int), ((98 : Nat) : Int)), (((100 : Nat) : Int), ((0 : Nat) : Int), ((101 : Nat) : Int)), (((95 : Nat) : Int), ((9 : Nat) : Int), ((100 : Nat) : Int)), (((95 : Nat) : Int), ((10 : Nat) : Int), ((102 : Nat) : Int)), (((95 : Nat) : Int), ((11 : Nat) : Int), ((103 : Nat) : Int)), (((31 : Nat) : Int), ((0 : Nat) : Int), ((95 : Nat) : Int)), (((104 : Nat) : Int), ((3 : Nat) : Int), ((105 : Nat) : Int)), (((32 : Nat) : Int), ((0 : Nat) : Int), ((104 : Nat) : Int)), (((106 : Nat) : Int), ((1 : Nat) : Int), ((1 : Nat) : Int)), (((106 : Nat) : Int), ((6 : Nat) : Int), ((107 : Nat) : Int)), (((106 : Nat) : Int), ((7 : Nat) : Int), ((108 : Nat) : Int)), (((109 : Nat) : Int), ((0 : Nat) : Int), ((110 : Nat) : Int)), (((106 : Nat) : Int), ((8 : Nat) : Int), ((109 : Nat) : Int)), (((111 : Nat) : Int), ((0 : Nat) : Int), ((112 : Nat) : Int)), (((106 : Nat) : Int), ((9 : Nat) : Int), ((111 : Nat) : Int)), (((106 : Nat) : Int), ((10 : Nat) : Int), ((113 : Nat) : Int)), (((106 : Nat) : Int), ((11 : Nat) : Int), ((114 : Nat) : Int)), (((31 : Nat) : Int), ((1 : Nat) : Int), ((106 : Nat) : Int)), (((115 : Nat) : Int), ((3 : Nat) : Int), ((116 : Nat) : Int)), (((32 : Nat) : Int), ((1 : Nat) : Int), ((115 : Nat) : Int)), (((117 : Nat) : Int), ((1 : Nat) : Int), ((118 : Nat) : Int)), (((117 : Nat) : Int), ((2 : Nat) : Int), ((119 : Nat) : Int)), (((117 : Nat) : Int), ((3 : Nat) : Int), ((120 : Nat) : Int)), (((117 : Nat) : Int), ((4 : Nat) : Int), ((121 : Nat) : Int)), (((117 : Nat) : Int), ((14 : Nat) : Int), (-1)), (((117 : Nat) : Int), ((16 : Nat) : Int), ((122 : Nat) : Int)), (((117 : Nat) : Int), ((17 : Nat) : Int), ((123 : Nat) : Int)), (((117 : Nat) : Int), ((18 : Nat) : Int), ((124 : Nat) : Int)), (((117 : Nat) : Int), ((21 : Nat) : Int), ((125 : Nat) : Int)), (((117 : Nat) : Int), ((22 : Nat) : Int), ((126 : Nat) : Int)), (((117 : Nat) : Int), ((23 : Nat) : Int), ((127 : Nat) : Int)), (((117 : Nat) : Int), ((24 : Nat) : Int), ((128 : Nat) : Int)), (((117 : Nat) : Int), ((25 : Nat) : Int), ((129 : Nat) : Int)), (((117 : Nat) : Int), ((26 : Nat) : Int), ((130 : Nat) : Int)), (((117 : Nat) : Int), ((28 : Nat) : Int), ((131 : Nat) : Int)), (((117 : Nat) : Int), ((29 : Nat) : Int), ((132 : Nat) : Int)), (((117 : Nat) : Int), ((30 : Nat) : Int), ((133 : Nat) : Int)), (((117 : Nat) : Int), ((31 : Nat) : Int), ((134 : Nat) : Int)), (((135 : Nat) : Int), ((0 : Nat) : Int), (-1)), (((135 : Nat) : Int), ((1 : Nat) : Int), (-1)), (((135 : Nat) : Int), ((2 : Nat) : Int), (-1)), (((135 : Nat) : Int), ((3 : Nat) : Int), (-1)), (((117 : Nat) : Int), ((32 : Nat) : Int), ((135 : Nat) : Int)), (((117 : Nat) : Int), ((33 : Nat) : Int), ((136 : Nat) : Int)), (((117 : Nat) : Int), ((34 : Nat) : Int), ((137 : Nat) : Int))]
set_option maxRecDepth 100000 in
theorem mMd_wr : mMd_5 = wr D0 UL := rfl
theorem mM_row {k : Int} (h : UL.all (fun u => decide (u.1 ≠ k)) = true) : mMd_5 k = D0 k := by
  rw [mMd_wr]
  exact wr_row UL D0 k fun u hu => by simpa using List.all_eq_true.mp h u hu
theorem UL_lt : ∀ u ∈ UL, u.1 < 138 := by
  have key : UL.all (fun u => decide (u.1 < 138)) = true := by decide +kernel
  exact fun u hu => by simpa using List.all_eq_true.mp key u hu
def mEnd : AM := up (pln mMd_5 118 1053) 118 2 1
theorem mEnd_o {k : Int} (h : k ≠ 118) : mEnd k = mMd_5 k := by
  unfold mEnd
  rw [up_z h]
  funext y
  unfold pln
  rw [if_neg (fun q => h q.1)]
theorem mEnd_fr : Fr mEnd 138 := fun x hx => by
  rw [mEnd_o (by omega), mMd_wr]
  exact wr_row UL D0 x fun u hu => by have := UL_lt u hu; omega
def fitB (ty : FieldType) (x : Int) : Bool := match ty with
  | .int => decide (-1000 ≤ x ∧ x ≤ 1000)
  | .long => decide (-1000 ≤ x ∧ x ≤ 1000)
  | .byte => decide (-128 ≤ x ∧ x ≤ 127)
  | .boolean => decide (x = 0 ∨ x = 1)
  | .object _ => true
  | .array _ => true
  | _ => false
theorem fitB_ok {ty : FieldType} {x : Int} (h : fitB ty x = true) : fitT ty x := by
  cases ty with
  | int =>
    have h : -1000 ≤ x ∧ x ≤ 1000 := by simpa [fitB] using h
    exact ⟨by omega, by omega⟩
  | long =>
    have h : -1000 ≤ x ∧ x ≤ 1000 := by simpa [fitB] using h
    exact ⟨by omega, by omega⟩
  | byte =>
    have h : -128 ≤ x ∧ x ≤ 127 := by simpa [fitB] using h
    exact h
  | boolean =>
    have h : x = 0 ∨ x = 1 := by simpa [fitB] using h
    exact h
  | object n => trivial
  | array n => trivial
  | _ => cases h
theorem okM_mMd : okM mMd_5 := by
  constructor
  · intro k ty n hs i hi
    have key : (List.range 138).all (fun k => match shL[k]? with
      | some (.inl (ty, _)) => (UL.all (fun u => decide (u.1 ≠ (k : Int))) && fitB ty (dfl ty)) || decide (k = 135) || (match ty with
        | .object _ => true
        | _ => false)
      | _ => true) = true := by decide +kernel
    have h1 := List.all_eq_true.mp key k (List.mem_range.mpr (shL_lt hs))
    rw [hs] at h1
    simp only [Bool.or_eq_true, Bool.and_eq_true, decide_eq_true_eq] at h1
    rcases h1 with (⟨h1, h2⟩ | rfl) | h1
    · rw [mM_row h1]
      have e : shK (k : Int) = some (.inl (ty, n)) := by
        unfold shK
        rw [if_pos (by omega)]
        exact hs
      have e2 : D0 k i = dfl ty := by unfold D0; rw [e]
      rw [e2]
      exact fitB_ok h2
    · have e : ty = .int ∧ n = 4 := by
        have e : shL[135]? = some (.inl (.int, 4)) := by decide +kernel
        rw [e] at hs
        cases hs
        exact ⟨rfl, rfl⟩
      obtain ⟨rfl, rfl⟩ := e
      have key2 : ∀ i : Fin 4, fitB .int (mMd_5 ((135 : Nat) : Int) ((i.val : Nat) : Int)) = true := by decide +kernel
      exact fitB_ok (key2 ⟨i, hi⟩)
    · cases ty with
      | object n => trivial
      | _ => cases h1
  · intro k ci hs j hj
    have key : (List.range 138).all (fun k => match shL[k]? with
      | some (.inr ci) => (List.range (nf ci)).all fun j => fitB (tyOf ci j) (mMd_5 (k : Int) (j : Int)) && (decide (off ci j = 0) || decide (mMd_5 (k : Int) (j : Int) = (k : Int) + (off ci j : Int)))
      | _ => true) = true := by decide +kernel
    have h1 := List.all_eq_true.mp key k (List.mem_range.mpr (shL_lt hs))
    rw [hs] at h1
    have h2 := List.all_eq_true.mp h1 j (List.mem_range.mpr hj)
    simp only [Bool.or_eq_true, Bool.and_eq_true, decide_eq_true_eq] at h2
    exact ⟨fitB_ok h2.1, fun q => h2.2.resolve_left q⟩
end XG
