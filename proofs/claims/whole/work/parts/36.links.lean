/-! ===== what the tables say, by the places of its words ===== -/
theorem tb1 {w : Cond} (i : Nat) (h : tables_1_1[i]? = some w) (hg : goodWord w = true) : w ∈ tbg := List.mem_filter.mpr ⟨List.mem_append_right _ (show w ∈ tables_1 from List.mem_append_left _ (List.mem_of_getElem? h)), hg⟩
theorem tb2 {w : Cond} (i : Nat) (h : tables_1_2[i]? = some w) (hg : goodWord w = true) : w ∈ tbg := List.mem_filter.mpr ⟨List.mem_append_right _ (show w ∈ tables_1 from List.mem_append_right _ (List.mem_append_left _ (List.mem_of_getElem? h))), hg⟩
theorem tb3 {w : Cond} (i : Nat) (h : tables_1_3[i]? = some w) (hg : goodWord w = true) : w ∈ tbg := List.mem_filter.mpr ⟨List.mem_append_right _ (show w ∈ tables_1 from List.mem_append_right _ (List.mem_append_right _ (List.mem_append_left _ (List.mem_of_getElem? h)))), hg⟩
theorem tb4 {w : Cond} (i : Nat) (h : tables_1_4[i]? = some w) (hg : goodWord w = true) : w ∈ tbg := List.mem_filter.mpr ⟨List.mem_append_right _ (show w ∈ tables_1 from List.mem_append_right _ (List.mem_append_right _ (List.mem_append_right _ (List.mem_append_left _ (List.mem_of_getElem? h))))), hg⟩
theorem tb5 {w : Cond} (i : Nat) (h : tables_1_5[i]? = some w) (hg : goodWord w = true) : w ∈ tbg := List.mem_filter.mpr ⟨List.mem_append_right _ (show w ∈ tables_1 from List.mem_append_right _ (List.mem_append_right _ (List.mem_append_right _ (List.mem_append_right _ (List.mem_append_left _ (List.mem_of_getElem? h)))))), hg⟩
theorem tb6 {w : Cond} (i : Nat) (h : tables_1_6[i]? = some w) (hg : goodWord w = true) : w ∈ tbg := List.mem_filter.mpr ⟨List.mem_append_right _ (show w ∈ tables_1 from List.mem_append_right _ (List.mem_append_right _ (List.mem_append_right _ (List.mem_append_right _ (List.mem_append_right _ (List.mem_of_getElem? h)))))), hg⟩
theorem tp1 {y : MethodName} {n : Nat} (i : Nat) (h : lw_privs_1[i]? = some (y, n)) : Cond.selects y.cls y y ∈ tbg := List.mem_filter.mpr ⟨List.mem_append_left _ (List.mem_map.mpr ⟨(y, n), (show (y, n) ∈ lw_privs from List.mem_append_left _ (List.mem_of_getElem? h)), rfl⟩), rfl⟩
theorem tp2 {y : MethodName} {n : Nat} (i : Nat) (h : lw_privs_2[i]? = some (y, n)) : Cond.selects y.cls y y ∈ tbg := List.mem_filter.mpr ⟨List.mem_append_left _ (List.mem_map.mpr ⟨(y, n), (show (y, n) ∈ lw_privs from List.mem_append_right _ (List.mem_append_left _ (List.mem_of_getElem? h))), rfl⟩), rfl⟩
theorem tp3 {y : MethodName} {n : Nat} (i : Nat) (h : lw_privs_3[i]? = some (y, n)) : Cond.selects y.cls y y ∈ tbg := List.mem_filter.mpr ⟨List.mem_append_left _ (List.mem_map.mpr ⟨(y, n), (show (y, n) ∈ lw_privs from List.mem_append_right _ (List.mem_append_right _ (List.mem_append_left _ (List.mem_of_getElem? h)))), rfl⟩), rfl⟩
theorem tp4 {y : MethodName} {n : Nat} (i : Nat) (h : lw_privs_4[i]? = some (y, n)) : Cond.selects y.cls y y ∈ tbg := List.mem_filter.mpr ⟨List.mem_append_left _ (List.mem_map.mpr ⟨(y, n), (show (y, n) ∈ lw_privs from List.mem_append_right _ (List.mem_append_right _ (List.mem_append_right _ (List.mem_append_left _ (List.mem_of_getElem? h))))), rfl⟩), rfl⟩
theorem tp5 {y : MethodName} {n : Nat} (i : Nat) (h : lw_privs_5[i]? = some (y, n)) : Cond.selects y.cls y y ∈ tbg := List.mem_filter.mpr ⟨List.mem_append_left _ (List.mem_map.mpr ⟨(y, n), (show (y, n) ∈ lw_privs from List.mem_append_right _ (List.mem_append_right _ (List.mem_append_right _ (List.mem_append_right _ (List.mem_of_getElem? h))))), rfl⟩), rfl⟩
theorem inX0 : ∀ w ∈ u_ws RX0 TX0 5, w ∈ tbg := by
  intro w hw
  obtain ⟨k, hk, rfl⟩ := List.mem_map.mp hw
  have hk := List.mem_range.mp hk
  match k, hk with
  | 0, _ => exact tb1 210 rfl rfl
  | 1, _ => exact tb1 212 rfl rfl
  | 2, _ => exact tb1 214 rfl rfl
  | 3, _ => exact tb1 216 rfl rfl
  | 4, _ => exact tb1 218 rfl rfl
theorem inX1 : ∀ w ∈ u_ws RX1 TX1 10, w ∈ tbg := by
  intro w hw
  obtain ⟨k, hk, rfl⟩ := List.mem_map.mp hw
  have hk := List.mem_range.mp hk
  match k, hk with
  | 0, _ => exact tb2 28 rfl rfl
  | 1, _ => exact tb2 30 rfl rfl
  | 2, _ => exact tb2 32 rfl rfl
  | 3, _ => exact tb2 34 rfl rfl
  | 4, _ => exact tb2 36 rfl rfl
  | 5, _ => exact tb2 38 rfl rfl
  | 6, _ => exact tb2 40 rfl rfl
  | 7, _ => exact tb2 42 rfl rfl
  | 8, _ => exact tb2 44 rfl rfl
  | 9, _ => exact tb2 46 rfl rfl
theorem inX2 : ∀ w ∈ u_ws RX2 TX2 4, w ∈ tbg := by
  intro w hw
  obtain ⟨k, hk, rfl⟩ := List.mem_map.mp hw
  have hk := List.mem_range.mp hk
  match k, hk with
  | 0, _ => exact tb1 104 rfl rfl
  | 1, _ => exact tb1 106 rfl rfl
  | 2, _ => exact tb1 108 rfl rfl
  | 3, _ => exact tb1 110 rfl rfl
theorem inX3 : ∀ w ∈ u_ws RX3 TX3 0, w ∈ tbg := by
  intro w hw
  obtain ⟨k, hk, rfl⟩ := List.mem_map.mp hw
  have hk := List.mem_range.mp hk
  exact absurd hk (Nat.not_lt_zero k)
theorem inX4 : ∀ w ∈ u_ws RX4 TX4 3, w ∈ tbg := by
  intro w hw
  obtain ⟨k, hk, rfl⟩ := List.mem_map.mp hw
  have hk := List.mem_range.mp hk
  match k, hk with
  | 0, _ => exact tb1 143 rfl rfl
  | 1, _ => exact tb1 145 rfl rfl
  | 2, _ => exact tb1 147 rfl rfl
theorem inX5 : ∀ w ∈ u_ws RX5 TX5 2, w ∈ tbg := by
  intro w hw
  obtain ⟨k, hk, rfl⟩ := List.mem_map.mp hw
  have hk := List.mem_range.mp hk
  match k, hk with
  | 0, _ => exact tb1 122 rfl rfl
  | 1, _ => exact tb1 124 rfl rfl
theorem inX6 : ∀ w ∈ u_ws RX6 TX6 6, w ∈ tbg := by
  intro w hw
  obtain ⟨k, hk, rfl⟩ := List.mem_map.mp hw
  have hk := List.mem_range.mp hk
  match k, hk with
  | 0, _ => exact tb1 164 rfl rfl
  | 1, _ => exact tb1 166 rfl rfl
  | 2, _ => exact tb1 168 rfl rfl
  | 3, _ => exact tb1 170 rfl rfl
  | 4, _ => exact tb1 172 rfl rfl
  | 5, _ => exact tb1 174 rfl rfl
theorem inX7 : ∀ w ∈ u_ws RX7 TX7 2, w ∈ tbg := by
  intro w hw
  obtain ⟨k, hk, rfl⟩ := List.mem_map.mp hw
  have hk := List.mem_range.mp hk
  match k, hk with
  | 0, _ => exact tb1 193 rfl rfl
  | 1, _ => exact tb1 195 rfl rfl
theorem inX8 : ∀ w ∈ u_ws RX8 TX8 9, w ∈ tbg := by
  intro w hw
  obtain ⟨k, hk, rfl⟩ := List.mem_map.mp hw
  have hk := List.mem_range.mp hk
  match k, hk with
  | 0, _ => exact tb1 230 rfl rfl
  | 1, _ => exact tb1 232 rfl rfl
  | 2, _ => exact tb1 234 rfl rfl
  | 3, _ => exact tb1 236 rfl rfl
  | 4, _ => exact tb1 238 rfl rfl
  | 5, _ => exact tb2 0 rfl rfl
  | 6, _ => exact tb2 2 rfl rfl
  | 7, _ => exact tb2 4 rfl rfl
  | 8, _ => exact tb2 6 rfl rfl
theorem inX9 : ∀ w ∈ u_ws RX9 TX9 13, w ∈ tbg := by
  intro w hw
  obtain ⟨k, hk, rfl⟩ := List.mem_map.mp hw
  have hk := List.mem_range.mp hk
  match k, hk with
  | 0, _ => exact tb1 59 rfl rfl
  | 1, _ => exact tb1 61 rfl rfl
  | 2, _ => exact tb1 63 rfl rfl
  | 3, _ => exact tb1 65 rfl rfl
  | 4, _ => exact tb1 67 rfl rfl
  | 5, _ => exact tb1 69 rfl rfl
  | 6, _ => exact tb1 71 rfl rfl
  | 7, _ => exact tb1 73 rfl rfl
  | 8, _ => exact tb1 75 rfl rfl
  | 9, _ => exact tb1 77 rfl rfl
  | 10, _ => exact tb1 79 rfl rfl
  | 11, _ => exact tb1 81 rfl rfl
  | 12, _ => exact tb1 83 rfl rfl
theorem inX10 : ∀ w ∈ u_ws RX10 TX10 3, w ∈ tbg := by
  intro w hw
  obtain ⟨k, hk, rfl⟩ := List.mem_map.mp hw
  have hk := List.mem_range.mp hk
  match k, hk with
  | 0, _ => exact tb2 52 rfl rfl
  | 1, _ => exact tb2 54 rfl rfl
  | 2, _ => exact tb2 56 rfl rfl
theorem inX11 : ∀ w ∈ u_ws RX11 TX11 37, w ∈ tbg := by
  intro w hw
  obtain ⟨k, hk, rfl⟩ := List.mem_map.mp hw
  have hk := List.mem_range.mp hk
  match k, hk with
  | 0, _ => exact tb4 126 rfl rfl
  | 1, _ => exact tb4 128 rfl rfl
  | 2, _ => exact tb4 130 rfl rfl
  | 3, _ => exact tb4 132 rfl rfl
  | 4, _ => exact tb4 134 rfl rfl
  | 5, _ => exact tb4 136 rfl rfl
  | 6, _ => exact tb4 138 rfl rfl
  | 7, _ => exact tb4 140 rfl rfl
  | 8, _ => exact tb4 142 rfl rfl
  | 9, _ => exact tb4 144 rfl rfl
  | 10, _ => exact tb4 146 rfl rfl
  | 11, _ => exact tb4 148 rfl rfl
  | 12, _ => exact tb4 150 rfl rfl
  | 13, _ => exact tb4 152 rfl rfl
  | 14, _ => exact tb4 154 rfl rfl
  | 15, _ => exact tb4 156 rfl rfl
  | 16, _ => exact tb4 158 rfl rfl
  | 17, _ => exact tb4 160 rfl rfl
  | 18, _ => exact tb4 162 rfl rfl
  | 19, _ => exact tb4 164 rfl rfl
  | 20, _ => exact tb4 166 rfl rfl
  | 21, _ => exact tb4 168 rfl rfl
  | 22, _ => exact tb4 170 rfl rfl
  | 23, _ => exact tb4 172 rfl rfl
  | 24, _ => exact tb4 174 rfl rfl
  | 25, _ => exact tb4 176 rfl rfl
  | 26, _ => exact tb4 178 rfl rfl
  | 27, _ => exact tb4 180 rfl rfl
  | 28, _ => exact tb4 182 rfl rfl
  | 29, _ => exact tb4 184 rfl rfl
  | 30, _ => exact tb4 186 rfl rfl
  | 31, _ => exact tb4 188 rfl rfl
  | 32, _ => exact tb4 190 rfl rfl
  | 33, _ => exact tb4 192 rfl rfl
  | 34, _ => exact tb4 194 rfl rfl
  | 35, _ => exact tb4 196 rfl rfl
  | 36, _ => exact tb4 198 rfl rfl
  | k + 37, hk => exact absurd hk (by omega)
def mX0_init : MI := (RX0, yX0_init, cX0_init, 1, none)
def mX0_countFixed : MI := (RX0, yX0_countFixed, cX0_countFixed, 7, (some FieldType.long))
def mX0_load : MI := (RX0, yX0_load, cX0_load, 5, none)
def mX0_clear : MI := (RX0, yX0_clear, cX0_clear, 6, (some FieldType.int))
def mX0_findLeast : MI := (RX0, yX0_findLeast, cX0_findLeast, 6, (some FieldType.int))
def mX0_swap : MI := (RX0, yX0_swap, cX0_swap, 5, none)
def mX0_takeOff : MI := (RX0, yX0_takeOff, cX0_takeOff, 5, none)
def mX1_init : MI := (RX1, yX1_init, cX1_init, 2, none)
def mX1_canBe : MI := (RX1, yX1_canBe, cX1_canBe, 3, (some FieldType.boolean))
def mX1_open : MI := (RX1, yX1_open, cX1_open, 5, none)
def mX1_hasRest : MI := (RX1, yX1_hasRest, cX1_hasRest, 2, (some FieldType.boolean))
def mX1_canTell : MI := (RX1, yX1_canTell, cX1_canTell, 2, (some FieldType.boolean))
def mX1_put : MI := (RX1, yX1_put, cX1_put, 4, none)
def mX1_worth : MI := (RX1, yX1_worth, cX1_worth, 3, (some FieldType.int))
def mX1_goesBack : MI := (RX1, yX1_goesBack, cX1_goesBack, 1, (some FieldType.boolean))
def mX1_partCount : MI := (RX1, yX1_partCount, cX1_partCount, 6, (some FieldType.int))
def mX1_partAt : MI := (RX1, yX1_partAt, cX1_partAt, 2, (some (FieldType.object "RoundMill$Part")))
def mX1_oneRoundHoldsAll : MI := (RX1, yX1_oneRoundHoldsAll, cX1_oneRoundHoldsAll, 7, (some FieldType.boolean))
def mX1_findParts : MI := (RX1, yX1_findParts, cX1_findParts, 7, none)
def mX1_pairs : MI := (RX1, yX1_pairs, cX1_pairs, 3, (some FieldType.long))
def mX1_lowPairs : MI := (RX1, yX1_lowPairs, cX1_lowPairs, 3, (some FieldType.long))
def mX1_square : MI := (RX1, yX1_square, cX1_square, 3, (some FieldType.long))
def mX2_init : MI := (RX2, yX2_init, cX2_init, 1, none)
def mX2_forget : MI := (RX2, yX2_forget, cX2_forget, 1, none)
def mX2_find : MI := (RX2, yX2_find, cX2_find, 10, none)
def mX2_take : MI := (RX2, yX2_take, cX2_take, 6, none)
def mX2_startsAboveNought : MI := (RX2, yX2_startsAboveNought, cX2_startsAboveNought, 5, (some FieldType.boolean))
def mX2_comesFirst : MI := (RX2, yX2_comesFirst, cX2_comesFirst, 2, (some FieldType.boolean))
def mX3_restOf : MI := (RX3, yX3_restOf, cX3_restOf, 3, (some FieldType.int))
def mX3_commonDivisor : MI := (RX3, yX3_commonDivisor, cX3_commonDivisor, 11, (some FieldType.long))
def mX3_inverse : MI := (RX3, yX3_inverse, cX3_inverse, 10, (some FieldType.int))
def mX3_isTellingPrime : MI := (RX3, yX3_isTellingPrime, cX3_isTellingPrime, 2, (some FieldType.boolean))
def mX4_init : MI := (RX4, yX4_init, cX4_init, 1, none)
def mX4_leave : MI := (RX4, yX4_leave, cX4_leave, 1, none)
def mX4_take : MI := (RX4, yX4_take, cX4_take, 5, (some FieldType.int))
def mX4_joined : MI := (RX4, yX4_joined, cX4_joined, 7, (some FieldType.int))
def mX4_enoughTurns : MI := (RX4, yX4_enoughTurns, cX4_enoughTurns, 7, (some FieldType.long))
def mX4_listPrimes : MI := (RX4, yX4_listPrimes, cX4_listPrimes, 3, none)
def mX5_init : MI := (RX5, yX5_init, cX5_init, 1, none)
def mX5_clear : MI := (RX5, yX5_clear, cX5_clear, 2, none)
def mX5_has : MI := (RX5, yX5_has, cX5_has, 3, (some FieldType.boolean))
def mX5_place : MI := (RX5, yX5_place, cX5_place, 3, (some FieldType.int))
def mX5_moveBy : MI := (RX5, yX5_moveBy, cX5_moveBy, 8, none)
def mX5_looksAlike : MI := (RX5, yX5_looksAlike, cX5_looksAlike, 7, (some FieldType.boolean))
def mX5_startOf : MI := (RX5, yX5_startOf, cX5_startOf, 4, (some FieldType.int))
def mX6_init : MI := (RX6, yX6_init, cX6_init, 1, none)
def mX6_clear : MI := (RX6, yX6_clear, cX6_clear, 3, none)
def mX6_put : MI := (RX6, yX6_put, cX6_put, 4, none)
def mX6_told : MI := (RX6, yX6_told, cX6_told, 3, (some FieldType.int))
def mX6_settling : MI := (RX6, yX6_settling, cX6_settling, 1, (some (FieldType.array FieldType.int)))
def mX6_carryRow : MI := (RX6, yX6_carryRow, cX6_carryRow, 5, none)
def mX6_carryStep : MI := (RX6, yX6_carryStep, cX6_carryStep, 5, none)
def mX6_fillStill : MI := (RX6, yX6_fillStill, cX6_fillStill, 3, none)
def mX6_sameSteps : MI := (RX6, yX6_sameSteps, cX6_sameSteps, 7, (some FieldType.boolean))
def mX6_sameRows : MI := (RX6, yX6_sameRows, cX6_sameRows, 4, (some FieldType.boolean))
def mX6_reach : MI := (RX6, yX6_reach, cX6_reach, 5, none)
def mX6_apply : MI := (RX6, yX6_apply, cX6_apply, 8, none)
def mX6_compose : MI := (RX6, yX6_compose, cX6_compose, 11, none)
def mX7_init : MI := (RX7, yX7_init, cX7_init, 1, none)
def mX7_clear : MI := (RX7, yX7_clear, cX7_clear, 1, none)
def mX7_add : MI := (RX7, yX7_add, cX7_add, 3, none)
def mX7_addThoseOf : MI := (RX7, yX7_addThoseOf, cX7_addThoseOf, 5, none)
def mX8_init : MI := (RX8, yX8_init, cX8_init, 3, none)
def mX8_forget : MI := (RX8, yX8_forget, cX8_forget, 1, none)
def mX8_wholeRound : MI := (RX8, yX8_wholeRound, cX8_wholeRound, 11, (some FieldType.long))
def mX8_turnsAhead : MI := (RX8, yX8_turnsAhead, cX8_turnsAhead, 5, (some FieldType.long))
def mX8_tailOf : MI := (RX8, yX8_tailOf, cX8_tailOf, 5, (some FieldType.int))
def mX8_roundOf : MI := (RX8, yX8_roundOf, cX8_roundOf, 7, (some FieldType.long))
def mX8_turnsToLookAlike : MI := (RX8, yX8_turnsToLookAlike, cX8_turnsToLookAlike, 7, (some FieldType.long))
def mX8_platesFixed : MI := (RX8, yX8_platesFixed, cX8_platesFixed, 10, (some FieldType.long))
def mX8_platesInRounds : MI := (RX8, yX8_platesInRounds, cX8_platesInRounds, 8, (some FieldType.long))
def mX8_stepOf : MI := (RX8, yX8_stepOf, cX8_stepOf, 3, (some (FieldType.array FieldType.int)))
def mX8_dividedBy : MI := (RX8, yX8_dividedBy, cX8_dividedBy, 7, (some FieldType.long))
def mX8_roundsModulo : MI := (RX8, yX8_roundsModulo, cX8_roundsModulo, 7, (some FieldType.long))
def mX8_settledComeBack : MI := (RX8, yX8_settledComeBack, cX8_settledComeBack, 5, (some FieldType.boolean))
def mX8_rowComesBack : MI := (RX8, yX8_rowComesBack, cX8_rowComesBack, 3, (some FieldType.boolean))
def mX8_copyRow : MI := (RX8, yX8_copyRow, cX8_copyRow, 2, none)
def mX9_init : MI := (RX9, yX9_init, cX9_init, 1, none)
def mX9_clear : MI := (RX9, yX9_clear, cX9_clear, 2, none)
def mX9_add : MI := (RX9, yX9_add, cX9_add, 2, (some FieldType.boolean))
def mX9_lengthen : MI := (RX9, yX9_lengthen, cX9_lengthen, 8, none)
def mX9_findNumbers : MI := (RX9, yX9_findNumbers, cX9_findNumbers, 3, none)
def mX9_findRow : MI := (RX9, yX9_findRow, cX9_findRow, 4, (some FieldType.int))
def mX9_swap : MI := (RX9, yX9_swap, cX9_swap, 4, none)
def mX9_clearColumn : MI := (RX9, yX9_clearColumn, cX9_clearColumn, 8, none)
def mX10_init : MI := (RX10, yX10_init, cX10_init, 2, none)
def mX10_mill : MI := (RX10, yX10_mill, cX10_mill, 5, (some FieldType.int))
def mX10_drop : MI := (RX10, yX10_drop, cX10_drop, 3, (some FieldType.boolean))
def mX10_table : MI := (RX10, yX10_table, cX10_table, 6, (some FieldType.boolean))
def mX10_more : MI := (RX10, yX10_more, cX10_more, 5, (some FieldType.boolean))
def mX10_plate : MI := (RX10, yX10_plate, cX10_plate, 5, (some FieldType.boolean))
def mX10_look : MI := (RX10, yX10_look, cX10_look, 4, (some FieldType.int))
def mX10_rest : MI := (RX10, yX10_rest, cX10_rest, 4, (some FieldType.int))
def mX10_cell : MI := (RX10, yX10_cell, cX10_cell, 5, (some FieldType.int))
def mX10_turn : MI := (RX10, yX10_turn, cX10_turn, 4, (some FieldType.boolean))
def mX10_leap : MI := (RX10, yX10_leap, cX10_leap, 5, (some FieldType.boolean))
def mX10_back : MI := (RX10, yX10_back, cX10_back, 5, (some FieldType.boolean))
def mX10_tail : MI := (RX10, yX10_tail, cX10_tail, 3, (some FieldType.int))
def mX10_round : MI := (RX10, yX10_round, cX10_round, 3, (some FieldType.long))
def mX10_order : MI := (RX10, yX10_order, cX10_order, 3, (some FieldType.long))
def mX10_fixed : MI := (RX10, yX10_fixed, cX10_fixed, 5, (some FieldType.long))
def mX10_rounds : MI := (RX10, yX10_rounds, cX10_rounds, 5, (some FieldType.long))
def mX10_part : MI := (RX10, yX10_part, cX10_part, 6, (some FieldType.int))
def mX10_split : MI := (RX10, yX10_split, cX10_split, 6, (some FieldType.int))
def mX10_join : MI := (RX10, yX10_join, cX10_join, 7, (some FieldType.boolean))
def mX10_all : MI := (RX10, yX10_all, cX10_all, 3, (some FieldType.int))
def mX10_shortest : MI := (RX10, yX10_shortest, cX10_shortest, 4, (some FieldType.int))
def mX10_line : MI := (RX10, yX10_line, cX10_line, 5, (some FieldType.int))
def mX10_paint : MI := (RX10, yX10_paint, cX10_paint, 6, (some FieldType.boolean))
def mX10_picture : MI := (RX10, yX10_picture, cX10_picture, 5, (some FieldType.int))
def mX10_move : MI := (RX10, yX10_move, cX10_move, 5, (some FieldType.boolean))
def mX10_seen : MI := (RX10, yX10_seen, cX10_seen, 3, (some FieldType.long))
def mX10_begin : MI := (RX10, yX10_begin, cX10_begin, 2, (some FieldType.boolean))
def mX10_tell : MI := (RX10, yX10_tell, cX10_tell, 2, (some FieldType.int))
def mX10_least : MI := (RX10, yX10_least, cX10_least, 1, (some FieldType.int))
def mX10_shown : MI := (RX10, yX10_shown, cX10_shown, 1, (some FieldType.int))
def mX10_rule : MI := (RX10, yX10_rule, cX10_rule, 2, (some FieldType.int))
def mX10_check : MI := (RX10, yX10_check, cX10_check, 5, (some FieldType.int))
def mX10_millAt : MI := (RX10, yX10_millAt, cX10_millAt, 2, (some (FieldType.object "RoundMill$Mill")))
def mX10_millOf : MI := (RX10, yX10_millOf, cX10_millOf, 4, (some (FieldType.object "RoundMill$Mill")))
def mX11_init : MI := (RX11, yX11_init, cX11_init, 1, none)
def mX11_isMill : MI := (RX11, yX11_isMill, cX11_isMill, 2, (some FieldType.boolean))
def mX11_restOf : MI := (RX11, yX11_restOf, cX11_restOf, 5, (some FieldType.int))
def mX11_mill : MI := (RX11, yX11_mill, cX11_mill, 6, (some FieldType.int))
def mX11_drop : MI := (RX11, yX11_drop, cX11_drop, 2, (some FieldType.boolean))
def mX11_canTell : MI := (RX11, yX11_canTell, cX11_canTell, 3, (some FieldType.boolean))
def mX11_table : MI := (RX11, yX11_table, cX11_table, 5, (some FieldType.boolean))
def mX11_more : MI := (RX11, yX11_more, cX11_more, 4, (some FieldType.boolean))
def mX11_plate : MI := (RX11, yX11_plate, cX11_plate, 4, (some FieldType.boolean))
def mX11_rest : MI := (RX11, yX11_rest, cX11_rest, 3, (some FieldType.int))
def mX11_cell : MI := (RX11, yX11_cell, cX11_cell, 4, (some FieldType.int))
def mX11_beginsBase : MI := (RX11, yX11_beginsBase, cX11_beginsBase, 7, none)
def mX11_multiplies : MI := (RX11, yX11_multiplies, cX11_multiplies, 9, none)
def mX11_powers : MI := (RX11, yX11_powers, cX11_powers, 7, none)
def mX11_plateIs : MI := (RX11, yX11_plateIs, cX11_plateIs, 4, none)
def mX11_goes : MI := (RX11, yX11_goes, cX11_goes, 6, none)
def mX11_isBack : MI := (RX11, yX11_isBack, cX11_isBack, 3, (some FieldType.boolean))
def mX11_takes : MI := (RX11, yX11_takes, cX11_takes, 3, none)
def mX11_leaps : MI := (RX11, yX11_leaps, cX11_leaps, 7, none)
def mX11_turn : MI := (RX11, yX11_turn, cX11_turn, 6, (some FieldType.boolean))
def mX11_leap : MI := (RX11, yX11_leap, cX11_leap, 4, (some FieldType.boolean))
def mX11_worth : MI := (RX11, yX11_worth, cX11_worth, 15, (some FieldType.int))
def mX11_common : MI := (RX11, yX11_common, cX11_common, 5, (some FieldType.int))
def mX11_isTurnable : MI := (RX11, yX11_isTurnable, cX11_isTurnable, 2, (some FieldType.boolean))
def mX11_parts : MI := (RX11, yX11_parts, cX11_parts, 4, none)
def mX11_look : MI := (RX11, yX11_look, cX11_look, 3, (some FieldType.int))
def mX11_part : MI := (RX11, yX11_part, cX11_part, 4, (some FieldType.int))
def mX11_split : MI := (RX11, yX11_split, cX11_split, 4, (some FieldType.int))
def mX11_join : MI := (RX11, yX11_join, cX11_join, 9, (some FieldType.boolean))
def mX11_factor : MI := (RX11, yX11_factor, cX11_factor, 7, none)
def mX11_makesMultiple : MI := (RX11, yX11_makesMultiple, cX11_makesMultiple, 6, none)
def mX11_commonOf : MI := (RX11, yX11_commonOf, cX11_commonOf, 10, (some FieldType.long))
def mX11_together : MI := (RX11, yX11_together, cX11_together, 4, (some FieldType.long))
def mX11_settles : MI := (RX11, yX11_settles, cX11_settles, 3, none)
def mX11_comesBack : MI := (RX11, yX11_comesBack, cX11_comesBack, 5, (some FieldType.boolean))
def mX11_roundOf : MI := (RX11, yX11_roundOf, cX11_roundOf, 9, (some FieldType.long))
def mX11_round : MI := (RX11, yX11_round, cX11_round, 2, (some FieldType.long))
def mX11_tail : MI := (RX11, yX11_tail, cX11_tail, 7, (some FieldType.int))
def mX11_isStill : MI := (RX11, yX11_isStill, cX11_isStill, 7, (some FieldType.boolean))
def mX11_orderOf : MI := (RX11, yX11_orderOf, cX11_orderOf, 8, (some FieldType.long))
def mX11_order : MI := (RX11, yX11_order, cX11_order, 2, (some FieldType.long))
def mX11_back : MI := (RX11, yX11_back, cX11_back, 6, (some FieldType.boolean))
def mX11_solutions : MI := (RX11, yX11_solutions, cX11_solutions, 12, (some FieldType.long))
def mX11_stays : MI := (RX11, yX11_stays, cX11_stays, 7, (some FieldType.long))
def mX11_sweeps : MI := (RX11, yX11_sweeps, cX11_sweeps, 11, none)
def mX11_fixedBy : MI := (RX11, yX11_fixedBy, cX11_fixedBy, 11, (some FieldType.long))
def mX11_fixed : MI := (RX11, yX11_fixed, cX11_fixed, 4, (some FieldType.long))
def mX11_primesOf : MI := (RX11, yX11_primesOf, cX11_primesOf, 4, none)
def mX11_rounds : MI := (RX11, yX11_rounds, cX11_rounds, 11, (some FieldType.long))
def mX11_all : MI := (RX11, yX11_all, cX11_all, 5, (some FieldType.int))
def mX11_check : MI := (RX11, yX11_check, cX11_check, 6, (some FieldType.int))
def mX11_shortOf : MI := (RX11, yX11_shortOf, cX11_shortOf, 4, (some FieldType.int))
def mX11_hasLine : MI := (RX11, yX11_hasLine, cX11_hasLine, 16, (some FieldType.boolean))
def mX11_isNet : MI := (RX11, yX11_isNet, cX11_isNet, 3, (some FieldType.boolean))
def mX11_shortest : MI := (RX11, yX11_shortest, cX11_shortest, 3, (some FieldType.int))
def mX11_line : MI := (RX11, yX11_line, cX11_line, 5, (some FieldType.int))
def mX11_isPicture : MI := (RX11, yX11_isPicture, cX11_isPicture, 2, (some FieldType.boolean))
def mX11_isCell : MI := (RX11, yX11_isCell, cX11_isCell, 4, (some FieldType.boolean))
def mX11_paint : MI := (RX11, yX11_paint, cX11_paint, 5, (some FieldType.boolean))
def mX11_picture : MI := (RX11, yX11_picture, cX11_picture, 4, (some FieldType.int))
def mX11_cellBehind : MI := (RX11, yX11_cellBehind, cX11_cellBehind, 4, (some FieldType.int))
def mX11_move : MI := (RX11, yX11_move, cX11_move, 7, (some FieldType.boolean))
def mX11_seen : MI := (RX11, yX11_seen, cX11_seen, 8, (some FieldType.long))
def mX11_cycleFrom : MI := (RX11, yX11_cycleFrom, cX11_cycleFrom, 5, (some FieldType.int))
def mX11_periodOf : MI := (RX11, yX11_periodOf, cX11_periodOf, 4, (some FieldType.int))
def mX11_repeats : MI := (RX11, yX11_repeats, cX11_repeats, 5, (some FieldType.boolean))
def mX11_begins : MI := (RX11, yX11_begins, cX11_begins, 2, none)
def mX11_begin : MI := (RX11, yX11_begin, cX11_begin, 3, (some FieldType.boolean))
def mX11_tell : MI := (RX11, yX11_tell, cX11_tell, 2, (some FieldType.int))
def mX11_inverse : MI := (RX11, yX11_inverse, cX11_inverse, 3, (some FieldType.int))
def mX11_hasRule : MI := (RX11, yX11_hasRule, cX11_hasRule, 6, (some FieldType.boolean))
def mX11_clears : MI := (RX11, yX11_clears, cX11_clears, 10, none)
def mX11_settlesRule : MI := (RX11, yX11_settlesRule, cX11_settlesRule, 5, none)
def mX11_leastRule : MI := (RX11, yX11_leastRule, cX11_leastRule, 2, (some FieldType.int))
def mX11_least : MI := (RX11, yX11_least, cX11_least, 1, (some FieldType.int))
def mX11_shown : MI := (RX11, yX11_shown, cX11_shown, 1, (some FieldType.int))
def mX11_rule : MI := (RX11, yX11_rule, cX11_rule, 3, (some FieldType.int))
def mJ6_numberOfLeadingZeros_0f7a4 : MI := (RJ6, yJ6_numberOfLeadingZeros_0f7a4, cJ6_numberOfLeadingZeros_0f7a4, 2, (some FieldType.int))
def mJ6_bitCount_0f7a4 : MI := (RJ6, yJ6_bitCount_0f7a4, cJ6_bitCount_0f7a4, 1, (some FieldType.int))
def mJ13_numberOfLeadingZeros_95d88 : MI := (RJ13, yJ13_numberOfLeadingZeros_95d88, cJ13_numberOfLeadingZeros_95d88, 3, (some FieldType.int))
def mJ9_floorMod_f86c9 : MI := (RJ9, yJ9_floorMod_f86c9, cJ9_floorMod_f86c9, 6, (some FieldType.long))
def mJ9_max_7cf53 : MI := (RJ9, yJ9_max_7cf53, cJ9_max_7cf53, 2, (some FieldType.int))
def mJ9_max_f86c9 : MI := (RJ9, yJ9_max_f86c9, cJ9_max_f86c9, 4, (some FieldType.long))
def mJ9_min_7cf53 : MI := (RJ9, yJ9_min_7cf53, cJ9_min_7cf53, 2, (some FieldType.int))
def mJ7_fill_53178 : MI := (RJ7, yJ7_fill_53178, cJ7_fill_53178, 4, none)
def mL_law : MI := (RL, yL_law, cL_law, 4, ret)
theorem flX9_43 : FL RX9 43 9 0 := ⟨RX9, TX9, 13, rfl, inX9, by decide, tb1 43 rfl rfl⟩
theorem fpX9_43 : FP RX9 43 9 0 (.int) false := ⟨RX9, TX9, 13, tyX9, rfl, inX9, by decide, tb1 43 rfl rfl, tyX9_ok, nmX9, rfl, by decide +kernel, fun q => by cases q⟩
theorem flX10_207 : FL RX10 207 9 0 := ⟨RX9, TX9, 13, rfl, inX9, by decide, tb1 44 rfl rfl⟩
theorem fpX10_207 : FP RX10 207 9 0 (.int) false := ⟨RX9, TX9, 13, tyX9, rfl, inX9, by decide, tb1 44 rfl rfl, tyX9_ok, nmX9, rfl, by decide +kernel, fun q => by cases q⟩
theorem flX9_46 : FL RX9 46 9 1 := ⟨RX9, TX9, 13, rfl, inX9, by decide, tb1 45 rfl rfl⟩
theorem fpX9_46 : FP RX9 46 9 1 (.int) false := ⟨RX9, TX9, 13, tyX9, rfl, inX9, by decide, tb1 45 rfl rfl, tyX9_ok, nmX9, rfl, by decide +kernel, fun q => by cases q⟩
theorem flX10_210 : FL RX10 210 9 1 := ⟨RX9, TX9, 13, rfl, inX9, by decide, tb1 46 rfl rfl⟩
theorem fpX10_210 : FP RX10 210 9 1 (.int) false := ⟨RX9, TX9, 13, tyX9, rfl, inX9, by decide, tb1 46 rfl rfl, tyX9_ok, nmX9, rfl, by decide +kernel, fun q => by cases q⟩
theorem flX9_9 : FL RX9 9 9 2 := ⟨RX9, TX9, 13, rfl, inX9, by decide, tb1 47 rfl rfl⟩
theorem fpX9_9 : FP RX9 9 9 2 (.array .int) true := ⟨RX9, TX9, 13, tyX9, rfl, inX9, by decide, tb1 47 rfl rfl, tyX9_ok, nmX9, rfl, by decide +kernel, fun _ => rfl⟩
theorem flX10_216 : FL RX10 216 9 2 := ⟨RX9, TX9, 13, rfl, inX9, by decide, tb1 48 rfl rfl⟩
theorem flX9_15 : FL RX9 15 9 3 := ⟨RX9, TX9, 13, rfl, inX9, by decide, tb1 49 rfl rfl⟩
theorem fpX9_15 : FP RX9 15 9 3 (.array .int) true := ⟨RX9, TX9, 13, tyX9, rfl, inX9, by decide, tb1 49 rfl rfl, tyX9_ok, nmX9, rfl, by decide +kernel, fun _ => rfl⟩
theorem flX9_18 : FL RX9 18 9 4 := ⟨RX9, TX9, 13, rfl, inX9, by decide, tb1 50 rfl rfl⟩
theorem fpX9_18 : FP RX9 18 9 4 (.array .int) true := ⟨RX9, TX9, 13, tyX9, rfl, inX9, by decide, tb1 50 rfl rfl, tyX9_ok, nmX9, rfl, by decide +kernel, fun _ => rfl⟩
theorem flX9_21 : FL RX9 21 9 5 := ⟨RX9, TX9, 13, rfl, inX9, by decide, tb1 51 rfl rfl⟩
theorem fpX9_21 : FP RX9 21 9 5 (.array .int) true := ⟨RX9, TX9, 13, tyX9, rfl, inX9, by decide, tb1 51 rfl rfl, tyX9_ok, nmX9, rfl, by decide +kernel, fun _ => rfl⟩
theorem flX9_24 : FL RX9 24 9 6 := ⟨RX9, TX9, 13, rfl, inX9, by decide, tb1 52 rfl rfl⟩
theorem fpX9_24 : FP RX9 24 9 6 (.array .int) true := ⟨RX9, TX9, 13, tyX9, rfl, inX9, by decide, tb1 52 rfl rfl, tyX9_ok, nmX9, rfl, by decide +kernel, fun _ => rfl⟩
theorem flX9_27 : FL RX9 27 9 7 := ⟨RX9, TX9, 13, rfl, inX9, by decide, tb1 53 rfl rfl⟩
theorem fpX9_27 : FP RX9 27 9 7 (.array .int) true := ⟨RX9, TX9, 13, tyX9, rfl, inX9, by decide, tb1 53 rfl rfl, tyX9_ok, nmX9, rfl, by decide +kernel, fun _ => rfl⟩
theorem flX9_32 : FL RX9 32 9 8 := ⟨RX9, TX9, 13, rfl, inX9, by decide, tb1 54 rfl rfl⟩
theorem fpX9_32 : FP RX9 32 9 8 (.array (.array .int)) true := ⟨RX9, TX9, 13, tyX9, rfl, inX9, by decide, tb1 54 rfl rfl, tyX9_ok, nmX9, rfl, by decide +kernel, fun _ => rfl⟩
theorem flX9_39 : FL RX9 39 9 9 := ⟨RX9, TX9, 13, rfl, inX9, by decide, tb1 55 rfl rfl⟩
theorem fpX9_39 : FP RX9 39 9 9 (.int) false := ⟨RX9, TX9, 13, tyX9, rfl, inX9, by decide, tb1 55 rfl rfl, tyX9_ok, nmX9, rfl, by decide +kernel, fun q => by cases q⟩
theorem flX9_49 : FL RX9 49 9 10 := ⟨RX9, TX9, 13, rfl, inX9, by decide, tb1 56 rfl rfl⟩
theorem fpX9_49 : FP RX9 49 9 10 (.int) false := ⟨RX9, TX9, 13, tyX9, rfl, inX9, by decide, tb1 56 rfl rfl, tyX9_ok, nmX9, rfl, by decide +kernel, fun q => by cases q⟩
theorem flX9_52 : FL RX9 52 9 11 := ⟨RX9, TX9, 13, rfl, inX9, by decide, tb1 57 rfl rfl⟩
theorem fpX9_52 : FP RX9 52 9 11 (.int) false := ⟨RX9, TX9, 13, tyX9, rfl, inX9, by decide, tb1 57 rfl rfl, tyX9_ok, nmX9, rfl, by decide +kernel, fun q => by cases q⟩
theorem flX9_55 : FL RX9 55 9 12 := ⟨RX9, TX9, 13, rfl, inX9, by decide, tb1 58 rfl rfl⟩
theorem fpX9_55 : FP RX9 55 9 12 (.boolean) false := ⟨RX9, TX9, 13, tyX9, rfl, inX9, by decide, tb1 58 rfl rfl, tyX9_ok, nmX9, rfl, by decide +kernel, fun q => by cases q⟩
theorem flX2_9 : FL RX2 9 2 0 := ⟨RX2, TX2, 4, rfl, inX2, by decide, tb1 98 rfl rfl⟩
theorem fpX2_9 : FP RX2 9 2 0 (.array .int) true := ⟨RX2, TX2, 4, tyX2, rfl, inX2, by decide, tb1 98 rfl rfl, tyX2_ok, nmX2, rfl, by decide +kernel, fun _ => rfl⟩
theorem flX10_166 : FL RX10 166 2 0 := ⟨RX2, TX2, 4, rfl, inX2, by decide, tb1 99 rfl rfl⟩
theorem flX2_26 : FL RX2 26 2 1 := ⟨RX2, TX2, 4, rfl, inX2, by decide, tb1 100 rfl rfl⟩
theorem fpX2_26 : FP RX2 26 2 1 (.int) false := ⟨RX2, TX2, 4, tyX2, rfl, inX2, by decide, tb1 100 rfl rfl, tyX2_ok, nmX2, rfl, by decide +kernel, fun q => by cases q⟩
theorem flX10_163 : FL RX10 163 2 1 := ⟨RX2, TX2, 4, rfl, inX2, by decide, tb1 101 rfl rfl⟩
theorem fpX10_163 : FP RX10 163 2 1 (.int) false := ⟨RX2, TX2, 4, tyX2, rfl, inX2, by decide, tb1 101 rfl rfl, tyX2_ok, nmX2, rfl, by decide +kernel, fun q => by cases q⟩
theorem flX2_15 : FL RX2 15 2 2 := ⟨RX2, TX2, 4, rfl, inX2, by decide, tb1 102 rfl rfl⟩
theorem fpX2_15 : FP RX2 15 2 2 (.array .int) true := ⟨RX2, TX2, 4, tyX2, rfl, inX2, by decide, tb1 102 rfl rfl, tyX2_ok, nmX2, rfl, by decide +kernel, fun _ => rfl⟩
theorem flX2_18 : FL RX2 18 2 3 := ⟨RX2, TX2, 4, rfl, inX2, by decide, tb1 103 rfl rfl⟩
theorem fpX2_18 : FP RX2 18 2 3 (.int) false := ⟨RX2, TX2, 4, tyX2, rfl, inX2, by decide, tb1 103 rfl rfl, tyX2_ok, nmX2, rfl, by decide +kernel, fun q => by cases q⟩
theorem flX5_9 : FL RX5 9 5 0 := ⟨RX5, TX5, 2, rfl, inX5, by decide, tb1 119 rfl rfl⟩
theorem fpX5_9 : FP RX5 9 5 0 (.array .int) true := ⟨RX5, TX5, 2, tyX5, rfl, inX5, by decide, tb1 119 rfl rfl, tyX5_ok, nmX5, rfl, by decide +kernel, fun _ => rfl⟩
theorem flX10_179 : FL RX10 179 5 0 := ⟨RX5, TX5, 2, rfl, inX5, by decide, tb1 120 rfl rfl⟩
theorem flX5_21 : FL RX5 21 5 1 := ⟨RX5, TX5, 2, rfl, inX5, by decide, tb1 121 rfl rfl⟩
theorem fpX5_21 : FP RX5 21 5 1 (.int) false := ⟨RX5, TX5, 2, tyX5, rfl, inX5, by decide, tb1 121 rfl rfl, tyX5_ok, nmX5, rfl, by decide +kernel, fun q => by cases q⟩
theorem flX4_13 : FL RX4 13 4 0 := ⟨RX4, TX4, 3, rfl, inX4, by decide, tb1 134 rfl rfl⟩
theorem fpX4_13 : FP RX4 13 4 0 (.int) false := ⟨RX4, TX4, 3, tyX4, rfl, inX4, by decide, tb1 134 rfl rfl, tyX4_ok, nmX4, rfl, by decide +kernel, fun q => by cases q⟩
theorem flX1_125 : FL RX1 125 4 0 := ⟨RX4, TX4, 3, rfl, inX4, by decide, tb1 135 rfl rfl⟩
theorem fpX1_125 : FP RX1 125 4 0 (.int) false := ⟨RX4, TX4, 3, tyX4, rfl, inX4, by decide, tb1 135 rfl rfl, tyX4_ok, nmX4, rfl, by decide +kernel, fun q => by cases q⟩
theorem flX10_132 : FL RX10 132 4 0 := ⟨RX4, TX4, 3, rfl, inX4, by decide, tb1 136 rfl rfl⟩
theorem fpX10_132 : FP RX10 132 4 0 (.int) false := ⟨RX4, TX4, 3, tyX4, rfl, inX4, by decide, tb1 136 rfl rfl, tyX4_ok, nmX4, rfl, by decide +kernel, fun q => by cases q⟩
theorem flX4_7 : FL RX4 7 4 1 := ⟨RX4, TX4, 3, rfl, inX4, by decide, tb1 137 rfl rfl⟩
theorem fpX4_7 : FP RX4 7 4 1 (.int) false := ⟨RX4, TX4, 3, tyX4, rfl, inX4, by decide, tb1 137 rfl rfl, tyX4_ok, nmX4, rfl, by decide +kernel, fun q => by cases q⟩
theorem flX8_55 : FL RX8 55 4 1 := ⟨RX4, TX4, 3, rfl, inX4, by decide, tb1 138 rfl rfl⟩
theorem fpX8_55 : FP RX8 55 4 1 (.int) false := ⟨RX4, TX4, 3, tyX4, rfl, inX4, by decide, tb1 138 rfl rfl, tyX4_ok, nmX4, rfl, by decide +kernel, fun q => by cases q⟩
theorem flX1_115 : FL RX1 115 4 1 := ⟨RX4, TX4, 3, rfl, inX4, by decide, tb1 139 rfl rfl⟩
theorem fpX1_115 : FP RX1 115 4 1 (.int) false := ⟨RX4, TX4, 3, tyX4, rfl, inX4, by decide, tb1 139 rfl rfl, tyX4_ok, nmX4, rfl, by decide +kernel, fun q => by cases q⟩
theorem flX10_137 : FL RX10 137 4 1 := ⟨RX4, TX4, 3, rfl, inX4, by decide, tb1 140 rfl rfl⟩
theorem fpX10_137 : FP RX10 137 4 1 (.int) false := ⟨RX4, TX4, 3, tyX4, rfl, inX4, by decide, tb1 140 rfl rfl, tyX4_ok, nmX4, rfl, by decide +kernel, fun q => by cases q⟩
theorem flX4_16 : FL RX4 16 4 2 := ⟨RX4, TX4, 3, rfl, inX4, by decide, tb1 141 rfl rfl⟩
theorem fpX4_16 : FP RX4 16 4 2 (.int) false := ⟨RX4, TX4, 3, tyX4, rfl, inX4, by decide, tb1 141 rfl rfl, tyX4_ok, nmX4, rfl, by decide +kernel, fun q => by cases q⟩
theorem flX10_140 : FL RX10 140 4 2 := ⟨RX4, TX4, 3, rfl, inX4, by decide, tb1 142 rfl rfl⟩
theorem fpX10_140 : FP RX10 140 4 2 (.int) false := ⟨RX4, TX4, 3, tyX4, rfl, inX4, by decide, tb1 142 rfl rfl, tyX4_ok, nmX4, rfl, by decide +kernel, fun q => by cases q⟩
theorem flX6_13 : FL RX6 13 6 0 := ⟨RX6, TX6, 6, rfl, inX6, by decide, tb1 157 rfl rfl⟩
theorem fpX6_13 : FP RX6 13 6 0 (.array (.array .int)) true := ⟨RX6, TX6, 6, tyX6, rfl, inX6, by decide, tb1 157 rfl rfl, tyX6_ok, nmX6, rfl, by decide +kernel, fun _ => rfl⟩
theorem flX6_16 : FL RX6 16 6 1 := ⟨RX6, TX6, 6, rfl, inX6, by decide, tb1 158 rfl rfl⟩
theorem fpX6_16 : FP RX6 16 6 1 (.array .int) true := ⟨RX6, TX6, 6, tyX6, rfl, inX6, by decide, tb1 158 rfl rfl, tyX6_ok, nmX6, rfl, by decide +kernel, fun _ => rfl⟩
theorem flX6_20 : FL RX6 20 6 2 := ⟨RX6, TX6, 6, rfl, inX6, by decide, tb1 159 rfl rfl⟩
theorem fpX6_20 : FP RX6 20 6 2 (.array .int) true := ⟨RX6, TX6, 6, tyX6, rfl, inX6, by decide, tb1 159 rfl rfl, tyX6_ok, nmX6, rfl, by decide +kernel, fun _ => rfl⟩
theorem flX6_23 : FL RX6 23 6 3 := ⟨RX6, TX6, 6, rfl, inX6, by decide, tb1 160 rfl rfl⟩
theorem fpX6_23 : FP RX6 23 6 3 (.int) false := ⟨RX6, TX6, 6, tyX6, rfl, inX6, by decide, tb1 160 rfl rfl, tyX6_ok, nmX6, rfl, by decide +kernel, fun q => by cases q⟩
theorem flX6_27 : FL RX6 27 6 4 := ⟨RX6, TX6, 6, rfl, inX6, by decide, tb1 161 rfl rfl⟩
theorem fpX6_27 : FP RX6 27 6 4 (.int) false := ⟨RX6, TX6, 6, tyX6, rfl, inX6, by decide, tb1 161 rfl rfl, tyX6_ok, nmX6, rfl, by decide +kernel, fun q => by cases q⟩
theorem flX6_30 : FL RX6 30 6 5 := ⟨RX6, TX6, 6, rfl, inX6, by decide, tb1 162 rfl rfl⟩
theorem fpX6_30 : FP RX6 30 6 5 (.int) false := ⟨RX6, TX6, 6, tyX6, rfl, inX6, by decide, tb1 162 rfl rfl, tyX6_ok, nmX6, rfl, by decide +kernel, fun q => by cases q⟩
theorem flX8_117 : FL RX8 117 6 5 := ⟨RX6, TX6, 6, rfl, inX6, by decide, tb1 163 rfl rfl⟩
theorem fpX8_117 : FP RX8 117 6 5 (.int) false := ⟨RX6, TX6, 6, tyX6, rfl, inX6, by decide, tb1 163 rfl rfl, tyX6_ok, nmX6, rfl, by decide +kernel, fun q => by cases q⟩
theorem flX7_9 : FL RX7 9 7 0 := ⟨RX7, TX7, 2, rfl, inX7, by decide, tb1 189 rfl rfl⟩
theorem fpX7_9 : FP RX7 9 7 0 (.array .int) true := ⟨RX7, TX7, 2, tyX7, rfl, inX7, by decide, tb1 189 rfl rfl, tyX7_ok, nmX7, rfl, by decide +kernel, fun _ => rfl⟩
theorem flX8_97 : FL RX8 97 7 0 := ⟨RX7, TX7, 2, rfl, inX7, by decide, tb1 190 rfl rfl⟩
theorem flX7_15 : FL RX7 15 7 1 := ⟨RX7, TX7, 2, rfl, inX7, by decide, tb1 191 rfl rfl⟩
theorem fpX7_15 : FP RX7 15 7 1 (.int) false := ⟨RX7, TX7, 2, tyX7, rfl, inX7, by decide, tb1 191 rfl rfl, tyX7_ok, nmX7, rfl, by decide +kernel, fun q => by cases q⟩
theorem flX8_94 : FL RX8 94 7 1 := ⟨RX7, TX7, 2, rfl, inX7, by decide, tb1 192 rfl rfl⟩
theorem fpX8_94 : FP RX8 94 7 1 (.int) false := ⟨RX7, TX7, 2, tyX7, rfl, inX7, by decide, tb1 192 rfl rfl, tyX7_ok, nmX7, rfl, by decide +kernel, fun q => by cases q⟩
theorem flX0_11 : FL RX0 11 0 0 := ⟨RX0, TX0, 5, rfl, inX0, by decide, tb1 205 rfl rfl⟩
theorem fpX0_11 : FP RX0 11 0 0 (.array (.array .int)) true := ⟨RX0, TX0, 5, tyX0, rfl, inX0, by decide, tb1 205 rfl rfl, tyX0_ok, nmX0, rfl, by decide +kernel, fun _ => rfl⟩
theorem flX0_16 : FL RX0 16 0 1 := ⟨RX0, TX0, 5, rfl, inX0, by decide, tb1 206 rfl rfl⟩
theorem fpX0_16 : FP RX0 16 0 1 (.int) false := ⟨RX0, TX0, 5, tyX0, rfl, inX0, by decide, tb1 206 rfl rfl, tyX0_ok, nmX0, rfl, by decide +kernel, fun q => by cases q⟩
theorem flX0_20 : FL RX0 20 0 2 := ⟨RX0, TX0, 5, rfl, inX0, by decide, tb1 207 rfl rfl⟩
theorem fpX0_20 : FP RX0 20 0 2 (.int) false := ⟨RX0, TX0, 5, tyX0, rfl, inX0, by decide, tb1 207 rfl rfl, tyX0_ok, nmX0, rfl, by decide +kernel, fun q => by cases q⟩
theorem flX0_58 : FL RX0 58 0 3 := ⟨RX0, TX0, 5, rfl, inX0, by decide, tb1 208 rfl rfl⟩
theorem fpX0_58 : FP RX0 58 0 3 (.int) false := ⟨RX0, TX0, 5, tyX0, rfl, inX0, by decide, tb1 208 rfl rfl, tyX0_ok, nmX0, rfl, by decide +kernel, fun q => by cases q⟩
theorem flX0_61 : FL RX0 61 0 4 := ⟨RX0, TX0, 5, rfl, inX0, by decide, tb1 209 rfl rfl⟩
theorem fpX0_61 : FP RX0 61 0 4 (.int) false := ⟨RX0, TX0, 5, tyX0, rfl, inX0, by decide, tb1 209 rfl rfl, tyX0_ok, nmX0, rfl, by decide +kernel, fun q => by cases q⟩
theorem flX8_40 : FL RX8 40 8 0 := ⟨RX8, TX8, 9, rfl, inX8, by decide, tb1 221 rfl rfl⟩
theorem fpX8_40 : FP RX8 40 8 0 (.object "RoundMill$Powers") true := ⟨RX8, TX8, 9, tyX8, rfl, inX8, by decide, tb1 221 rfl rfl, tyX8_ok, nmX8, rfl, by decide +kernel, fun _ => rfl⟩
theorem flX8_44 : FL RX8 44 8 1 := ⟨RX8, TX8, 9, rfl, inX8, by decide, tb1 222 rfl rfl⟩
theorem fpX8_44 : FP RX8 44 8 1 (.array (.object "RoundMill$Part")) true := ⟨RX8, TX8, 9, tyX8, rfl, inX8, by decide, tb1 222 rfl rfl, tyX8_ok, nmX8, rfl, by decide +kernel, fun _ => rfl⟩
theorem flX8_12 : FL RX8 12 8 2 := ⟨RX8, TX8, 9, rfl, inX8, by decide, tb1 223 rfl rfl⟩
theorem fpX8_12 : FP RX8 12 8 2 (.object "RoundMill$Primes") true := ⟨RX8, TX8, 9, tyX8, rfl, inX8, by decide, tb1 223 rfl rfl, tyX8_ok, nmX8, rfl, by decide +kernel, fun _ => rfl⟩
theorem flX8_18 : FL RX8 18 8 3 := ⟨RX8, TX8, 9, rfl, inX8, by decide, tb1 224 rfl rfl⟩
theorem fpX8_18 : FP RX8 18 8 3 (.object "RoundMill$Primes") true := ⟨RX8, TX8, 9, tyX8, rfl, inX8, by decide, tb1 224 rfl rfl, tyX8_ok, nmX8, rfl, by decide +kernel, fun _ => rfl⟩
theorem flX8_24 : FL RX8 24 8 4 := ⟨RX8, TX8, 9, rfl, inX8, by decide, tb1 225 rfl rfl⟩
theorem fpX8_24 : FP RX8 24 8 4 (.object "RoundMill$Equations") true := ⟨RX8, TX8, 9, tyX8, rfl, inX8, by decide, tb1 225 rfl rfl, tyX8_ok, nmX8, rfl, by decide +kernel, fun _ => rfl⟩
theorem flX8_30 : FL RX8 30 8 5 := ⟨RX8, TX8, 9, rfl, inX8, by decide, tb1 226 rfl rfl⟩
theorem fpX8_30 : FP RX8 30 8 5 (.array .int) true := ⟨RX8, TX8, 9, tyX8, rfl, inX8, by decide, tb1 226 rfl rfl, tyX8_ok, nmX8, rfl, by decide +kernel, fun _ => rfl⟩
theorem flX8_34 : FL RX8 34 8 6 := ⟨RX8, TX8, 9, rfl, inX8, by decide, tb1 227 rfl rfl⟩
theorem fpX8_34 : FP RX8 34 8 6 (.array .int) true := ⟨RX8, TX8, 9, tyX8, rfl, inX8, by decide, tb1 227 rfl rfl, tyX8_ok, nmX8, rfl, by decide +kernel, fun _ => rfl⟩
theorem flX8_37 : FL RX8 37 8 7 := ⟨RX8, TX8, 9, rfl, inX8, by decide, tb1 228 rfl rfl⟩
theorem fpX8_37 : FP RX8 37 8 7 (.array .int) true := ⟨RX8, TX8, 9, tyX8, rfl, inX8, by decide, tb1 228 rfl rfl, tyX8_ok, nmX8, rfl, by decide +kernel, fun _ => rfl⟩
theorem flX8_48 : FL RX8 48 8 8 := ⟨RX8, TX8, 9, rfl, inX8, by decide, tb1 229 rfl rfl⟩
theorem fpX8_48 : FP RX8 48 8 8 (.long) false := ⟨RX8, TX8, 9, tyX8, rfl, inX8, by decide, tb1 229 rfl rfl, tyX8_ok, nmX8, rfl, by decide +kernel, fun q => by cases q⟩
theorem flX10_31 : FL RX10 31 1 0 := ⟨RX1, TX1, 10, rfl, inX1, by decide, tb2 9 rfl rfl⟩
theorem fpX10_31 : FP RX10 31 1 0 (.boolean) false := ⟨RX1, TX1, 10, tyX1, rfl, inX1, by decide, tb2 9 rfl rfl, tyX1_ok, nmX1, rfl, by decide +kernel, fun q => by cases q⟩
theorem flX1_52 : FL RX1 52 1 0 := ⟨RX1, TX1, 10, rfl, inX1, by decide, tb2 10 rfl rfl⟩
theorem fpX1_52 : FP RX1 52 1 0 (.boolean) false := ⟨RX1, TX1, 10, tyX1, rfl, inX1, by decide, tb2 10 rfl rfl, tyX1_ok, nmX1, rfl, by decide +kernel, fun q => by cases q⟩
theorem flX1_56 : FL RX1 56 1 1 := ⟨RX1, TX1, 10, rfl, inX1, by decide, tb2 11 rfl rfl⟩
theorem fpX1_56 : FP RX1 56 1 1 (.int) false := ⟨RX1, TX1, 10, tyX1, rfl, inX1, by decide, tb2 11 rfl rfl, tyX1_ok, nmX1, rfl, by decide +kernel, fun q => by cases q⟩
theorem flX10_68 : FL RX10 68 1 1 := ⟨RX1, TX1, 10, rfl, inX1, by decide, tb2 12 rfl rfl⟩
theorem fpX10_68 : FP RX10 68 1 1 (.int) false := ⟨RX1, TX1, 10, tyX1, rfl, inX1, by decide, tb2 12 rfl rfl, tyX1_ok, nmX1, rfl, by decide +kernel, fun q => by cases q⟩
theorem flX1_60 : FL RX1 60 1 2 := ⟨RX1, TX1, 10, rfl, inX1, by decide, tb2 13 rfl rfl⟩
theorem fpX1_60 : FP RX1 60 1 2 (.int) false := ⟨RX1, TX1, 10, tyX1, rfl, inX1, by decide, tb2 13 rfl rfl, tyX1_ok, nmX1, rfl, by decide +kernel, fun q => by cases q⟩
theorem flX10_58 : FL RX10 58 1 2 := ⟨RX1, TX1, 10, rfl, inX1, by decide, tb2 14 rfl rfl⟩
theorem fpX10_58 : FP RX10 58 1 2 (.int) false := ⟨RX1, TX1, 10, tyX1, rfl, inX1, by decide, tb2 14 rfl rfl, tyX1_ok, nmX1, rfl, by decide +kernel, fun q => by cases q⟩
theorem flX1_63 : FL RX1 63 1 3 := ⟨RX1, TX1, 10, rfl, inX1, by decide, tb2 15 rfl rfl⟩
theorem fpX1_63 : FP RX1 63 1 3 (.int) false := ⟨RX1, TX1, 10, tyX1, rfl, inX1, by decide, tb2 15 rfl rfl, tyX1_ok, nmX1, rfl, by decide +kernel, fun q => by cases q⟩
theorem flX10_71 : FL RX10 71 1 3 := ⟨RX1, TX1, 10, rfl, inX1, by decide, tb2 16 rfl rfl⟩
theorem fpX10_71 : FP RX10 71 1 3 (.int) false := ⟨RX1, TX1, 10, tyX1, rfl, inX1, by decide, tb2 16 rfl rfl, tyX1_ok, nmX1, rfl, by decide +kernel, fun q => by cases q⟩
theorem flX1_9 : FL RX1 9 1 4 := ⟨RX1, TX1, 10, rfl, inX1, by decide, tb2 17 rfl rfl⟩
theorem fpX1_9 : FP RX1 9 1 4 (.array .int) true := ⟨RX1, TX1, 10, tyX1, rfl, inX1, by decide, tb2 17 rfl rfl, tyX1_ok, nmX1, rfl, by decide +kernel, fun _ => rfl⟩
theorem flX10_55 : FL RX10 55 1 4 := ⟨RX1, TX1, 10, rfl, inX1, by decide, tb2 18 rfl rfl⟩
theorem flX1_39 : FL RX1 39 1 5 := ⟨RX1, TX1, 10, rfl, inX1, by decide, tb2 19 rfl rfl⟩
theorem fpX1_39 : FP RX1 39 1 5 (.object "RoundMill$Powers") true := ⟨RX1, TX1, 10, tyX1, rfl, inX1, by decide, tb2 19 rfl rfl, tyX1_ok, nmX1, rfl, by decide +kernel, fun _ => rfl⟩
theorem flX10_85 : FL RX10 85 1 5 := ⟨RX1, TX1, 10, rfl, inX1, by decide, tb2 20 rfl rfl⟩
theorem flX1_48 : FL RX1 48 1 6 := ⟨RX1, TX1, 10, rfl, inX1, by decide, tb2 21 rfl rfl⟩
theorem fpX1_48 : FP RX1 48 1 6 (.object "RoundMill$Rounds") true := ⟨RX1, TX1, 10, tyX1, rfl, inX1, by decide, tb2 21 rfl rfl, tyX1_ok, nmX1, rfl, by decide +kernel, fun _ => rfl⟩
theorem flX10_96 : FL RX10 96 1 6 := ⟨RX1, TX1, 10, rfl, inX1, by decide, tb2 22 rfl rfl⟩
theorem flX1_18 : FL RX1 18 1 7 := ⟨RX1, TX1, 10, rfl, inX1, by decide, tb2 23 rfl rfl⟩
theorem fpX1_18 : FP RX1 18 1 7 (.object "RoundMill$Net") true := ⟨RX1, TX1, 10, tyX1, rfl, inX1, by decide, tb2 23 rfl rfl, tyX1_ok, nmX1, rfl, by decide +kernel, fun _ => rfl⟩
theorem flX10_154 : FL RX10 154 1 7 := ⟨RX1, TX1, 10, rfl, inX1, by decide, tb2 24 rfl rfl⟩
theorem flX1_25 : FL RX1 25 1 8 := ⟨RX1, TX1, 10, rfl, inX1, by decide, tb2 25 rfl rfl⟩
theorem fpX1_25 : FP RX1 25 1 8 (.object "RoundMill$Picture") true := ⟨RX1, TX1, 10, tyX1, rfl, inX1, by decide, tb2 25 rfl rfl, tyX1_ok, nmX1, rfl, by decide +kernel, fun _ => rfl⟩
theorem flX10_169 : FL RX10 169 1 8 := ⟨RX1, TX1, 10, rfl, inX1, by decide, tb2 26 rfl rfl⟩
theorem flX1_31 : FL RX1 31 1 9 := ⟨RX1, TX1, 10, rfl, inX1, by decide, tb2 27 rfl rfl⟩
theorem fpX1_31 : FP RX1 31 1 9 (.array (.object "RoundMill$Part")) true := ⟨RX1, TX1, 10, tyX1, rfl, inX1, by decide, tb2 27 rfl rfl, tyX1_ok, nmX1, rfl, by decide +kernel, fun _ => rfl⟩
theorem flX10_11 : FL RX10 11 10 0 := ⟨RX10, TX10, 3, rfl, inX10, by decide, tb2 49 rfl rfl⟩
theorem fpX10_11 : FP RX10 11 10 0 (.array (.object "RoundMill$Mill")) true := ⟨RX10, TX10, 3, tyX10, rfl, inX10, by decide, tb2 49 rfl rfl, tyX10_ok, nmX10, rfl, by decide +kernel, fun _ => rfl⟩
theorem flX10_18 : FL RX10 18 10 1 := ⟨RX10, TX10, 3, rfl, inX10, by decide, tb2 50 rfl rfl⟩
theorem fpX10_18 : FP RX10 18 10 1 (.object "RoundMill$Told") true := ⟨RX10, TX10, 3, tyX10, rfl, inX10, by decide, tb2 50 rfl rfl, tyX10_ok, nmX10, rfl, by decide +kernel, fun _ => rfl⟩
theorem flX10_22 : FL RX10 22 10 2 := ⟨RX10, TX10, 3, rfl, inX10, by decide, tb2 51 rfl rfl⟩
theorem fpX10_22 : FP RX10 22 10 2 (.array .int) true := ⟨RX10, TX10, 3, tyX10, rfl, inX10, by decide, tb2 51 rfl rfl, tyX10_ok, nmX10, rfl, by decide +kernel, fun _ => rfl⟩
theorem frX2_22 : Cond.fieldLink RX2 22 "RoundMill$Net" "REACH" "[I" ∈ tbg := tb3 200 rfl rfl
theorem flX11_104 : FL RX11 104 11 0 := ⟨RX11, TX11, 37, rfl, inX11, by decide, tb4 89 rfl rfl⟩
theorem fpX11_104 : FP RX11 104 11 0 (.int) false := ⟨RX11, TX11, 37, tyX11, rfl, inX11, by decide, tb4 89 rfl rfl, tyX11_ok, nmX11, rfl, by decide +kernel, fun q => by cases q⟩
theorem flX11_7 : FL RX11 7 11 1 := ⟨RX11, TX11, 37, rfl, inX11, by decide, tb4 90 rfl rfl⟩
theorem fpX11_7 : FP RX11 7 11 1 (.array .boolean) true := ⟨RX11, TX11, 37, tyX11, rfl, inX11, by decide, tb4 90 rfl rfl, tyX11_ok, nmX11, rfl, by decide +kernel, fun _ => rfl⟩
theorem flX11_13 : FL RX11 13 11 2 := ⟨RX11, TX11, 37, rfl, inX11, by decide, tb4 91 rfl rfl⟩
theorem fpX11_13 : FP RX11 13 11 2 (.array .int) true := ⟨RX11, TX11, 37, tyX11, rfl, inX11, by decide, tb4 91 rfl rfl, tyX11_ok, nmX11, rfl, by decide +kernel, fun _ => rfl⟩
theorem flX11_17 : FL RX11 17 11 3 := ⟨RX11, TX11, 37, rfl, inX11, by decide, tb4 92 rfl rfl⟩
theorem fpX11_17 : FP RX11 17 11 3 (.array .int) true := ⟨RX11, TX11, 37, tyX11, rfl, inX11, by decide, tb4 92 rfl rfl, tyX11_ok, nmX11, rfl, by decide +kernel, fun _ => rfl⟩
theorem flX11_20 : FL RX11 20 11 4 := ⟨RX11, TX11, 37, rfl, inX11, by decide, tb4 93 rfl rfl⟩
theorem fpX11_20 : FP RX11 20 11 4 (.array .int) true := ⟨RX11, TX11, 37, tyX11, rfl, inX11, by decide, tb4 93 rfl rfl, tyX11_ok, nmX11, rfl, by decide +kernel, fun _ => rfl⟩
theorem flX11_23 : FL RX11 23 11 5 := ⟨RX11, TX11, 37, rfl, inX11, by decide, tb4 94 rfl rfl⟩
theorem fpX11_23 : FP RX11 23 11 5 (.array .int) true := ⟨RX11, TX11, 37, tyX11, rfl, inX11, by decide, tb4 94 rfl rfl, tyX11_ok, nmX11, rfl, by decide +kernel, fun _ => rfl⟩
theorem flX11_26 : FL RX11 26 11 6 := ⟨RX11, TX11, 37, rfl, inX11, by decide, tb4 95 rfl rfl⟩
theorem fpX11_26 : FP RX11 26 11 6 (.array .int) true := ⟨RX11, TX11, 37, tyX11, rfl, inX11, by decide, tb4 95 rfl rfl, tyX11_ok, nmX11, rfl, by decide +kernel, fun _ => rfl⟩
theorem flX11_29 : FL RX11 29 11 7 := ⟨RX11, TX11, 37, rfl, inX11, by decide, tb4 96 rfl rfl⟩
theorem fpX11_29 : FP RX11 29 11 7 (.array .int) true := ⟨RX11, TX11, 37, tyX11, rfl, inX11, by decide, tb4 96 rfl rfl, tyX11_ok, nmX11, rfl, by decide +kernel, fun _ => rfl⟩
theorem flX11_32 : FL RX11 32 11 8 := ⟨RX11, TX11, 37, rfl, inX11, by decide, tb4 97 rfl rfl⟩
theorem fpX11_32 : FP RX11 32 11 8 (.array .byte) true := ⟨RX11, TX11, 37, tyX11, rfl, inX11, by decide, tb4 97 rfl rfl, tyX11_ok, nmX11, rfl, by decide +kernel, fun _ => rfl⟩
theorem flX11_36 : FL RX11 36 11 9 := ⟨RX11, TX11, 37, rfl, inX11, by decide, tb4 98 rfl rfl⟩
theorem fpX11_36 : FP RX11 36 11 9 (.array .byte) true := ⟨RX11, TX11, 37, tyX11, rfl, inX11, by decide, tb4 98 rfl rfl, tyX11_ok, nmX11, rfl, by decide +kernel, fun _ => rfl⟩
theorem flX11_39 : FL RX11 39 11 10 := ⟨RX11, TX11, 37, rfl, inX11, by decide, tb4 99 rfl rfl⟩
theorem fpX11_39 : FP RX11 39 11 10 (.array .int) true := ⟨RX11, TX11, 37, tyX11, rfl, inX11, by decide, tb4 99 rfl rfl, tyX11_ok, nmX11, rfl, by decide +kernel, fun _ => rfl⟩
theorem flX11_42 : FL RX11 42 11 11 := ⟨RX11, TX11, 37, rfl, inX11, by decide, tb4 100 rfl rfl⟩
theorem fpX11_42 : FP RX11 42 11 11 (.array .int) true := ⟨RX11, TX11, 37, tyX11, rfl, inX11, by decide, tb4 100 rfl rfl, tyX11_ok, nmX11, rfl, by decide +kernel, fun _ => rfl⟩
theorem flX11_45 : FL RX11 45 11 12 := ⟨RX11, TX11, 37, rfl, inX11, by decide, tb4 101 rfl rfl⟩
theorem fpX11_45 : FP RX11 45 11 12 (.array .int) true := ⟨RX11, TX11, 37, tyX11, rfl, inX11, by decide, tb4 101 rfl rfl, tyX11_ok, nmX11, rfl, by decide +kernel, fun _ => rfl⟩
theorem flX11_120 : FL RX11 120 11 13 := ⟨RX11, TX11, 37, rfl, inX11, by decide, tb4 102 rfl rfl⟩
theorem fpX11_120 : FP RX11 120 11 13 (.int) false := ⟨RX11, TX11, 37, tyX11, rfl, inX11, by decide, tb4 102 rfl rfl, tyX11_ok, nmX11, rfl, by decide +kernel, fun q => by cases q⟩
theorem flX11_48 : FL RX11 48 11 14 := ⟨RX11, TX11, 37, rfl, inX11, by decide, tb4 103 rfl rfl⟩
theorem fpX11_48 : FP RX11 48 11 14 (.array .int) true := ⟨RX11, TX11, 37, tyX11, rfl, inX11, by decide, tb4 103 rfl rfl, tyX11_ok, nmX11, rfl, by decide +kernel, fun _ => rfl⟩
theorem flX11_51 : FL RX11 51 11 15 := ⟨RX11, TX11, 37, rfl, inX11, by decide, tb4 104 rfl rfl⟩
theorem fpX11_51 : FP RX11 51 11 15 (.array .int) true := ⟨RX11, TX11, 37, tyX11, rfl, inX11, by decide, tb4 104 rfl rfl, tyX11_ok, nmX11, rfl, by decide +kernel, fun _ => rfl⟩
theorem flX11_54 : FL RX11 54 11 16 := ⟨RX11, TX11, 37, rfl, inX11, by decide, tb4 105 rfl rfl⟩
theorem fpX11_54 : FP RX11 54 11 16 (.array .int) true := ⟨RX11, TX11, 37, tyX11, rfl, inX11, by decide, tb4 105 rfl rfl, tyX11_ok, nmX11, rfl, by decide +kernel, fun _ => rfl⟩
theorem flX11_57 : FL RX11 57 11 17 := ⟨RX11, TX11, 37, rfl, inX11, by decide, tb4 106 rfl rfl⟩
theorem fpX11_57 : FP RX11 57 11 17 (.array .int) true := ⟨RX11, TX11, 37, tyX11, rfl, inX11, by decide, tb4 106 rfl rfl, tyX11_ok, nmX11, rfl, by decide +kernel, fun _ => rfl⟩
theorem flX11_60 : FL RX11 60 11 18 := ⟨RX11, TX11, 37, rfl, inX11, by decide, tb4 107 rfl rfl⟩
theorem fpX11_60 : FP RX11 60 11 18 (.array .int) true := ⟨RX11, TX11, 37, tyX11, rfl, inX11, by decide, tb4 107 rfl rfl, tyX11_ok, nmX11, rfl, by decide +kernel, fun _ => rfl⟩
theorem flX11_158 : FL RX11 158 11 19 := ⟨RX11, TX11, 37, rfl, inX11, by decide, tb4 108 rfl rfl⟩
theorem fpX11_158 : FP RX11 158 11 19 (.int) false := ⟨RX11, TX11, 37, tyX11, rfl, inX11, by decide, tb4 108 rfl rfl, tyX11_ok, nmX11, rfl, by decide +kernel, fun q => by cases q⟩
theorem flX11_63 : FL RX11 63 11 20 := ⟨RX11, TX11, 37, rfl, inX11, by decide, tb4 109 rfl rfl⟩
theorem fpX11_63 : FP RX11 63 11 20 (.array .long) true := ⟨RX11, TX11, 37, tyX11, rfl, inX11, by decide, tb4 109 rfl rfl, tyX11_ok, nmX11, rfl, by decide +kernel, fun _ => rfl⟩
theorem flX11_167 : FL RX11 167 11 21 := ⟨RX11, TX11, 37, rfl, inX11, by decide, tb4 110 rfl rfl⟩
theorem fpX11_167 : FP RX11 167 11 21 (.int) false := ⟨RX11, TX11, 37, tyX11, rfl, inX11, by decide, tb4 110 rfl rfl, tyX11_ok, nmX11, rfl, by decide +kernel, fun q => by cases q⟩
theorem flX11_176 : FL RX11 176 11 22 := ⟨RX11, TX11, 37, rfl, inX11, by decide, tb4 111 rfl rfl⟩
theorem fpX11_176 : FP RX11 176 11 22 (.long) false := ⟨RX11, TX11, 37, tyX11, rfl, inX11, by decide, tb4 111 rfl rfl, tyX11_ok, nmX11, rfl, by decide +kernel, fun q => by cases q⟩
theorem flX11_67 : FL RX11 67 11 23 := ⟨RX11, TX11, 37, rfl, inX11, by decide, tb4 112 rfl rfl⟩
theorem fpX11_67 : FP RX11 67 11 23 (.array .int) true := ⟨RX11, TX11, 37, tyX11, rfl, inX11, by decide, tb4 112 rfl rfl, tyX11_ok, nmX11, rfl, by decide +kernel, fun _ => rfl⟩
theorem flX11_70 : FL RX11 70 11 24 := ⟨RX11, TX11, 37, rfl, inX11, by decide, tb4 113 rfl rfl⟩
theorem fpX11_70 : FP RX11 70 11 24 (.array .boolean) true := ⟨RX11, TX11, 37, tyX11, rfl, inX11, by decide, tb4 113 rfl rfl, tyX11_ok, nmX11, rfl, by decide +kernel, fun _ => rfl⟩
theorem flX11_73 : FL RX11 73 11 25 := ⟨RX11, TX11, 37, rfl, inX11, by decide, tb4 114 rfl rfl⟩
theorem fpX11_73 : FP RX11 73 11 25 (.array .boolean) true := ⟨RX11, TX11, 37, tyX11, rfl, inX11, by decide, tb4 114 rfl rfl, tyX11_ok, nmX11, rfl, by decide +kernel, fun _ => rfl⟩
theorem flX11_76 : FL RX11 76 11 26 := ⟨RX11, TX11, 37, rfl, inX11, by decide, tb4 115 rfl rfl⟩
theorem fpX11_76 : FP RX11 76 11 26 (.array .long) true := ⟨RX11, TX11, 37, tyX11, rfl, inX11, by decide, tb4 115 rfl rfl, tyX11_ok, nmX11, rfl, by decide +kernel, fun _ => rfl⟩
theorem flX11_230 : FL RX11 230 11 27 := ⟨RX11, TX11, 37, rfl, inX11, by decide, tb4 116 rfl rfl⟩
theorem fpX11_230 : FP RX11 230 11 27 (.int) false := ⟨RX11, TX11, 37, tyX11, rfl, inX11, by decide, tb4 116 rfl rfl, tyX11_ok, nmX11, rfl, by decide +kernel, fun q => by cases q⟩
theorem flX11_79 : FL RX11 79 11 28 := ⟨RX11, TX11, 37, rfl, inX11, by decide, tb4 117 rfl rfl⟩
theorem fpX11_79 : FP RX11 79 11 28 (.array .int) true := ⟨RX11, TX11, 37, tyX11, rfl, inX11, by decide, tb4 117 rfl rfl, tyX11_ok, nmX11, rfl, by decide +kernel, fun _ => rfl⟩
theorem flX11_82 : FL RX11 82 11 29 := ⟨RX11, TX11, 37, rfl, inX11, by decide, tb4 118 rfl rfl⟩
theorem fpX11_82 : FP RX11 82 11 29 (.array .int) true := ⟨RX11, TX11, 37, tyX11, rfl, inX11, by decide, tb4 118 rfl rfl, tyX11_ok, nmX11, rfl, by decide +kernel, fun _ => rfl⟩
theorem flX11_85 : FL RX11 85 11 30 := ⟨RX11, TX11, 37, rfl, inX11, by decide, tb4 119 rfl rfl⟩
theorem fpX11_85 : FP RX11 85 11 30 (.array .boolean) true := ⟨RX11, TX11, 37, tyX11, rfl, inX11, by decide, tb4 119 rfl rfl, tyX11_ok, nmX11, rfl, by decide +kernel, fun _ => rfl⟩
theorem flX11_267 : FL RX11 267 11 31 := ⟨RX11, TX11, 37, rfl, inX11, by decide, tb4 120 rfl rfl⟩
theorem fpX11_267 : FP RX11 267 11 31 (.int) false := ⟨RX11, TX11, 37, tyX11, rfl, inX11, by decide, tb4 120 rfl rfl, tyX11_ok, nmX11, rfl, by decide +kernel, fun q => by cases q⟩
theorem flX11_88 : FL RX11 88 11 32 := ⟨RX11, TX11, 37, rfl, inX11, by decide, tb4 121 rfl rfl⟩
theorem fpX11_88 : FP RX11 88 11 32 (.array .int) true := ⟨RX11, TX11, 37, tyX11, rfl, inX11, by decide, tb4 121 rfl rfl, tyX11_ok, nmX11, rfl, by decide +kernel, fun _ => rfl⟩
theorem flX11_270 : FL RX11 270 11 33 := ⟨RX11, TX11, 37, rfl, inX11, by decide, tb4 122 rfl rfl⟩
theorem fpX11_270 : FP RX11 270 11 33 (.int) false := ⟨RX11, TX11, 37, tyX11, rfl, inX11, by decide, tb4 122 rfl rfl, tyX11_ok, nmX11, rfl, by decide +kernel, fun q => by cases q⟩
theorem flX11_91 : FL RX11 91 11 34 := ⟨RX11, TX11, 37, rfl, inX11, by decide, tb4 123 rfl rfl⟩
theorem fpX11_91 : FP RX11 91 11 34 (.array .int) true := ⟨RX11, TX11, 37, tyX11, rfl, inX11, by decide, tb4 123 rfl rfl, tyX11_ok, nmX11, rfl, by decide +kernel, fun _ => rfl⟩
theorem flX11_94 : FL RX11 94 11 35 := ⟨RX11, TX11, 37, rfl, inX11, by decide, tb4 124 rfl rfl⟩
theorem fpX11_94 : FP RX11 94 11 35 (.array .int) true := ⟨RX11, TX11, 37, tyX11, rfl, inX11, by decide, tb4 124 rfl rfl, tyX11_ok, nmX11, rfl, by decide +kernel, fun _ => rfl⟩
theorem flX11_97 : FL RX11 97 11 36 := ⟨RX11, TX11, 37, rfl, inX11, by decide, tb4 125 rfl rfl⟩
theorem fpX11_97 : FP RX11 97 11 36 (.array .int) true := ⟨RX11, TX11, 37, tyX11, rfl, inX11, by decide, tb4 125 rfl rfl, tyX11_ok, nmX11, rfl, by decide +kernel, fun _ => rfl⟩
theorem lcX10_init : Cond.initialized mX10_init.2.1.cls ∈ tbg ∧ Cond.code mX10_init.2.1 mX10_init.2.2.1 mX10_init.2.2.2.1 mX10_init.2.2.2.2 ∈ tbg ∧ (mX10_init.2.1.cls ≠ "java/lang/invoke/MethodHandle" ∧ mX10_init.2.1.cls ≠ "java/lang/invoke/VarHandle" ∧ (parseMethodDescriptor mX10_init.2.1.desc).map (fun d => d.parameters.length) = some 0) ∧ mX10_init.2.2.2.1 ≤ 21 := ⟨tb1 1 rfl rfl, tb1 22 rfl rfl, ⟨by decide +kernel, by decide +kernel, by decide +kernel⟩, by decide +kernel⟩
theorem lkL_9 : mlK RL 9 mX10_init 0 := ⟨tb1 20 rfl rfl, lcX10_init⟩
theorem liL_9 : mlI RL 9 mX10_init 0 := ⟨lkL_9, tb1 21 rfl rfl, rfl, rfl⟩
theorem lcX9_init : Cond.initialized mX9_init.2.1.cls ∈ tbg ∧ Cond.code mX9_init.2.1 mX9_init.2.2.1 mX9_init.2.2.2.1 mX9_init.2.2.2.2 ∈ tbg ∧ (mX9_init.2.1.cls ≠ "java/lang/invoke/MethodHandle" ∧ mX9_init.2.1.cls ≠ "java/lang/invoke/VarHandle" ∧ (parseMethodDescriptor mX9_init.2.1.desc).map (fun d => d.parameters.length) = some 0) ∧ mX9_init.2.2.2.1 ≤ 21 := ⟨tb1 2 rfl rfl, tb1 32 rfl rfl, ⟨by decide +kernel, by decide +kernel, by decide +kernel⟩, by decide +kernel⟩
theorem lkX10_17 : mlK RX10 17 mX9_init 0 := ⟨tb1 30 rfl rfl, lcX9_init⟩
theorem liX10_17 : mlI RX10 17 mX9_init 0 := ⟨lkX10_17, tb1 31 rfl rfl, rfl, rfl⟩
theorem lcX9_clear : Cond.initialized mX9_clear.2.1.cls ∈ tbg ∧ Cond.code mX9_clear.2.1 mX9_clear.2.2.1 mX9_clear.2.2.2.1 mX9_clear.2.2.2.2 ∈ tbg ∧ (mX9_clear.2.1.cls ≠ "java/lang/invoke/MethodHandle" ∧ mX9_clear.2.1.cls ≠ "java/lang/invoke/VarHandle" ∧ (parseMethodDescriptor mX9_clear.2.1.desc).map (fun d => d.parameters.length) = some 1) ∧ mX9_clear.2.2.2.1 ≤ 21 := ⟨tb1 2 rfl rfl, tb1 39 rfl rfl, ⟨by decide +kernel, by decide +kernel, by decide +kernel⟩, by decide +kernel⟩
theorem lkX9_35 : mlK RX9 35 mX9_clear 1 := ⟨tb1 36 rfl rfl, lcX9_clear⟩
theorem lvX9_35 : mlV RX9 35 mX9_clear 9 1 := ⟨lkX9_35, tb1 37 rfl rfl, tb1 38 rfl rfl, rfl⟩
theorem lcJ7_fill_53178 : Cond.initialized mJ7_fill_53178.2.1.cls ∈ tbg ∧ Cond.code mJ7_fill_53178.2.1 mJ7_fill_53178.2.2.1 mJ7_fill_53178.2.2.2.1 mJ7_fill_53178.2.2.2.2 ∈ tbg ∧ (mJ7_fill_53178.2.1.cls ≠ "java/lang/invoke/MethodHandle" ∧ mJ7_fill_53178.2.1.cls ≠ "java/lang/invoke/VarHandle" ∧ (parseMethodDescriptor mJ7_fill_53178.2.1.desc).map (fun d => d.parameters.length) = some 2) ∧ mJ7_fill_53178.2.2.2.1 ≤ 21 := ⟨tb1 3 rfl rfl, tb1 42 rfl rfl, ⟨by decide +kernel, by decide +kernel, by decide +kernel⟩, by decide +kernel⟩
theorem lkX9_59 : mlK RX9 59 mJ7_fill_53178 2 := ⟨tb1 40 rfl rfl, lcJ7_fill_53178⟩
theorem lsX9_59 : mlS RX9 59 mJ7_fill_53178 2 := ⟨lkX9_59, tb1 41 rfl rfl⟩
theorem lcX1_init : Cond.initialized mX1_init.2.1.cls ∈ tbg ∧ Cond.code mX1_init.2.1 mX1_init.2.2.1 mX1_init.2.2.2.1 mX1_init.2.2.2.2 ∈ tbg ∧ (mX1_init.2.1.cls ≠ "java/lang/invoke/MethodHandle" ∧ mX1_init.2.1.cls ≠ "java/lang/invoke/VarHandle" ∧ (parseMethodDescriptor mX1_init.2.1.desc).map (fun d => d.parameters.length) = some 0) ∧ mX1_init.2.2.2.1 ≤ 21 := ⟨tb1 4 rfl rfl, tb1 90 rfl rfl, ⟨by decide +kernel, by decide +kernel, by decide +kernel⟩, by decide +kernel⟩
theorem lkX10_26 : mlK RX10 26 mX1_init 0 := ⟨tb1 88 rfl rfl, lcX1_init⟩
theorem liX10_26 : mlI RX10 26 mX1_init 0 := ⟨lkX10_26, tb1 89 rfl rfl, rfl, rfl⟩
theorem lcX2_init : Cond.initialized mX2_init.2.1.cls ∈ tbg ∧ Cond.code mX2_init.2.1 mX2_init.2.2.1 mX2_init.2.2.2.1 mX2_init.2.2.2.2 ∈ tbg ∧ (mX2_init.2.1.cls ≠ "java/lang/invoke/MethodHandle" ∧ mX2_init.2.1.cls ≠ "java/lang/invoke/VarHandle" ∧ (parseMethodDescriptor mX2_init.2.1.desc).map (fun d => d.parameters.length) = some 0) ∧ mX2_init.2.2.2.1 ≤ 21 := ⟨tb1 5 rfl rfl, tb1 96 rfl rfl, ⟨by decide +kernel, by decide +kernel, by decide +kernel⟩, by decide +kernel⟩
theorem lkX1_17 : mlK RX1 17 mX2_init 0 := ⟨tb1 94 rfl rfl, lcX2_init⟩
theorem liX1_17 : mlI RX1 17 mX2_init 0 := ⟨lkX1_17, tb1 95 rfl rfl, rfl, rfl⟩
theorem lcX5_init : Cond.initialized mX5_init.2.1.cls ∈ tbg ∧ Cond.code mX5_init.2.1 mX5_init.2.2.1 mX5_init.2.2.2.1 mX5_init.2.2.2.2 ∈ tbg ∧ (mX5_init.2.1.cls ≠ "java/lang/invoke/MethodHandle" ∧ mX5_init.2.1.cls ≠ "java/lang/invoke/VarHandle" ∧ (parseMethodDescriptor mX5_init.2.1.desc).map (fun d => d.parameters.length) = some 0) ∧ mX5_init.2.2.2.1 ≤ 21 := ⟨tb1 6 rfl rfl, tb1 117 rfl rfl, ⟨by decide +kernel, by decide +kernel, by decide +kernel⟩, by decide +kernel⟩
theorem lkX1_24 : mlK RX1 24 mX5_init 0 := ⟨tb1 115 rfl rfl, lcX5_init⟩
theorem liX1_24 : mlI RX1 24 mX5_init 0 := ⟨lkX1_24, tb1 116 rfl rfl, rfl, rfl⟩
theorem lcX4_init : Cond.initialized mX4_init.2.1.cls ∈ tbg ∧ Cond.code mX4_init.2.1 mX4_init.2.2.1 mX4_init.2.2.2.1 mX4_init.2.2.2.2 ∈ tbg ∧ (mX4_init.2.1.cls ≠ "java/lang/invoke/MethodHandle" ∧ mX4_init.2.1.cls ≠ "java/lang/invoke/VarHandle" ∧ (parseMethodDescriptor mX4_init.2.1.desc).map (fun d => d.parameters.length) = some 0) ∧ mX4_init.2.2.2.1 ≤ 21 := ⟨tb1 7 rfl rfl, tb1 132 rfl rfl, ⟨by decide +kernel, by decide +kernel, by decide +kernel⟩, by decide +kernel⟩
theorem lkX1_35 : mlK RX1 35 mX4_init 0 := ⟨tb1 130 rfl rfl, lcX4_init⟩
theorem liX1_35 : mlI RX1 35 mX4_init 0 := ⟨lkX1_35, tb1 131 rfl rfl, rfl, rfl⟩
theorem lcX6_init : Cond.initialized mX6_init.2.1.cls ∈ tbg ∧ Cond.code mX6_init.2.1 mX6_init.2.2.1 mX6_init.2.2.2.1 mX6_init.2.2.2.2 ∈ tbg ∧ (mX6_init.2.1.cls ≠ "java/lang/invoke/MethodHandle" ∧ mX6_init.2.1.cls ≠ "java/lang/invoke/VarHandle" ∧ (parseMethodDescriptor mX6_init.2.1.desc).map (fun d => d.parameters.length) = some 0) ∧ mX6_init.2.2.2.1 ≤ 21 := ⟨tb1 8 rfl rfl, tb1 154 rfl rfl, ⟨by decide +kernel, by decide +kernel, by decide +kernel⟩, by decide +kernel⟩
theorem lkX1_38 : mlK RX1 38 mX6_init 0 := ⟨tb1 152 rfl rfl, lcX6_init⟩
theorem liX1_38 : mlI RX1 38 mX6_init 0 := ⟨lkX1_38, tb1 153 rfl rfl, rfl, rfl⟩
theorem lcX8_init : Cond.initialized mX8_init.2.1.cls ∈ tbg ∧ Cond.code mX8_init.2.1 mX8_init.2.2.1 mX8_init.2.2.2.1 mX8_init.2.2.2.2 ∈ tbg ∧ (mX8_init.2.1.cls ≠ "java/lang/invoke/MethodHandle" ∧ mX8_init.2.1.cls ≠ "java/lang/invoke/VarHandle" ∧ (parseMethodDescriptor mX8_init.2.1.desc).map (fun d => d.parameters.length) = some 2) ∧ mX8_init.2.2.2.1 ≤ 21 := ⟨tb1 9 rfl rfl, tb1 181 rfl rfl, ⟨by decide +kernel, by decide +kernel, by decide +kernel⟩, by decide +kernel⟩
theorem lkX1_45 : mlK RX1 45 mX8_init 2 := ⟨tb1 179 rfl rfl, lcX8_init⟩
theorem liX1_45 : mlI RX1 45 mX8_init 2 := ⟨lkX1_45, tb1 180 rfl rfl, rfl, rfl⟩
theorem lcX7_init : Cond.initialized mX7_init.2.1.cls ∈ tbg ∧ Cond.code mX7_init.2.1 mX7_init.2.2.1 mX7_init.2.2.2.1 mX7_init.2.2.2.2 ∈ tbg ∧ (mX7_init.2.1.cls ≠ "java/lang/invoke/MethodHandle" ∧ mX7_init.2.1.cls ≠ "java/lang/invoke/VarHandle" ∧ (parseMethodDescriptor mX7_init.2.1.desc).map (fun d => d.parameters.length) = some 0) ∧ mX7_init.2.2.2.1 ≤ 21 := ⟨tb1 10 rfl rfl, tb1 187 rfl rfl, ⟨by decide +kernel, by decide +kernel, by decide +kernel⟩, by decide +kernel⟩
theorem lkX8_11 : mlK RX8 11 mX7_init 0 := ⟨tb1 185 rfl rfl, lcX7_init⟩
theorem liX8_11 : mlI RX8 11 mX7_init 0 := ⟨lkX8_11, tb1 186 rfl rfl, rfl, rfl⟩
theorem lcX0_init : Cond.initialized mX0_init.2.1.cls ∈ tbg ∧ Cond.code mX0_init.2.1 mX0_init.2.2.1 mX0_init.2.2.2.1 mX0_init.2.2.2.2 ∈ tbg ∧ (mX0_init.2.1.cls ≠ "java/lang/invoke/MethodHandle" ∧ mX0_init.2.1.cls ≠ "java/lang/invoke/VarHandle" ∧ (parseMethodDescriptor mX0_init.2.1.desc).map (fun d => d.parameters.length) = some 0) ∧ mX0_init.2.2.2.1 ≤ 21 := ⟨tb1 11 rfl rfl, tb1 202 rfl rfl, ⟨by decide +kernel, by decide +kernel, by decide +kernel⟩, by decide +kernel⟩
theorem lkX8_23 : mlK RX8 23 mX0_init 0 := ⟨tb1 200 rfl rfl, lcX0_init⟩
theorem liX8_23 : mlI RX8 23 mX0_init 0 := ⟨lkX8_23, tb1 201 rfl rfl, rfl, rfl⟩
theorem lcX10_mill : Cond.initialized mX10_mill.2.1.cls ∈ tbg ∧ Cond.code mX10_mill.2.1 mX10_mill.2.2.1 mX10_mill.2.2.2.1 mX10_mill.2.2.2.2 ∈ tbg ∧ (mX10_mill.2.1.cls ≠ "java/lang/invoke/MethodHandle" ∧ mX10_mill.2.1.cls ≠ "java/lang/invoke/VarHandle" ∧ (parseMethodDescriptor mX10_mill.2.1.desc).map (fun d => d.parameters.length) = some 3) ∧ mX10_mill.2.2.2.1 ≤ 21 := ⟨tb1 1 rfl rfl, tb2 62 rfl rfl, ⟨by decide +kernel, by decide +kernel, by decide +kernel⟩, by decide +kernel⟩
theorem lkL_13 : mlK RL 13 mX10_mill 3 := ⟨tb2 59 rfl rfl, lcX10_mill⟩
theorem lvL_13 : mlV RL 13 mX10_mill 10 3 := ⟨lkL_13, tb2 60 rfl rfl, tb2 61 rfl rfl, rfl⟩
theorem lcX1_canBe : Cond.initialized mX1_canBe.2.1.cls ∈ tbg ∧ Cond.code mX1_canBe.2.1 mX1_canBe.2.2.1 mX1_canBe.2.2.2.1 mX1_canBe.2.2.2.2 ∈ tbg ∧ (mX1_canBe.2.1.cls ≠ "java/lang/invoke/MethodHandle" ∧ mX1_canBe.2.1.cls ≠ "java/lang/invoke/VarHandle" ∧ (parseMethodDescriptor mX1_canBe.2.1.desc).map (fun d => d.parameters.length) = some 3) ∧ mX1_canBe.2.2.2.1 ≤ 21 := ⟨tb1 4 rfl rfl, tb2 65 rfl rfl, ⟨by decide +kernel, by decide +kernel, by decide +kernel⟩, by decide +kernel⟩
theorem lkX10_27 : mlK RX10 27 mX1_canBe 3 := ⟨tb2 63 rfl rfl, lcX1_canBe⟩
theorem lsX10_27 : mlS RX10 27 mX1_canBe 3 := ⟨lkX10_27, tb2 64 rfl rfl⟩
theorem lcX1_open : Cond.initialized mX1_open.2.1.cls ∈ tbg ∧ Cond.code mX1_open.2.1 mX1_open.2.2.1 mX1_open.2.2.2.1 mX1_open.2.2.2.2 ∈ tbg ∧ (mX1_open.2.1.cls ≠ "java/lang/invoke/MethodHandle" ∧ mX1_open.2.1.cls ≠ "java/lang/invoke/VarHandle" ∧ (parseMethodDescriptor mX1_open.2.1.desc).map (fun d => d.parameters.length) = some 3) ∧ mX1_open.2.2.2.1 ≤ 21 := ⟨tb1 4 rfl rfl, tb2 69 rfl rfl, ⟨by decide +kernel, by decide +kernel, by decide +kernel⟩, by decide +kernel⟩
theorem lkX10_35 : mlK RX10 35 mX1_open 3 := ⟨tb2 66 rfl rfl, lcX1_open⟩
theorem lvX10_35 : mlV RX10 35 mX1_open 1 3 := ⟨lkX10_35, tb2 67 rfl rfl, tb2 68 rfl rfl, rfl⟩
theorem lkX1_66 : mlK RX1 66 mJ7_fill_53178 2 := ⟨tb2 70 rfl rfl, lcJ7_fill_53178⟩
theorem lsX1_66 : mlS RX1 66 mJ7_fill_53178 2 := ⟨lkX1_66, tb1 41 rfl rfl⟩
theorem lcX1_findParts : Cond.initialized mX1_findParts.2.1.cls ∈ tbg ∧ Cond.code mX1_findParts.2.1 mX1_findParts.2.2.1 mX1_findParts.2.2.2.1 mX1_findParts.2.2.2.2 ∈ tbg ∧ (mX1_findParts.2.1.cls ≠ "java/lang/invoke/MethodHandle" ∧ mX1_findParts.2.1.cls ≠ "java/lang/invoke/VarHandle" ∧ (parseMethodDescriptor mX1_findParts.2.1.desc).map (fun d => d.parameters.length) = some 0) ∧ mX1_findParts.2.2.2.1 ≤ 21 := ⟨tb1 4 rfl rfl, tb2 74 rfl rfl, ⟨by decide +kernel, by decide +kernel, by decide +kernel⟩, by decide +kernel⟩
theorem lkX1_72 : mlK RX1 72 mX1_findParts 0 := ⟨tb2 71 rfl rfl, lcX1_findParts⟩
theorem lvX1_72 : mlV RX1 72 mX1_findParts 1 0 := ⟨lkX1_72, tb2 73 rfl rfl, tp1 0 rfl, rfl⟩
theorem lcX4_leave : Cond.initialized mX4_leave.2.1.cls ∈ tbg ∧ Cond.code mX4_leave.2.1 mX4_leave.2.2.1 mX4_leave.2.2.2.1 mX4_leave.2.2.2.2 ∈ tbg ∧ (mX4_leave.2.1.cls ≠ "java/lang/invoke/MethodHandle" ∧ mX4_leave.2.1.cls ≠ "java/lang/invoke/VarHandle" ∧ (parseMethodDescriptor mX4_leave.2.1.desc).map (fun d => d.parameters.length) = some 0) ∧ mX4_leave.2.2.2.1 ≤ 21 := ⟨tb1 7 rfl rfl, tb2 78 rfl rfl, ⟨by decide +kernel, by decide +kernel, by decide +kernel⟩, by decide +kernel⟩
theorem lkX1_128 : mlK RX1 128 mX4_leave 0 := ⟨tb2 75 rfl rfl, lcX4_leave⟩
theorem lvX1_128 : mlV RX1 128 mX4_leave 4 0 := ⟨lkX1_128, tb2 76 rfl rfl, tb2 77 rfl rfl, rfl⟩
theorem lcX4_take : Cond.initialized mX4_take.2.1.cls ∈ tbg ∧ Cond.code mX4_take.2.1 mX4_take.2.2.1 mX4_take.2.2.2.1 mX4_take.2.2.2.2 ∈ tbg ∧ (mX4_take.2.1.cls ≠ "java/lang/invoke/MethodHandle" ∧ mX4_take.2.1.cls ≠ "java/lang/invoke/VarHandle" ∧ (parseMethodDescriptor mX4_take.2.1.desc).map (fun d => d.parameters.length) = some 2) ∧ mX4_take.2.2.2.1 ≤ 21 := ⟨tb1 7 rfl rfl, tb2 82 rfl rfl, ⟨by decide +kernel, by decide +kernel, by decide +kernel⟩, by decide +kernel⟩
theorem lkX1_131 : mlK RX1 131 mX4_take 2 := ⟨tb2 79 rfl rfl, lcX4_take⟩
theorem lvX1_131 : mlV RX1 131 mX4_take 4 2 := ⟨lkX1_131, tb2 80 rfl rfl, tb2 81 rfl rfl, rfl⟩
theorem lkX4_19 : mlK RX4 19 mX4_leave 0 := ⟨tb2 83 rfl rfl, lcX4_leave⟩
theorem lvX4_19 : mlV RX4 19 mX4_leave 4 0 := ⟨lkX4_19, tb2 76 rfl rfl, tb2 77 rfl rfl, rfl⟩
theorem lcX6_clear : Cond.initialized mX6_clear.2.1.cls ∈ tbg ∧ Cond.code mX6_clear.2.1 mX6_clear.2.2.1 mX6_clear.2.2.2.1 mX6_clear.2.2.2.2 ∈ tbg ∧ (mX6_clear.2.1.cls ≠ "java/lang/invoke/MethodHandle" ∧ mX6_clear.2.1.cls ≠ "java/lang/invoke/VarHandle" ∧ (parseMethodDescriptor mX6_clear.2.1.desc).map (fun d => d.parameters.length) = some 2) ∧ mX6_clear.2.2.2.1 ≤ 21 := ⟨tb1 8 rfl rfl, tb2 87 rfl rfl, ⟨by decide +kernel, by decide +kernel, by decide +kernel⟩, by decide +kernel⟩
theorem lkX1_75 : mlK RX1 75 mX6_clear 2 := ⟨tb2 84 rfl rfl, lcX6_clear⟩
theorem lvX1_75 : mlV RX1 75 mX6_clear 6 2 := ⟨lkX1_75, tb2 85 rfl rfl, tb2 86 rfl rfl, rfl⟩
theorem lkX6_33 : mlK RX6 33 mJ7_fill_53178 2 := ⟨tb2 88 rfl rfl, lcJ7_fill_53178⟩
theorem lsX6_33 : mlS RX6 33 mJ7_fill_53178 2 := ⟨lkX6_33, tb1 41 rfl rfl⟩
theorem lcX6_put : Cond.initialized mX6_put.2.1.cls ∈ tbg ∧ Cond.code mX6_put.2.1 mX6_put.2.2.1 mX6_put.2.2.2.1 mX6_put.2.2.2.2 ∈ tbg ∧ (mX6_put.2.1.cls ≠ "java/lang/invoke/MethodHandle" ∧ mX6_put.2.1.cls ≠ "java/lang/invoke/VarHandle" ∧ (parseMethodDescriptor mX6_put.2.1.desc).map (fun d => d.parameters.length) = some 3) ∧ mX6_put.2.2.2.1 ≤ 21 := ⟨tb1 8 rfl rfl, tb2 92 rfl rfl, ⟨by decide +kernel, by decide +kernel, by decide +kernel⟩, by decide +kernel⟩
theorem lkX1_79 : mlK RX1 79 mX6_put 3 := ⟨tb2 89 rfl rfl, lcX6_put⟩
theorem lvX1_79 : mlV RX1 79 mX6_put 6 3 := ⟨lkX1_79, tb2 90 rfl rfl, tb2 91 rfl rfl, rfl⟩
theorem lcX5_clear : Cond.initialized mX5_clear.2.1.cls ∈ tbg ∧ Cond.code mX5_clear.2.1 mX5_clear.2.2.1 mX5_clear.2.2.2.1 mX5_clear.2.2.2.2 ∈ tbg ∧ (mX5_clear.2.1.cls ≠ "java/lang/invoke/MethodHandle" ∧ mX5_clear.2.1.cls ≠ "java/lang/invoke/VarHandle" ∧ (parseMethodDescriptor mX5_clear.2.1.desc).map (fun d => d.parameters.length) = some 1) ∧ mX5_clear.2.2.2.1 ≤ 21 := ⟨tb1 6 rfl rfl, tb2 96 rfl rfl, ⟨by decide +kernel, by decide +kernel, by decide +kernel⟩, by decide +kernel⟩
theorem lkX1_83 : mlK RX1 83 mX5_clear 1 := ⟨tb2 93 rfl rfl, lcX5_clear⟩
theorem lvX1_83 : mlV RX1 83 mX5_clear 5 1 := ⟨lkX1_83, tb2 94 rfl rfl, tb2 95 rfl rfl, rfl⟩
theorem lcJ9_min_7cf53 : Cond.initialized mJ9_min_7cf53.2.1.cls ∈ tbg ∧ Cond.code mJ9_min_7cf53.2.1 mJ9_min_7cf53.2.2.1 mJ9_min_7cf53.2.2.2.1 mJ9_min_7cf53.2.2.2.2 ∈ tbg ∧ (mJ9_min_7cf53.2.1.cls ≠ "java/lang/invoke/MethodHandle" ∧ mJ9_min_7cf53.2.1.cls ≠ "java/lang/invoke/VarHandle" ∧ (parseMethodDescriptor mJ9_min_7cf53.2.1.desc).map (fun d => d.parameters.length) = some 2) ∧ mJ9_min_7cf53.2.2.2.1 ≤ 21 := ⟨tb1 13 rfl rfl, tb2 99 rfl rfl, ⟨by decide +kernel, by decide +kernel, by decide +kernel⟩, by decide +kernel⟩
theorem lkX5_15 : mlK RX5 15 mJ9_min_7cf53 2 := ⟨tb2 97 rfl rfl, lcJ9_min_7cf53⟩
theorem lsX5_15 : mlS RX5 15 mJ9_min_7cf53 2 := ⟨lkX5_15, tb2 98 rfl rfl⟩
theorem lkX5_25 : mlK RX5 25 mJ7_fill_53178 2 := ⟨tb2 100 rfl rfl, lcJ7_fill_53178⟩
theorem lsX5_25 : mlS RX5 25 mJ7_fill_53178 2 := ⟨lkX5_25, tb1 41 rfl rfl⟩
theorem lcX8_forget : Cond.initialized mX8_forget.2.1.cls ∈ tbg ∧ Cond.code mX8_forget.2.1 mX8_forget.2.2.1 mX8_forget.2.2.2.1 mX8_forget.2.2.2.2 ∈ tbg ∧ (mX8_forget.2.1.cls ≠ "java/lang/invoke/MethodHandle" ∧ mX8_forget.2.1.cls ≠ "java/lang/invoke/VarHandle" ∧ (parseMethodDescriptor mX8_forget.2.1.desc).map (fun d => d.parameters.length) = some 0) ∧ mX8_forget.2.2.2.1 ≤ 21 := ⟨tb1 9 rfl rfl, tb2 104 rfl rfl, ⟨by decide +kernel, by decide +kernel, by decide +kernel⟩, by decide +kernel⟩
theorem lkX1_86 : mlK RX1 86 mX8_forget 0 := ⟨tb2 101 rfl rfl, lcX8_forget⟩
theorem lvX1_86 : mlV RX1 86 mX8_forget 8 0 := ⟨lkX1_86, tb2 102 rfl rfl, tb2 103 rfl rfl, rfl⟩
theorem lcX2_forget : Cond.initialized mX2_forget.2.1.cls ∈ tbg ∧ Cond.code mX2_forget.2.1 mX2_forget.2.2.1 mX2_forget.2.2.2.1 mX2_forget.2.2.2.2 ∈ tbg ∧ (mX2_forget.2.1.cls ≠ "java/lang/invoke/MethodHandle" ∧ mX2_forget.2.1.cls ≠ "java/lang/invoke/VarHandle" ∧ (parseMethodDescriptor mX2_forget.2.1.desc).map (fun d => d.parameters.length) = some 0) ∧ mX2_forget.2.2.2.1 ≤ 21 := ⟨tb1 5 rfl rfl, tb2 108 rfl rfl, ⟨by decide +kernel, by decide +kernel, by decide +kernel⟩, by decide +kernel⟩
theorem lkX1_89 : mlK RX1 89 mX2_forget 0 := ⟨tb2 105 rfl rfl, lcX2_forget⟩
theorem lvX1_89 : mlV RX1 89 mX2_forget 2 0 := ⟨lkX1_89, tb2 106 rfl rfl, tb2 107 rfl rfl, rfl⟩
theorem lcX10_drop : Cond.initialized mX10_drop.2.1.cls ∈ tbg ∧ Cond.code mX10_drop.2.1 mX10_drop.2.2.1 mX10_drop.2.2.2.1 mX10_drop.2.2.2.2 ∈ tbg ∧ (mX10_drop.2.1.cls ≠ "java/lang/invoke/MethodHandle" ∧ mX10_drop.2.1.cls ≠ "java/lang/invoke/VarHandle" ∧ (parseMethodDescriptor mX10_drop.2.1.desc).map (fun d => d.parameters.length) = some 1) ∧ mX10_drop.2.2.2.1 ≤ 21 := ⟨tb1 1 rfl rfl, tb2 112 rfl rfl, ⟨by decide +kernel, by decide +kernel, by decide +kernel⟩, by decide +kernel⟩
theorem lkL_18 : mlK RL 18 mX10_drop 1 := ⟨tb2 109 rfl rfl, lcX10_drop⟩
theorem lvL_18 : mlV RL 18 mX10_drop 10 1 := ⟨lkL_18, tb2 110 rfl rfl, tb2 111 rfl rfl, rfl⟩
theorem lcX10_millAt : Cond.initialized mX10_millAt.2.1.cls ∈ tbg ∧ Cond.code mX10_millAt.2.1 mX10_millAt.2.2.1 mX10_millAt.2.2.2.1 mX10_millAt.2.2.2.2 ∈ tbg ∧ (mX10_millAt.2.1.cls ≠ "java/lang/invoke/MethodHandle" ∧ mX10_millAt.2.1.cls ≠ "java/lang/invoke/VarHandle" ∧ (parseMethodDescriptor mX10_millAt.2.1.desc).map (fun d => d.parameters.length) = some 1) ∧ mX10_millAt.2.2.2.1 ≤ 21 := ⟨tb1 1 rfl rfl, tb2 116 rfl rfl, ⟨by decide +kernel, by decide +kernel, by decide +kernel⟩, by decide +kernel⟩
theorem lkX10_39 : mlK RX10 39 mX10_millAt 1 := ⟨tb2 113 rfl rfl, lcX10_millAt⟩
theorem lvX10_39 : mlV RX10 39 mX10_millAt 10 1 := ⟨lkX10_39, tb2 115 rfl rfl, tp1 1 rfl, rfl⟩
theorem lcX10_table : Cond.initialized mX10_table.2.1.cls ∈ tbg ∧ Cond.code mX10_table.2.1 mX10_table.2.2.1 mX10_table.2.2.2.1 mX10_table.2.2.2.2 ∈ tbg ∧ (mX10_table.2.1.cls ≠ "java/lang/invoke/MethodHandle" ∧ mX10_table.2.1.cls ≠ "java/lang/invoke/VarHandle" ∧ (parseMethodDescriptor mX10_table.2.1.desc).map (fun d => d.parameters.length) = some 4) ∧ mX10_table.2.2.2.1 ≤ 21 := ⟨tb1 1 rfl rfl, tb2 120 rfl rfl, ⟨by decide +kernel, by decide +kernel, by decide +kernel⟩, by decide +kernel⟩
theorem lkL_23 : mlK RL 23 mX10_table 4 := ⟨tb2 117 rfl rfl, lcX10_table⟩
theorem lvL_23 : mlV RL 23 mX10_table 10 4 := ⟨lkL_23, tb2 118 rfl rfl, tb2 119 rfl rfl, rfl⟩
theorem lcX1_canTell : Cond.initialized mX1_canTell.2.1.cls ∈ tbg ∧ Cond.code mX1_canTell.2.1 mX1_canTell.2.2.1 mX1_canTell.2.2.2.1 mX1_canTell.2.2.2.2 ∈ tbg ∧ (mX1_canTell.2.1.cls ≠ "java/lang/invoke/MethodHandle" ∧ mX1_canTell.2.1.cls ≠ "java/lang/invoke/VarHandle" ∧ (parseMethodDescriptor mX1_canTell.2.1.desc).map (fun d => d.parameters.length) = some 1) ∧ mX1_canTell.2.2.2.1 ≤ 21 := ⟨tb1 4 rfl rfl, tb2 124 rfl rfl, ⟨by decide +kernel, by decide +kernel, by decide +kernel⟩, by decide +kernel⟩
theorem lkX10_43 : mlK RX10 43 mX1_canTell 1 := ⟨tb2 121 rfl rfl, lcX1_canTell⟩
theorem lvX10_43 : mlV RX10 43 mX1_canTell 1 1 := ⟨lkX10_43, tb2 122 rfl rfl, tb2 123 rfl rfl, rfl⟩
theorem lcX1_hasRest : Cond.initialized mX1_hasRest.2.1.cls ∈ tbg ∧ Cond.code mX1_hasRest.2.1 mX1_hasRest.2.2.1 mX1_hasRest.2.2.2.1 mX1_hasRest.2.2.2.2 ∈ tbg ∧ (mX1_hasRest.2.1.cls ≠ "java/lang/invoke/MethodHandle" ∧ mX1_hasRest.2.1.cls ≠ "java/lang/invoke/VarHandle" ∧ (parseMethodDescriptor mX1_hasRest.2.1.desc).map (fun d => d.parameters.length) = some 1) ∧ mX1_hasRest.2.2.2.1 ≤ 21 := ⟨tb1 4 rfl rfl, tb2 128 rfl rfl, ⟨by decide +kernel, by decide +kernel, by decide +kernel⟩, by decide +kernel⟩
theorem lkX1_90 : mlK RX1 90 mX1_hasRest 1 := ⟨tb2 125 rfl rfl, lcX1_hasRest⟩
theorem lvX1_90 : mlV RX1 90 mX1_hasRest 1 1 := ⟨lkX1_90, tb2 126 rfl rfl, tb2 127 rfl rfl, rfl⟩
theorem lkX10_47 : mlK RX10 47 mX1_hasRest 1 := ⟨tb2 129 rfl rfl, lcX1_hasRest⟩
theorem lvX10_47 : mlV RX10 47 mX1_hasRest 1 1 := ⟨lkX10_47, tb2 126 rfl rfl, tb2 127 rfl rfl, rfl⟩
theorem lcX1_put : Cond.initialized mX1_put.2.1.cls ∈ tbg ∧ Cond.code mX1_put.2.1 mX1_put.2.2.1 mX1_put.2.2.2.1 mX1_put.2.2.2.2 ∈ tbg ∧ (mX1_put.2.1.cls ≠ "java/lang/invoke/MethodHandle" ∧ mX1_put.2.1.cls ≠ "java/lang/invoke/VarHandle" ∧ (parseMethodDescriptor mX1_put.2.1.desc).map (fun d => d.parameters.length) = some 3) ∧ mX1_put.2.2.2.1 ≤ 21 := ⟨tb1 4 rfl rfl, tb2 133 rfl rfl, ⟨by decide +kernel, by decide +kernel, by decide +kernel⟩, by decide +kernel⟩
theorem lkX10_50 : mlK RX10 50 mX1_put 3 := ⟨tb2 130 rfl rfl, lcX1_put⟩
theorem lvX10_50 : mlV RX10 50 mX1_put 1 3 := ⟨lkX10_50, tb2 131 rfl rfl, tb2 132 rfl rfl, rfl⟩
theorem lcX3_restOf : Cond.initialized mX3_restOf.2.1.cls ∈ tbg ∧ Cond.code mX3_restOf.2.1 mX3_restOf.2.2.1 mX3_restOf.2.2.2.1 mX3_restOf.2.2.2.2 ∈ tbg ∧ (mX3_restOf.2.1.cls ≠ "java/lang/invoke/MethodHandle" ∧ mX3_restOf.2.1.cls ≠ "java/lang/invoke/VarHandle" ∧ (parseMethodDescriptor mX3_restOf.2.1.desc).map (fun d => d.parameters.length) = some 2) ∧ mX3_restOf.2.2.2.1 ≤ 21 := ⟨tb1 14 rfl rfl, tb2 136 rfl rfl, ⟨by decide +kernel, by decide +kernel, by decide +kernel⟩, by decide +kernel⟩
theorem lkX1_94 : mlK RX1 94 mX3_restOf 2 := ⟨tb2 134 rfl rfl, lcX3_restOf⟩
theorem lsX1_94 : mlS RX1 94 mX3_restOf 2 := ⟨lkX1_94, tb2 135 rfl rfl⟩
theorem lcJ9_floorMod_f86c9 : Cond.initialized mJ9_floorMod_f86c9.2.1.cls ∈ tbg ∧ Cond.code mJ9_floorMod_f86c9.2.1 mJ9_floorMod_f86c9.2.2.1 mJ9_floorMod_f86c9.2.2.2.1 mJ9_floorMod_f86c9.2.2.2.2 ∈ tbg ∧ (mJ9_floorMod_f86c9.2.1.cls ≠ "java/lang/invoke/MethodHandle" ∧ mJ9_floorMod_f86c9.2.1.cls ≠ "java/lang/invoke/VarHandle" ∧ (parseMethodDescriptor mJ9_floorMod_f86c9.2.1.desc).map (fun d => d.parameters.length) = some 2) ∧ mJ9_floorMod_f86c9.2.2.2.1 ≤ 21 := ⟨tb1 13 rfl rfl, tb2 139 rfl rfl, ⟨by decide +kernel, by decide +kernel, by decide +kernel⟩, by decide +kernel⟩
theorem lkX3_9 : mlK RX3 9 mJ9_floorMod_f86c9 2 := ⟨tb2 137 rfl rfl, lcJ9_floorMod_f86c9⟩
theorem lsX3_9 : mlS RX3 9 mJ9_floorMod_f86c9 2 := ⟨lkX3_9, tb2 138 rfl rfl⟩
theorem lcX10_more : Cond.initialized mX10_more.2.1.cls ∈ tbg ∧ Cond.code mX10_more.2.1 mX10_more.2.2.1 mX10_more.2.2.2.1 mX10_more.2.2.2.2 ∈ tbg ∧ (mX10_more.2.1.cls ≠ "java/lang/invoke/MethodHandle" ∧ mX10_more.2.1.cls ≠ "java/lang/invoke/VarHandle" ∧ (parseMethodDescriptor mX10_more.2.1.desc).map (fun d => d.parameters.length) = some 3) ∧ mX10_more.2.2.2.1 ≤ 21 := ⟨tb1 1 rfl rfl, tb2 143 rfl rfl, ⟨by decide +kernel, by decide +kernel, by decide +kernel⟩, by decide +kernel⟩
theorem lkL_28 : mlK RL 28 mX10_more 3 := ⟨tb2 140 rfl rfl, lcX10_more⟩
theorem lvL_28 : mlV RL 28 mX10_more 10 3 := ⟨lkL_28, tb2 141 rfl rfl, tb2 142 rfl rfl, rfl⟩
theorem lcX10_plate : Cond.initialized mX10_plate.2.1.cls ∈ tbg ∧ Cond.code mX10_plate.2.1 mX10_plate.2.2.1 mX10_plate.2.2.2.1 mX10_plate.2.2.2.2 ∈ tbg ∧ (mX10_plate.2.1.cls ≠ "java/lang/invoke/MethodHandle" ∧ mX10_plate.2.1.cls ≠ "java/lang/invoke/VarHandle" ∧ (parseMethodDescriptor mX10_plate.2.1.desc).map (fun d => d.parameters.length) = some 3) ∧ mX10_plate.2.2.2.1 ≤ 21 := ⟨tb1 1 rfl rfl, tb2 147 rfl rfl, ⟨by decide +kernel, by decide +kernel, by decide +kernel⟩, by decide +kernel⟩
theorem lkL_33 : mlK RL 33 mX10_plate 3 := ⟨tb2 144 rfl rfl, lcX10_plate⟩
theorem lvL_33 : mlV RL 33 mX10_plate 10 3 := ⟨lkL_33, tb2 145 rfl rfl, tb2 146 rfl rfl, rfl⟩
theorem lkX10_62 : mlK RX10 62 mX3_restOf 2 := ⟨tb2 148 rfl rfl, lcX3_restOf⟩
theorem lsX10_62 : mlS RX10 62 mX3_restOf 2 := ⟨lkX10_62, tb2 135 rfl rfl⟩
theorem lcX10_look : Cond.initialized mX10_look.2.1.cls ∈ tbg ∧ Cond.code mX10_look.2.1 mX10_look.2.2.1 mX10_look.2.2.2.1 mX10_look.2.2.2.2 ∈ tbg ∧ (mX10_look.2.1.cls ≠ "java/lang/invoke/MethodHandle" ∧ mX10_look.2.1.cls ≠ "java/lang/invoke/VarHandle" ∧ (parseMethodDescriptor mX10_look.2.1.desc).map (fun d => d.parameters.length) = some 2) ∧ mX10_look.2.2.2.1 ≤ 21 := ⟨tb1 1 rfl rfl, tb2 152 rfl rfl, ⟨by decide +kernel, by decide +kernel, by decide +kernel⟩, by decide +kernel⟩
theorem lkL_37 : mlK RL 37 mX10_look 2 := ⟨tb2 149 rfl rfl, lcX10_look⟩
theorem lvL_37 : mlV RL 37 mX10_look 10 2 := ⟨lkL_37, tb2 150 rfl rfl, tb2 151 rfl rfl, rfl⟩
theorem lcX1_worth : Cond.initialized mX1_worth.2.1.cls ∈ tbg ∧ Cond.code mX1_worth.2.1 mX1_worth.2.2.1 mX1_worth.2.2.2.1 mX1_worth.2.2.2.2 ∈ tbg ∧ (mX1_worth.2.1.cls ≠ "java/lang/invoke/MethodHandle" ∧ mX1_worth.2.1.cls ≠ "java/lang/invoke/VarHandle" ∧ (parseMethodDescriptor mX1_worth.2.1.desc).map (fun d => d.parameters.length) = some 0) ∧ mX1_worth.2.2.2.1 ≤ 21 := ⟨tb1 4 rfl rfl, tb2 156 rfl rfl, ⟨by decide +kernel, by decide +kernel, by decide +kernel⟩, by decide +kernel⟩
theorem lkX10_74 : mlK RX10 74 mX1_worth 0 := ⟨tb2 153 rfl rfl, lcX1_worth⟩
theorem lvX10_74 : mlV RX10 74 mX1_worth 1 0 := ⟨lkX10_74, tb2 154 rfl rfl, tb2 155 rfl rfl, rfl⟩
theorem lcX1_pairs : Cond.initialized mX1_pairs.2.1.cls ∈ tbg ∧ Cond.code mX1_pairs.2.1 mX1_pairs.2.2.1 mX1_pairs.2.2.2.1 mX1_pairs.2.2.2.2 ∈ tbg ∧ (mX1_pairs.2.1.cls ≠ "java/lang/invoke/MethodHandle" ∧ mX1_pairs.2.1.cls ≠ "java/lang/invoke/VarHandle" ∧ (parseMethodDescriptor mX1_pairs.2.1.desc).map (fun d => d.parameters.length) = some 2) ∧ mX1_pairs.2.2.2.1 ≤ 21 := ⟨tb1 4 rfl rfl, tb2 160 rfl rfl, ⟨by decide +kernel, by decide +kernel, by decide +kernel⟩, by decide +kernel⟩
theorem lkX1_100 : mlK RX1 100 mX1_pairs 2 := ⟨tb2 157 rfl rfl, lcX1_pairs⟩
theorem lvX1_100 : mlV RX1 100 mX1_pairs 1 2 := ⟨lkX1_100, tb2 159 rfl rfl, tp1 2 rfl, rfl⟩
theorem lcX1_square : Cond.initialized mX1_square.2.1.cls ∈ tbg ∧ Cond.code mX1_square.2.1 mX1_square.2.2.1 mX1_square.2.2.2.1 mX1_square.2.2.2.2 ∈ tbg ∧ (mX1_square.2.1.cls ≠ "java/lang/invoke/MethodHandle" ∧ mX1_square.2.1.cls ≠ "java/lang/invoke/VarHandle" ∧ (parseMethodDescriptor mX1_square.2.1.desc).map (fun d => d.parameters.length) = some 2) ∧ mX1_square.2.2.2.1 ≤ 21 := ⟨tb1 4 rfl rfl, tb2 164 rfl rfl, ⟨by decide +kernel, by decide +kernel, by decide +kernel⟩, by decide +kernel⟩
theorem lkX1_134 : mlK RX1 134 mX1_square 2 := ⟨tb2 161 rfl rfl, lcX1_square⟩
theorem lvX1_134 : mlV RX1 134 mX1_square 1 2 := ⟨lkX1_134, tb2 163 rfl rfl, tp1 3 rfl, rfl⟩
theorem lcX6_told : Cond.initialized mX6_told.2.1.cls ∈ tbg ∧ Cond.code mX6_told.2.1 mX6_told.2.2.1 mX6_told.2.2.2.1 mX6_told.2.2.2.2 ∈ tbg ∧ (mX6_told.2.1.cls ≠ "java/lang/invoke/MethodHandle" ∧ mX6_told.2.1.cls ≠ "java/lang/invoke/VarHandle" ∧ (parseMethodDescriptor mX6_told.2.1.desc).map (fun d => d.parameters.length) = some 2) ∧ mX6_told.2.2.2.1 ≤ 21 := ⟨tb1 8 rfl rfl, tb2 168 rfl rfl, ⟨by decide +kernel, by decide +kernel, by decide +kernel⟩, by decide +kernel⟩
theorem lkX1_121 : mlK RX1 121 mX6_told 2 := ⟨tb2 165 rfl rfl, lcX6_told⟩
theorem lvX1_121 : mlV RX1 121 mX6_told 6 2 := ⟨lkX1_121, tb2 166 rfl rfl, tb2 167 rfl rfl, rfl⟩
theorem lcX1_lowPairs : Cond.initialized mX1_lowPairs.2.1.cls ∈ tbg ∧ Cond.code mX1_lowPairs.2.1 mX1_lowPairs.2.2.1 mX1_lowPairs.2.2.2.1 mX1_lowPairs.2.2.2.2 ∈ tbg ∧ (mX1_lowPairs.2.1.cls ≠ "java/lang/invoke/MethodHandle" ∧ mX1_lowPairs.2.1.cls ≠ "java/lang/invoke/VarHandle" ∧ (parseMethodDescriptor mX1_lowPairs.2.1.desc).map (fun d => d.parameters.length) = some 2) ∧ mX1_lowPairs.2.2.2.1 ≤ 21 := ⟨tb1 4 rfl rfl, tb2 172 rfl rfl, ⟨by decide +kernel, by decide +kernel, by decide +kernel⟩, by decide +kernel⟩
theorem lkX1_104 : mlK RX1 104 mX1_lowPairs 2 := ⟨tb2 169 rfl rfl, lcX1_lowPairs⟩
theorem lvX1_104 : mlV RX1 104 mX1_lowPairs 1 2 := ⟨lkX1_104, tb2 171 rfl rfl, tp1 4 rfl, rfl⟩
theorem lcX1_goesBack : Cond.initialized mX1_goesBack.2.1.cls ∈ tbg ∧ Cond.code mX1_goesBack.2.1 mX1_goesBack.2.2.1 mX1_goesBack.2.2.2.1 mX1_goesBack.2.2.2.2 ∈ tbg ∧ (mX1_goesBack.2.1.cls ≠ "java/lang/invoke/MethodHandle" ∧ mX1_goesBack.2.1.cls ≠ "java/lang/invoke/VarHandle" ∧ (parseMethodDescriptor mX1_goesBack.2.1.desc).map (fun d => d.parameters.length) = some 0) ∧ mX1_goesBack.2.2.2.1 ≤ 21 := ⟨tb1 4 rfl rfl, tb2 176 rfl rfl, ⟨by decide +kernel, by decide +kernel, by decide +kernel⟩, by decide +kernel⟩
theorem lkX10_78 : mlK RX10 78 mX1_goesBack 0 := ⟨tb2 173 rfl rfl, lcX1_goesBack⟩
theorem lvX10_78 : mlV RX10 78 mX1_goesBack 1 0 := ⟨lkX10_78, tb2 174 rfl rfl, tb2 175 rfl rfl, rfl⟩
theorem lkX1_107 : mlK RX1 107 mX1_worth 0 := ⟨tb2 177 rfl rfl, lcX1_worth⟩
theorem lvX1_107 : mlV RX1 107 mX1_worth 1 0 := ⟨lkX1_107, tb2 154 rfl rfl, tb2 155 rfl rfl, rfl⟩
theorem lcX3_commonDivisor : Cond.initialized mX3_commonDivisor.2.1.cls ∈ tbg ∧ Cond.code mX3_commonDivisor.2.1 mX3_commonDivisor.2.2.1 mX3_commonDivisor.2.2.2.1 mX3_commonDivisor.2.2.2.2 ∈ tbg ∧ (mX3_commonDivisor.2.1.cls ≠ "java/lang/invoke/MethodHandle" ∧ mX3_commonDivisor.2.1.cls ≠ "java/lang/invoke/VarHandle" ∧ (parseMethodDescriptor mX3_commonDivisor.2.1.desc).map (fun d => d.parameters.length) = some 2) ∧ mX3_commonDivisor.2.2.2.1 ≤ 21 := ⟨tb1 14 rfl rfl, tb2 180 rfl rfl, ⟨by decide +kernel, by decide +kernel, by decide +kernel⟩, by decide +kernel⟩
theorem lkX1_111 : mlK RX1 111 mX3_commonDivisor 2 := ⟨tb2 178 rfl rfl, lcX3_commonDivisor⟩
theorem lsX1_111 : mlS RX1 111 mX3_commonDivisor 2 := ⟨lkX1_111, tb2 179 rfl rfl⟩
theorem lcX1_partCount : Cond.initialized mX1_partCount.2.1.cls ∈ tbg ∧ Cond.code mX1_partCount.2.1 mX1_partCount.2.2.1 mX1_partCount.2.2.2.1 mX1_partCount.2.2.2.2 ∈ tbg ∧ (mX1_partCount.2.1.cls ≠ "java/lang/invoke/MethodHandle" ∧ mX1_partCount.2.1.cls ≠ "java/lang/invoke/VarHandle" ∧ (parseMethodDescriptor mX1_partCount.2.1.desc).map (fun d => d.parameters.length) = some 0) ∧ mX1_partCount.2.2.2.1 ≤ 21 := ⟨tb1 4 rfl rfl, tb2 184 rfl rfl, ⟨by decide +kernel, by decide +kernel, by decide +kernel⟩, by decide +kernel⟩
theorem lkX10_82 : mlK RX10 82 mX1_partCount 0 := ⟨tb2 181 rfl rfl, lcX1_partCount⟩
theorem lvX10_82 : mlV RX10 82 mX1_partCount 1 0 := ⟨lkX10_82, tb2 182 rfl rfl, tb2 183 rfl rfl, rfl⟩
theorem lcX10_rest : Cond.initialized mX10_rest.2.1.cls ∈ tbg ∧ Cond.code mX10_rest.2.1 mX10_rest.2.2.1 mX10_rest.2.2.2.1 mX10_rest.2.2.2.2 ∈ tbg ∧ (mX10_rest.2.1.cls ≠ "java/lang/invoke/MethodHandle" ∧ mX10_rest.2.1.cls ≠ "java/lang/invoke/VarHandle" ∧ (parseMethodDescriptor mX10_rest.2.1.desc).map (fun d => d.parameters.length) = some 2) ∧ mX10_rest.2.2.2.1 ≤ 21 := ⟨tb1 1 rfl rfl, tb2 188 rfl rfl, ⟨by decide +kernel, by decide +kernel, by decide +kernel⟩, by decide +kernel⟩
theorem lkL_42 : mlK RL 42 mX10_rest 2 := ⟨tb2 185 rfl rfl, lcX10_rest⟩
theorem lvL_42 : mlV RL 42 mX10_rest 10 2 := ⟨lkL_42, tb2 186 rfl rfl, tb2 187 rfl rfl, rfl⟩
theorem lcX10_cell : Cond.initialized mX10_cell.2.1.cls ∈ tbg ∧ Cond.code mX10_cell.2.1 mX10_cell.2.2.1 mX10_cell.2.2.2.1 mX10_cell.2.2.2.2 ∈ tbg ∧ (mX10_cell.2.1.cls ≠ "java/lang/invoke/MethodHandle" ∧ mX10_cell.2.1.cls ≠ "java/lang/invoke/VarHandle" ∧ (parseMethodDescriptor mX10_cell.2.1.desc).map (fun d => d.parameters.length) = some 3) ∧ mX10_cell.2.2.2.1 ≤ 21 := ⟨tb1 1 rfl rfl, tb2 192 rfl rfl, ⟨by decide +kernel, by decide +kernel, by decide +kernel⟩, by decide +kernel⟩
theorem lkL_46 : mlK RL 46 mX10_cell 3 := ⟨tb2 189 rfl rfl, lcX10_cell⟩
theorem lvL_46 : mlV RL 46 mX10_cell 10 3 := ⟨lkL_46, tb2 190 rfl rfl, tb2 191 rfl rfl, rfl⟩
theorem lkX10_89 : mlK RX10 89 mX6_told 2 := ⟨tb2 193 rfl rfl, lcX6_told⟩
theorem lvX10_89 : mlV RX10 89 mX6_told 6 2 := ⟨lkX10_89, tb2 166 rfl rfl, tb2 167 rfl rfl, rfl⟩
theorem lcX10_turn : Cond.initialized mX10_turn.2.1.cls ∈ tbg ∧ Cond.code mX10_turn.2.1 mX10_turn.2.2.1 mX10_turn.2.2.2.1 mX10_turn.2.2.2.2 ∈ tbg ∧ (mX10_turn.2.1.cls ≠ "java/lang/invoke/MethodHandle" ∧ mX10_turn.2.1.cls ≠ "java/lang/invoke/VarHandle" ∧ (parseMethodDescriptor mX10_turn.2.1.desc).map (fun d => d.parameters.length) = some 2) ∧ mX10_turn.2.2.2.1 ≤ 21 := ⟨tb1 1 rfl rfl, tb2 197 rfl rfl, ⟨by decide +kernel, by decide +kernel, by decide +kernel⟩, by decide +kernel⟩
theorem lkL_50 : mlK RL 50 mX10_turn 2 := ⟨tb2 194 rfl rfl, lcX10_turn⟩
theorem lvL_50 : mlV RL 50 mX10_turn 10 2 := ⟨lkL_50, tb2 195 rfl rfl, tb2 196 rfl rfl, rfl⟩
theorem lcX6_carryRow : Cond.initialized mX6_carryRow.2.1.cls ∈ tbg ∧ Cond.code mX6_carryRow.2.1 mX6_carryRow.2.2.1 mX6_carryRow.2.2.2.1 mX6_carryRow.2.2.2.2 ∈ tbg ∧ (mX6_carryRow.2.1.cls ≠ "java/lang/invoke/MethodHandle" ∧ mX6_carryRow.2.1.cls ≠ "java/lang/invoke/VarHandle" ∧ (parseMethodDescriptor mX6_carryRow.2.1.desc).map (fun d => d.parameters.length) = some 2) ∧ mX6_carryRow.2.2.2.1 ≤ 21 := ⟨tb1 8 rfl rfl, tb2 201 rfl rfl, ⟨by decide +kernel, by decide +kernel, by decide +kernel⟩, by decide +kernel⟩
theorem lkX10_92 : mlK RX10 92 mX6_carryRow 2 := ⟨tb2 198 rfl rfl, lcX6_carryRow⟩
theorem lvX10_92 : mlV RX10 92 mX6_carryRow 6 2 := ⟨lkX10_92, tb2 199 rfl rfl, tb2 200 rfl rfl, rfl⟩
theorem lcX6_reach : Cond.initialized mX6_reach.2.1.cls ∈ tbg ∧ Cond.code mX6_reach.2.1 mX6_reach.2.2.1 mX6_reach.2.2.2.1 mX6_reach.2.2.2.2 ∈ tbg ∧ (mX6_reach.2.1.cls ≠ "java/lang/invoke/MethodHandle" ∧ mX6_reach.2.1.cls ≠ "java/lang/invoke/VarHandle" ∧ (parseMethodDescriptor mX6_reach.2.1.desc).map (fun d => d.parameters.length) = some 1) ∧ mX6_reach.2.2.2.1 ≤ 21 := ⟨tb1 8 rfl rfl, tb2 205 rfl rfl, ⟨by decide +kernel, by decide +kernel, by decide +kernel⟩, by decide +kernel⟩
theorem lkX6_41 : mlK RX6 41 mX6_reach 1 := ⟨tb2 202 rfl rfl, lcX6_reach⟩
theorem lvX6_41 : mlV RX6 41 mX6_reach 6 1 := ⟨lkX6_41, tb2 204 rfl rfl, tp1 5 rfl, rfl⟩
theorem lcJ13_numberOfLeadingZeros_95d88 : Cond.initialized mJ13_numberOfLeadingZeros_95d88.2.1.cls ∈ tbg ∧ Cond.code mJ13_numberOfLeadingZeros_95d88.2.1 mJ13_numberOfLeadingZeros_95d88.2.2.1 mJ13_numberOfLeadingZeros_95d88.2.2.2.1 mJ13_numberOfLeadingZeros_95d88.2.2.2.2 ∈ tbg ∧ (mJ13_numberOfLeadingZeros_95d88.2.1.cls ≠ "java/lang/invoke/MethodHandle" ∧ mJ13_numberOfLeadingZeros_95d88.2.1.cls ≠ "java/lang/invoke/VarHandle" ∧ (parseMethodDescriptor mJ13_numberOfLeadingZeros_95d88.2.1.desc).map (fun d => d.parameters.length) = some 1) ∧ mJ13_numberOfLeadingZeros_95d88.2.2.2.1 ≤ 21 := ⟨tb1 15 rfl rfl, tb2 208 rfl rfl, ⟨by decide +kernel, by decide +kernel, by decide +kernel⟩, by decide +kernel⟩
theorem lkX6_64 : mlK RX6 64 mJ13_numberOfLeadingZeros_95d88 1 := ⟨tb2 206 rfl rfl, lcJ13_numberOfLeadingZeros_95d88⟩
theorem lsX6_64 : mlS RX6 64 mJ13_numberOfLeadingZeros_95d88 1 := ⟨lkX6_64, tb2 207 rfl rfl⟩
theorem lcJ6_numberOfLeadingZeros_0f7a4 : Cond.initialized mJ6_numberOfLeadingZeros_0f7a4.2.1.cls ∈ tbg ∧ Cond.code mJ6_numberOfLeadingZeros_0f7a4.2.1 mJ6_numberOfLeadingZeros_0f7a4.2.2.1 mJ6_numberOfLeadingZeros_0f7a4.2.2.2.1 mJ6_numberOfLeadingZeros_0f7a4.2.2.2.2 ∈ tbg ∧ (mJ6_numberOfLeadingZeros_0f7a4.2.1.cls ≠ "java/lang/invoke/MethodHandle" ∧ mJ6_numberOfLeadingZeros_0f7a4.2.1.cls ≠ "java/lang/invoke/VarHandle" ∧ (parseMethodDescriptor mJ6_numberOfLeadingZeros_0f7a4.2.1.desc).map (fun d => d.parameters.length) = some 1) ∧ mJ6_numberOfLeadingZeros_0f7a4.2.2.2.1 ≤ 21 := ⟨tb1 16 rfl rfl, tb2 211 rfl rfl, ⟨by decide +kernel, by decide +kernel, by decide +kernel⟩, by decide +kernel⟩
theorem lkJ13_308 : mlK RJ13 308 mJ6_numberOfLeadingZeros_0f7a4 1 := ⟨tb2 209 rfl rfl, lcJ6_numberOfLeadingZeros_0f7a4⟩
theorem lsJ13_308 : mlS RJ13 308 mJ6_numberOfLeadingZeros_0f7a4 1 := ⟨lkJ13_308, tb2 210 rfl rfl⟩
theorem lkX6_70 : mlK RX6 70 mJ9_min_7cf53 2 := ⟨tb2 213 rfl rfl, lcJ9_min_7cf53⟩
theorem lsX6_70 : mlS RX6 70 mJ9_min_7cf53 2 := ⟨lkX6_70, tb2 98 rfl rfl⟩
theorem lcX6_compose : Cond.initialized mX6_compose.2.1.cls ∈ tbg ∧ Cond.code mX6_compose.2.1 mX6_compose.2.2.1 mX6_compose.2.2.2.1 mX6_compose.2.2.2.2 ∈ tbg ∧ (mX6_compose.2.1.cls ≠ "java/lang/invoke/MethodHandle" ∧ mX6_compose.2.1.cls ≠ "java/lang/invoke/VarHandle" ∧ (parseMethodDescriptor mX6_compose.2.1.desc).map (fun d => d.parameters.length) = some 3) ∧ mX6_compose.2.2.2.1 ≤ 21 := ⟨tb1 8 rfl rfl, tb2 217 rfl rfl, ⟨by decide +kernel, by decide +kernel, by decide +kernel⟩, by decide +kernel⟩
theorem lkX6_55 : mlK RX6 55 mX6_compose 3 := ⟨tb2 214 rfl rfl, lcX6_compose⟩
theorem lvX6_55 : mlV RX6 55 mX6_compose 6 3 := ⟨lkX6_55, tb2 216 rfl rfl, tp1 6 rfl, rfl⟩
theorem lcJ9_max_7cf53 : Cond.initialized mJ9_max_7cf53.2.1.cls ∈ tbg ∧ Cond.code mJ9_max_7cf53.2.1 mJ9_max_7cf53.2.2.1 mJ9_max_7cf53.2.2.2.1 mJ9_max_7cf53.2.2.2.2 ∈ tbg ∧ (mJ9_max_7cf53.2.1.cls ≠ "java/lang/invoke/MethodHandle" ∧ mJ9_max_7cf53.2.1.cls ≠ "java/lang/invoke/VarHandle" ∧ (parseMethodDescriptor mJ9_max_7cf53.2.1.desc).map (fun d => d.parameters.length) = some 2) ∧ mJ9_max_7cf53.2.2.2.1 ≤ 21 := ⟨tb1 13 rfl rfl, tb2 220 rfl rfl, ⟨by decide +kernel, by decide +kernel, by decide +kernel⟩, by decide +kernel⟩
theorem lkX6_76 : mlK RX6 76 mJ9_max_7cf53 2 := ⟨tb2 218 rfl rfl, lcJ9_max_7cf53⟩
theorem lsX6_76 : mlS RX6 76 mJ9_max_7cf53 2 := ⟨lkX6_76, tb2 219 rfl rfl⟩
theorem lcX6_apply : Cond.initialized mX6_apply.2.1.cls ∈ tbg ∧ Cond.code mX6_apply.2.1 mX6_apply.2.2.1 mX6_apply.2.2.2.1 mX6_apply.2.2.2.2 ∈ tbg ∧ (mX6_apply.2.1.cls ≠ "java/lang/invoke/MethodHandle" ∧ mX6_apply.2.1.cls ≠ "java/lang/invoke/VarHandle" ∧ (parseMethodDescriptor mX6_apply.2.1.desc).map (fun d => d.parameters.length) = some 3) ∧ mX6_apply.2.2.2.1 ≤ 21 := ⟨tb1 8 rfl rfl, tb2 224 rfl rfl, ⟨by decide +kernel, by decide +kernel, by decide +kernel⟩, by decide +kernel⟩
theorem lkX6_45 : mlK RX6 45 mX6_apply 3 := ⟨tb2 221 rfl rfl, lcX6_apply⟩
theorem lvX6_45 : mlV RX6 45 mX6_apply 6 3 := ⟨lkX6_45, tb2 223 rfl rfl, tp1 7 rfl, rfl⟩
theorem lcX10_leap : Cond.initialized mX10_leap.2.1.cls ∈ tbg ∧ Cond.code mX10_leap.2.1 mX10_leap.2.2.1 mX10_leap.2.2.2.1 mX10_leap.2.2.2.2 ∈ tbg ∧ (mX10_leap.2.1.cls ≠ "java/lang/invoke/MethodHandle" ∧ mX10_leap.2.1.cls ≠ "java/lang/invoke/VarHandle" ∧ (parseMethodDescriptor mX10_leap.2.1.desc).map (fun d => d.parameters.length) = some 2) ∧ mX10_leap.2.2.2.1 ≤ 21 := ⟨tb1 1 rfl rfl, tb2 231 rfl rfl, ⟨by decide +kernel, by decide +kernel, by decide +kernel⟩, by decide +kernel⟩
theorem lkL_57 : mlK RL 57 mX10_leap 2 := ⟨tb2 228 rfl rfl, lcX10_leap⟩
theorem lvL_57 : mlV RL 57 mX10_leap 10 2 := ⟨lkL_57, tb2 229 rfl rfl, tb2 230 rfl rfl, rfl⟩
theorem lcX10_back : Cond.initialized mX10_back.2.1.cls ∈ tbg ∧ Cond.code mX10_back.2.1 mX10_back.2.2.1 mX10_back.2.2.2.1 mX10_back.2.2.2.2 ∈ tbg ∧ (mX10_back.2.1.cls ≠ "java/lang/invoke/MethodHandle" ∧ mX10_back.2.1.cls ≠ "java/lang/invoke/VarHandle" ∧ (parseMethodDescriptor mX10_back.2.1.desc).map (fun d => d.parameters.length) = some 2) ∧ mX10_back.2.2.2.1 ≤ 21 := ⟨tb1 1 rfl rfl, tb2 235 rfl rfl, ⟨by decide +kernel, by decide +kernel, by decide +kernel⟩, by decide +kernel⟩
theorem lkL_62 : mlK RL 62 mX10_back 2 := ⟨tb2 232 rfl rfl, lcX10_back⟩
theorem lvL_62 : mlV RL 62 mX10_back 10 2 := ⟨lkL_62, tb2 233 rfl rfl, tb2 234 rfl rfl, rfl⟩
theorem lcX8_turnsAhead : Cond.initialized mX8_turnsAhead.2.1.cls ∈ tbg ∧ Cond.code mX8_turnsAhead.2.1 mX8_turnsAhead.2.2.1 mX8_turnsAhead.2.2.2.1 mX8_turnsAhead.2.2.2.2 ∈ tbg ∧ (mX8_turnsAhead.2.1.cls ≠ "java/lang/invoke/MethodHandle" ∧ mX8_turnsAhead.2.1.cls ≠ "java/lang/invoke/VarHandle" ∧ (parseMethodDescriptor mX8_turnsAhead.2.1.desc).map (fun d => d.parameters.length) = some 1) ∧ mX8_turnsAhead.2.2.2.1 ≤ 21 := ⟨tb1 9 rfl rfl, tb2 239 rfl rfl, ⟨by decide +kernel, by decide +kernel, by decide +kernel⟩, by decide +kernel⟩
theorem lkX10_100 : mlK RX10 100 mX8_turnsAhead 1 := ⟨tb2 236 rfl rfl, lcX8_turnsAhead⟩
theorem lvX10_100 : mlV RX10 100 mX8_turnsAhead 8 1 := ⟨lkX10_100, tb2 237 rfl rfl, tb2 238 rfl rfl, rfl⟩
theorem lcX8_wholeRound : Cond.initialized mX8_wholeRound.2.1.cls ∈ tbg ∧ Cond.code mX8_wholeRound.2.1 mX8_wholeRound.2.2.1 mX8_wholeRound.2.2.2.1 mX8_wholeRound.2.2.2.2 ∈ tbg ∧ (mX8_wholeRound.2.1.cls ≠ "java/lang/invoke/MethodHandle" ∧ mX8_wholeRound.2.1.cls ≠ "java/lang/invoke/VarHandle" ∧ (parseMethodDescriptor mX8_wholeRound.2.1.desc).map (fun d => d.parameters.length) = some 0) ∧ mX8_wholeRound.2.2.2.1 ≤ 21 := ⟨tb1 9 rfl rfl, tb3 3 rfl rfl, ⟨by decide +kernel, by decide +kernel, by decide +kernel⟩, by decide +kernel⟩
theorem lkX8_76 : mlK RX8 76 mX8_wholeRound 0 := ⟨tb3 0 rfl rfl, lcX8_wholeRound⟩
theorem lvX8_76 : mlV RX8 76 mX8_wholeRound 8 0 := ⟨lkX8_76, tb3 1 rfl rfl, tb3 2 rfl rfl, rfl⟩
theorem lcX7_clear : Cond.initialized mX7_clear.2.1.cls ∈ tbg ∧ Cond.code mX7_clear.2.1 mX7_clear.2.2.1 mX7_clear.2.2.2.1 mX7_clear.2.2.2.2 ∈ tbg ∧ (mX7_clear.2.1.cls ≠ "java/lang/invoke/MethodHandle" ∧ mX7_clear.2.1.cls ≠ "java/lang/invoke/VarHandle" ∧ (parseMethodDescriptor mX7_clear.2.1.desc).map (fun d => d.parameters.length) = some 0) ∧ mX7_clear.2.2.2.1 ≤ 21 := ⟨tb1 10 rfl rfl, tb3 7 rfl rfl, ⟨by decide +kernel, by decide +kernel, by decide +kernel⟩, by decide +kernel⟩
theorem lkX8_52 : mlK RX8 52 mX7_clear 0 := ⟨tb3 4 rfl rfl, lcX7_clear⟩
theorem lvX8_52 : mlV RX8 52 mX7_clear 7 0 := ⟨lkX8_52, tb3 5 rfl rfl, tb3 6 rfl rfl, rfl⟩
theorem lcX8_roundsModulo : Cond.initialized mX8_roundsModulo.2.1.cls ∈ tbg ∧ Cond.code mX8_roundsModulo.2.1 mX8_roundsModulo.2.2.1 mX8_roundsModulo.2.2.2.1 mX8_roundsModulo.2.2.2.2 ∈ tbg ∧ (mX8_roundsModulo.2.1.cls ≠ "java/lang/invoke/MethodHandle" ∧ mX8_roundsModulo.2.1.cls ≠ "java/lang/invoke/VarHandle" ∧ (parseMethodDescriptor mX8_roundsModulo.2.1.desc).map (fun d => d.parameters.length) = some 1) ∧ mX8_roundsModulo.2.2.2.1 ≤ 21 := ⟨tb1 9 rfl rfl, tb3 11 rfl rfl, ⟨by decide +kernel, by decide +kernel, by decide +kernel⟩, by decide +kernel⟩
theorem lkX8_61 : mlK RX8 61 mX8_roundsModulo 1 := ⟨tb3 8 rfl rfl, lcX8_roundsModulo⟩
theorem lvX8_61 : mlV RX8 61 mX8_roundsModulo 8 1 := ⟨lkX8_61, tb3 10 rfl rfl, tp1 8 rfl, rfl⟩
theorem lcX4_enoughTurns : Cond.initialized mX4_enoughTurns.2.1.cls ∈ tbg ∧ Cond.code mX4_enoughTurns.2.1 mX4_enoughTurns.2.2.1 mX4_enoughTurns.2.2.2.1 mX4_enoughTurns.2.2.2.2 ∈ tbg ∧ (mX4_enoughTurns.2.1.cls ≠ "java/lang/invoke/MethodHandle" ∧ mX4_enoughTurns.2.1.cls ≠ "java/lang/invoke/VarHandle" ∧ (parseMethodDescriptor mX4_enoughTurns.2.1.desc).map (fun d => d.parameters.length) = some 1) ∧ mX4_enoughTurns.2.2.2.1 ≤ 21 := ⟨tb1 7 rfl rfl, tb3 15 rfl rfl, ⟨by decide +kernel, by decide +kernel, by decide +kernel⟩, by decide +kernel⟩
theorem lkX8_149 : mlK RX8 149 mX4_enoughTurns 1 := ⟨tb3 12 rfl rfl, lcX4_enoughTurns⟩
theorem lvX8_149 : mlV RX8 149 mX4_enoughTurns 4 1 := ⟨lkX8_149, tb3 13 rfl rfl, tb3 14 rfl rfl, rfl⟩
theorem lcX4_listPrimes : Cond.initialized mX4_listPrimes.2.1.cls ∈ tbg ∧ Cond.code mX4_listPrimes.2.1 mX4_listPrimes.2.2.1 mX4_listPrimes.2.2.2.1 mX4_listPrimes.2.2.2.2 ∈ tbg ∧ (mX4_listPrimes.2.1.cls ≠ "java/lang/invoke/MethodHandle" ∧ mX4_listPrimes.2.1.cls ≠ "java/lang/invoke/VarHandle" ∧ (parseMethodDescriptor mX4_listPrimes.2.1.desc).map (fun d => d.parameters.length) = some 2) ∧ mX4_listPrimes.2.2.2.1 ≤ 21 := ⟨tb1 7 rfl rfl, tb3 19 rfl rfl, ⟨by decide +kernel, by decide +kernel, by decide +kernel⟩, by decide +kernel⟩
theorem lkX8_153 : mlK RX8 153 mX4_listPrimes 2 := ⟨tb3 16 rfl rfl, lcX4_listPrimes⟩
theorem lvX8_153 : mlV RX8 153 mX4_listPrimes 4 2 := ⟨lkX8_153, tb3 17 rfl rfl, tb3 18 rfl rfl, rfl⟩
theorem lkX4_32 : mlK RX4 32 mX7_clear 0 := ⟨tb3 20 rfl rfl, lcX7_clear⟩
theorem lvX4_32 : mlV RX4 32 mX7_clear 7 0 := ⟨lkX4_32, tb3 5 rfl rfl, tb3 6 rfl rfl, rfl⟩
theorem lcX7_addThoseOf : Cond.initialized mX7_addThoseOf.2.1.cls ∈ tbg ∧ Cond.code mX7_addThoseOf.2.1 mX7_addThoseOf.2.2.1 mX7_addThoseOf.2.2.2.1 mX7_addThoseOf.2.2.2.2 ∈ tbg ∧ (mX7_addThoseOf.2.1.cls ≠ "java/lang/invoke/MethodHandle" ∧ mX7_addThoseOf.2.1.cls ≠ "java/lang/invoke/VarHandle" ∧ (parseMethodDescriptor mX7_addThoseOf.2.1.desc).map (fun d => d.parameters.length) = some 1) ∧ mX7_addThoseOf.2.2.2.1 ≤ 21 := ⟨tb1 10 rfl rfl, tb3 24 rfl rfl, ⟨by decide +kernel, by decide +kernel, by decide +kernel⟩, by decide +kernel⟩
theorem lkX4_37 : mlK RX4 37 mX7_addThoseOf 1 := ⟨tb3 21 rfl rfl, lcX7_addThoseOf⟩
theorem lvX4_37 : mlV RX4 37 mX7_addThoseOf 7 1 := ⟨lkX4_37, tb3 22 rfl rfl, tb3 23 rfl rfl, rfl⟩
theorem lcX7_add : Cond.initialized mX7_add.2.1.cls ∈ tbg ∧ Cond.code mX7_add.2.1 mX7_add.2.2.1 mX7_add.2.2.2.1 mX7_add.2.2.2.2 ∈ tbg ∧ (mX7_add.2.1.cls ≠ "java/lang/invoke/MethodHandle" ∧ mX7_add.2.1.cls ≠ "java/lang/invoke/VarHandle" ∧ (parseMethodDescriptor mX7_add.2.1.desc).map (fun d => d.parameters.length) = some 1) ∧ mX7_add.2.2.2.1 ≤ 21 := ⟨tb1 10 rfl rfl, tb3 28 rfl rfl, ⟨by decide +kernel, by decide +kernel, by decide +kernel⟩, by decide +kernel⟩
theorem lkX7_19 : mlK RX7 19 mX7_add 1 := ⟨tb3 25 rfl rfl, lcX7_add⟩
theorem lvX7_19 : mlV RX7 19 mX7_add 7 1 := ⟨lkX7_19, tb3 26 rfl rfl, tb3 27 rfl rfl, rfl⟩
theorem lkX4_41 : mlK RX4 41 mX7_add 1 := ⟨tb3 29 rfl rfl, lcX7_add⟩
theorem lvX4_41 : mlV RX4 41 mX7_add 7 1 := ⟨lkX4_41, tb3 26 rfl rfl, tb3 27 rfl rfl, rfl⟩
theorem lkX8_100 : mlK RX8 100 mJ9_max_7cf53 2 := ⟨tb3 30 rfl rfl, lcJ9_max_7cf53⟩
theorem lsX8_100 : mlS RX8 100 mJ9_max_7cf53 2 := ⟨lkX8_100, tb2 219 rfl rfl⟩
theorem lcX8_settledComeBack : Cond.initialized mX8_settledComeBack.2.1.cls ∈ tbg ∧ Cond.code mX8_settledComeBack.2.1 mX8_settledComeBack.2.2.1 mX8_settledComeBack.2.2.2.1 mX8_settledComeBack.2.2.2.2 ∈ tbg ∧ (mX8_settledComeBack.2.1.cls ≠ "java/lang/invoke/MethodHandle" ∧ mX8_settledComeBack.2.1.cls ≠ "java/lang/invoke/VarHandle" ∧ (parseMethodDescriptor mX8_settledComeBack.2.1.desc).map (fun d => d.parameters.length) = some 2) ∧ mX8_settledComeBack.2.2.2.1 ≤ 21 := ⟨tb1 9 rfl rfl, tb3 34 rfl rfl, ⟨by decide +kernel, by decide +kernel, by decide +kernel⟩, by decide +kernel⟩
theorem lkX8_157 : mlK RX8 157 mX8_settledComeBack 2 := ⟨tb3 31 rfl rfl, lcX8_settledComeBack⟩
theorem lvX8_157 : mlV RX8 157 mX8_settledComeBack 8 2 := ⟨lkX8_157, tb3 33 rfl rfl, tp1 9 rfl, rfl⟩
theorem lcX6_settling : Cond.initialized mX6_settling.2.1.cls ∈ tbg ∧ Cond.code mX6_settling.2.1 mX6_settling.2.2.1 mX6_settling.2.2.2.1 mX6_settling.2.2.2.2 ∈ tbg ∧ (mX6_settling.2.1.cls ≠ "java/lang/invoke/MethodHandle" ∧ mX6_settling.2.1.cls ≠ "java/lang/invoke/VarHandle" ∧ (parseMethodDescriptor mX6_settling.2.1.desc).map (fun d => d.parameters.length) = some 0) ∧ mX6_settling.2.2.2.1 ≤ 21 := ⟨tb1 8 rfl rfl, tb3 38 rfl rfl, ⟨by decide +kernel, by decide +kernel, by decide +kernel⟩, by decide +kernel⟩
theorem lkX8_161 : mlK RX8 161 mX6_settling 0 := ⟨tb3 35 rfl rfl, lcX6_settling⟩
theorem lvX8_161 : mlV RX8 161 mX6_settling 6 0 := ⟨lkX8_161, tb3 36 rfl rfl, tb3 37 rfl rfl, rfl⟩
theorem lcX6_carryStep : Cond.initialized mX6_carryStep.2.1.cls ∈ tbg ∧ Cond.code mX6_carryStep.2.1 mX6_carryStep.2.2.1 mX6_carryStep.2.2.2.1 mX6_carryStep.2.2.2.2 ∈ tbg ∧ (mX6_carryStep.2.1.cls ≠ "java/lang/invoke/MethodHandle" ∧ mX6_carryStep.2.1.cls ≠ "java/lang/invoke/VarHandle" ∧ (parseMethodDescriptor mX6_carryStep.2.1.desc).map (fun d => d.parameters.length) = some 2) ∧ mX6_carryStep.2.2.2.1 ≤ 21 := ⟨tb1 8 rfl rfl, tb3 44 rfl rfl, ⟨by decide +kernel, by decide +kernel, by decide +kernel⟩, by decide +kernel⟩
theorem lkX8_146 : mlK RX8 146 mX6_carryStep 2 := ⟨tb3 41 rfl rfl, lcX6_carryStep⟩
theorem lvX8_146 : mlV RX8 146 mX6_carryStep 6 2 := ⟨lkX8_146, tb3 42 rfl rfl, tb3 43 rfl rfl, rfl⟩
theorem lcX6_sameSteps : Cond.initialized mX6_sameSteps.2.1.cls ∈ tbg ∧ Cond.code mX6_sameSteps.2.1 mX6_sameSteps.2.2.1 mX6_sameSteps.2.2.2.1 mX6_sameSteps.2.2.2.2 ∈ tbg ∧ (mX6_sameSteps.2.1.cls ≠ "java/lang/invoke/MethodHandle" ∧ mX6_sameSteps.2.1.cls ≠ "java/lang/invoke/VarHandle" ∧ (parseMethodDescriptor mX6_sameSteps.2.1.desc).map (fun d => d.parameters.length) = some 3) ∧ mX6_sameSteps.2.2.2.1 ≤ 21 := ⟨tb1 8 rfl rfl, tb3 48 rfl rfl, ⟨by decide +kernel, by decide +kernel, by decide +kernel⟩, by decide +kernel⟩
theorem lkX8_171 : mlK RX8 171 mX6_sameSteps 3 := ⟨tb3 45 rfl rfl, lcX6_sameSteps⟩
theorem lvX8_171 : mlV RX8 171 mX6_sameSteps 6 3 := ⟨lkX8_171, tb3 46 rfl rfl, tb3 47 rfl rfl, rfl⟩
theorem lkX6_58 : mlK RX6 58 mX3_restOf 2 := ⟨tb3 49 rfl rfl, lcX3_restOf⟩
theorem lsX6_58 : mlS RX6 58 mX3_restOf 2 := ⟨lkX6_58, tb2 135 rfl rfl⟩
theorem lkX8_124 : mlK RX8 124 mX7_add 1 := ⟨tb3 50 rfl rfl, lcX7_add⟩
theorem lvX8_124 : mlV RX8 124 mX7_add 7 1 := ⟨lkX8_124, tb3 26 rfl rfl, tb3 27 rfl rfl, rfl⟩
theorem lkX8_65 : mlK RX8 65 mX3_commonDivisor 2 := ⟨tb3 51 rfl rfl, lcX3_commonDivisor⟩
theorem lsX8_65 : mlS RX8 65 mX3_commonDivisor 2 := ⟨lkX8_65, tb2 179 rfl rfl⟩
theorem lcJ9_max_f86c9 : Cond.initialized mJ9_max_f86c9.2.1.cls ∈ tbg ∧ Cond.code mJ9_max_f86c9.2.1 mJ9_max_f86c9.2.2.1 mJ9_max_f86c9.2.2.2.1 mJ9_max_f86c9.2.2.2.2 ∈ tbg ∧ (mJ9_max_f86c9.2.1.cls ≠ "java/lang/invoke/MethodHandle" ∧ mJ9_max_f86c9.2.1.cls ≠ "java/lang/invoke/VarHandle" ∧ (parseMethodDescriptor mJ9_max_f86c9.2.1.desc).map (fun d => d.parameters.length) = some 2) ∧ mJ9_max_f86c9.2.2.2.1 ≤ 21 := ⟨tb1 13 rfl rfl, tb3 54 rfl rfl, ⟨by decide +kernel, by decide +kernel, by decide +kernel⟩, by decide +kernel⟩
theorem lkX8_71 : mlK RX8 71 mJ9_max_f86c9 2 := ⟨tb3 52 rfl rfl, lcJ9_max_f86c9⟩
theorem lsX8_71 : mlS RX8 71 mJ9_max_f86c9 2 := ⟨lkX8_71, tb3 53 rfl rfl⟩
theorem lcX10_tail : Cond.initialized mX10_tail.2.1.cls ∈ tbg ∧ Cond.code mX10_tail.2.1 mX10_tail.2.2.1 mX10_tail.2.2.2.1 mX10_tail.2.2.2.2 ∈ tbg ∧ (mX10_tail.2.1.cls ≠ "java/lang/invoke/MethodHandle" ∧ mX10_tail.2.1.cls ≠ "java/lang/invoke/VarHandle" ∧ (parseMethodDescriptor mX10_tail.2.1.desc).map (fun d => d.parameters.length) = some 1) ∧ mX10_tail.2.2.2.1 ≤ 21 := ⟨tb1 1 rfl rfl, tb3 58 rfl rfl, ⟨by decide +kernel, by decide +kernel, by decide +kernel⟩, by decide +kernel⟩
theorem lkL_66 : mlK RL 66 mX10_tail 1 := ⟨tb3 55 rfl rfl, lcX10_tail⟩
theorem lvL_66 : mlV RL 66 mX10_tail 10 1 := ⟨lkL_66, tb3 56 rfl rfl, tb3 57 rfl rfl, rfl⟩
theorem lcX8_tailOf : Cond.initialized mX8_tailOf.2.1.cls ∈ tbg ∧ Cond.code mX8_tailOf.2.1 mX8_tailOf.2.2.1 mX8_tailOf.2.2.2.1 mX8_tailOf.2.2.2.2 ∈ tbg ∧ (mX8_tailOf.2.1.cls ≠ "java/lang/invoke/MethodHandle" ∧ mX8_tailOf.2.1.cls ≠ "java/lang/invoke/VarHandle" ∧ (parseMethodDescriptor mX8_tailOf.2.1.desc).map (fun d => d.parameters.length) = some 1) ∧ mX8_tailOf.2.2.2.1 ≤ 21 := ⟨tb1 9 rfl rfl, tb3 62 rfl rfl, ⟨by decide +kernel, by decide +kernel, by decide +kernel⟩, by decide +kernel⟩
theorem lkX10_106 : mlK RX10 106 mX8_tailOf 1 := ⟨tb3 59 rfl rfl, lcX8_tailOf⟩
theorem lvX10_106 : mlV RX10 106 mX8_tailOf 8 1 := ⟨lkX10_106, tb3 60 rfl rfl, tb3 61 rfl rfl, rfl⟩
theorem lcX8_copyRow : Cond.initialized mX8_copyRow.2.1.cls ∈ tbg ∧ Cond.code mX8_copyRow.2.1 mX8_copyRow.2.2.1 mX8_copyRow.2.2.2.1 mX8_copyRow.2.2.2.2 ∈ tbg ∧ (mX8_copyRow.2.1.cls ≠ "java/lang/invoke/MethodHandle" ∧ mX8_copyRow.2.1.cls ≠ "java/lang/invoke/VarHandle" ∧ (parseMethodDescriptor mX8_copyRow.2.1.desc).map (fun d => d.parameters.length) = some 2) ∧ mX8_copyRow.2.2.2.1 ≤ 21 := ⟨tb1 9 rfl rfl, tb3 65 rfl rfl, ⟨by decide +kernel, by decide +kernel, by decide +kernel⟩, by decide +kernel⟩
theorem lkX8_80 : mlK RX8 80 mX8_copyRow 2 := ⟨tb3 63 rfl rfl, lcX8_copyRow⟩
theorem lsX8_80 : mlS RX8 80 mX8_copyRow 2 := ⟨lkX8_80, tb3 64 rfl rfl⟩
theorem lkX8_84 : mlK RX8 84 mX6_carryRow 2 := ⟨tb3 66 rfl rfl, lcX6_carryRow⟩
theorem lvX8_84 : mlV RX8 84 mX6_carryRow 6 2 := ⟨lkX8_84, tb2 199 rfl rfl, tb2 200 rfl rfl, rfl⟩
theorem lcX6_sameRows : Cond.initialized mX6_sameRows.2.1.cls ∈ tbg ∧ Cond.code mX6_sameRows.2.1 mX6_sameRows.2.2.1 mX6_sameRows.2.2.2.1 mX6_sameRows.2.2.2.2 ∈ tbg ∧ (mX6_sameRows.2.1.cls ≠ "java/lang/invoke/MethodHandle" ∧ mX6_sameRows.2.1.cls ≠ "java/lang/invoke/VarHandle" ∧ (parseMethodDescriptor mX6_sameRows.2.1.desc).map (fun d => d.parameters.length) = some 2) ∧ mX6_sameRows.2.2.2.1 ≤ 21 := ⟨tb1 8 rfl rfl, tb3 70 rfl rfl, ⟨by decide +kernel, by decide +kernel, by decide +kernel⟩, by decide +kernel⟩
theorem lkX8_88 : mlK RX8 88 mX6_sameRows 2 := ⟨tb3 67 rfl rfl, lcX6_sameRows⟩
theorem lvX8_88 : mlV RX8 88 mX6_sameRows 6 2 := ⟨lkX8_88, tb3 68 rfl rfl, tb3 69 rfl rfl, rfl⟩
theorem lcX10_round : Cond.initialized mX10_round.2.1.cls ∈ tbg ∧ Cond.code mX10_round.2.1 mX10_round.2.2.1 mX10_round.2.2.2.1 mX10_round.2.2.2.2 ∈ tbg ∧ (mX10_round.2.1.cls ≠ "java/lang/invoke/MethodHandle" ∧ mX10_round.2.1.cls ≠ "java/lang/invoke/VarHandle" ∧ (parseMethodDescriptor mX10_round.2.1.desc).map (fun d => d.parameters.length) = some 1) ∧ mX10_round.2.2.2.1 ≤ 21 := ⟨tb1 1 rfl rfl, tb3 74 rfl rfl, ⟨by decide +kernel, by decide +kernel, by decide +kernel⟩, by decide +kernel⟩
theorem lkL_71 : mlK RL 71 mX10_round 1 := ⟨tb3 71 rfl rfl, lcX10_round⟩
theorem lvL_71 : mlV RL 71 mX10_round 10 1 := ⟨lkL_71, tb3 72 rfl rfl, tb3 73 rfl rfl, rfl⟩
theorem lcX8_roundOf : Cond.initialized mX8_roundOf.2.1.cls ∈ tbg ∧ Cond.code mX8_roundOf.2.1 mX8_roundOf.2.2.1 mX8_roundOf.2.2.2.1 mX8_roundOf.2.2.2.2 ∈ tbg ∧ (mX8_roundOf.2.1.cls ≠ "java/lang/invoke/MethodHandle" ∧ mX8_roundOf.2.1.cls ≠ "java/lang/invoke/VarHandle" ∧ (parseMethodDescriptor mX8_roundOf.2.1.desc).map (fun d => d.parameters.length) = some 1) ∧ mX8_roundOf.2.2.2.1 ≤ 21 := ⟨tb1 9 rfl rfl, tb3 79 rfl rfl, ⟨by decide +kernel, by decide +kernel, by decide +kernel⟩, by decide +kernel⟩
theorem lkX10_112 : mlK RX10 112 mX8_roundOf 1 := ⟨tb3 76 rfl rfl, lcX8_roundOf⟩
theorem lvX10_112 : mlV RX10 112 mX8_roundOf 8 1 := ⟨lkX10_112, tb3 77 rfl rfl, tb3 78 rfl rfl, rfl⟩
theorem lcX8_rowComesBack : Cond.initialized mX8_rowComesBack.2.1.cls ∈ tbg ∧ Cond.code mX8_rowComesBack.2.1 mX8_rowComesBack.2.2.1 mX8_rowComesBack.2.2.2.1 mX8_rowComesBack.2.2.2.2 ∈ tbg ∧ (mX8_rowComesBack.2.1.cls ≠ "java/lang/invoke/MethodHandle" ∧ mX8_rowComesBack.2.1.cls ≠ "java/lang/invoke/VarHandle" ∧ (parseMethodDescriptor mX8_rowComesBack.2.1.desc).map (fun d => d.parameters.length) = some 1) ∧ mX8_rowComesBack.2.2.2.1 ≤ 21 := ⟨tb1 9 rfl rfl, tb3 84 rfl rfl, ⟨by decide +kernel, by decide +kernel, by decide +kernel⟩, by decide +kernel⟩
theorem lkX8_103 : mlK RX8 103 mX8_rowComesBack 1 := ⟨tb3 81 rfl rfl, lcX8_rowComesBack⟩
theorem lvX8_103 : mlV RX8 103 mX8_rowComesBack 8 1 := ⟨lkX8_103, tb3 83 rfl rfl, tp1 10 rfl, rfl⟩
theorem lcX10_order : Cond.initialized mX10_order.2.1.cls ∈ tbg ∧ Cond.code mX10_order.2.1 mX10_order.2.2.1 mX10_order.2.2.2.1 mX10_order.2.2.2.2 ∈ tbg ∧ (mX10_order.2.1.cls ≠ "java/lang/invoke/MethodHandle" ∧ mX10_order.2.1.cls ≠ "java/lang/invoke/VarHandle" ∧ (parseMethodDescriptor mX10_order.2.1.desc).map (fun d => d.parameters.length) = some 1) ∧ mX10_order.2.2.2.1 ≤ 21 := ⟨tb1 1 rfl rfl, tb3 88 rfl rfl, ⟨by decide +kernel, by decide +kernel, by decide +kernel⟩, by decide +kernel⟩
theorem lkL_76 : mlK RL 76 mX10_order 1 := ⟨tb3 85 rfl rfl, lcX10_order⟩
theorem lvL_76 : mlV RL 76 mX10_order 10 1 := ⟨lkL_76, tb3 86 rfl rfl, tb3 87 rfl rfl, rfl⟩
theorem lkX10_116 : mlK RX10 116 mX8_wholeRound 0 := ⟨tb3 89 rfl rfl, lcX8_wholeRound⟩
theorem lvX10_116 : mlV RX10 116 mX8_wholeRound 8 0 := ⟨lkX10_116, tb3 1 rfl rfl, tb3 2 rfl rfl, rfl⟩
theorem lcX10_fixed : Cond.initialized mX10_fixed.2.1.cls ∈ tbg ∧ Cond.code mX10_fixed.2.1 mX10_fixed.2.2.1 mX10_fixed.2.2.2.1 mX10_fixed.2.2.2.2 ∈ tbg ∧ (mX10_fixed.2.1.cls ≠ "java/lang/invoke/MethodHandle" ∧ mX10_fixed.2.1.cls ≠ "java/lang/invoke/VarHandle" ∧ (parseMethodDescriptor mX10_fixed.2.1.desc).map (fun d => d.parameters.length) = some 2) ∧ mX10_fixed.2.2.2.1 ≤ 21 := ⟨tb1 1 rfl rfl, tb3 93 rfl rfl, ⟨by decide +kernel, by decide +kernel, by decide +kernel⟩, by decide +kernel⟩
theorem lkL_80 : mlK RL 80 mX10_fixed 2 := ⟨tb3 90 rfl rfl, lcX10_fixed⟩
theorem lvL_80 : mlV RL 80 mX10_fixed 10 2 := ⟨lkL_80, tb3 91 rfl rfl, tb3 92 rfl rfl, rfl⟩
theorem lcX8_platesFixed : Cond.initialized mX8_platesFixed.2.1.cls ∈ tbg ∧ Cond.code mX8_platesFixed.2.1 mX8_platesFixed.2.2.1 mX8_platesFixed.2.2.2.1 mX8_platesFixed.2.2.2.2 ∈ tbg ∧ (mX8_platesFixed.2.1.cls ≠ "java/lang/invoke/MethodHandle" ∧ mX8_platesFixed.2.1.cls ≠ "java/lang/invoke/VarHandle" ∧ (parseMethodDescriptor mX8_platesFixed.2.1.desc).map (fun d => d.parameters.length) = some 1) ∧ mX8_platesFixed.2.2.2.1 ≤ 21 := ⟨tb1 9 rfl rfl, tb3 97 rfl rfl, ⟨by decide +kernel, by decide +kernel, by decide +kernel⟩, by decide +kernel⟩
theorem lkX10_120 : mlK RX10 120 mX8_platesFixed 1 := ⟨tb3 94 rfl rfl, lcX8_platesFixed⟩
theorem lvX10_120 : mlV RX10 120 mX8_platesFixed 8 1 := ⟨lkX10_120, tb3 95 rfl rfl, tb3 96 rfl rfl, rfl⟩
theorem lcX8_stepOf : Cond.initialized mX8_stepOf.2.1.cls ∈ tbg ∧ Cond.code mX8_stepOf.2.1 mX8_stepOf.2.2.1 mX8_stepOf.2.2.2.1 mX8_stepOf.2.2.2.2 ∈ tbg ∧ (mX8_stepOf.2.1.cls ≠ "java/lang/invoke/MethodHandle" ∧ mX8_stepOf.2.1.cls ≠ "java/lang/invoke/VarHandle" ∧ (parseMethodDescriptor mX8_stepOf.2.1.desc).map (fun d => d.parameters.length) = some 1) ∧ mX8_stepOf.2.2.2.1 ≤ 21 := ⟨tb1 9 rfl rfl, tb3 101 rfl rfl, ⟨by decide +kernel, by decide +kernel, by decide +kernel⟩, by decide +kernel⟩
theorem lkX8_107 : mlK RX8 107 mX8_stepOf 1 := ⟨tb3 98 rfl rfl, lcX8_stepOf⟩
theorem lvX8_107 : mlV RX8 107 mX8_stepOf 8 1 := ⟨lkX8_107, tb3 99 rfl rfl, tb3 100 rfl rfl, rfl⟩
theorem lcX6_fillStill : Cond.initialized mX6_fillStill.2.1.cls ∈ tbg ∧ Cond.code mX6_fillStill.2.1 mX6_fillStill.2.2.1 mX6_fillStill.2.2.2.1 mX6_fillStill.2.2.2.2 ∈ tbg ∧ (mX6_fillStill.2.1.cls ≠ "java/lang/invoke/MethodHandle" ∧ mX6_fillStill.2.1.cls ≠ "java/lang/invoke/VarHandle" ∧ (parseMethodDescriptor mX6_fillStill.2.1.desc).map (fun d => d.parameters.length) = some 1) ∧ mX6_fillStill.2.2.2.1 ≤ 21 := ⟨tb1 8 rfl rfl, tb3 105 rfl rfl, ⟨by decide +kernel, by decide +kernel, by decide +kernel⟩, by decide +kernel⟩
theorem lkX8_142 : mlK RX8 142 mX6_fillStill 1 := ⟨tb3 102 rfl rfl, lcX6_fillStill⟩
theorem lvX8_142 : mlV RX8 142 mX6_fillStill 6 1 := ⟨lkX8_142, tb3 103 rfl rfl, tb3 104 rfl rfl, rfl⟩
theorem lcX0_countFixed : Cond.initialized mX0_countFixed.2.1.cls ∈ tbg ∧ Cond.code mX0_countFixed.2.1 mX0_countFixed.2.2.1 mX0_countFixed.2.2.2.1 mX0_countFixed.2.2.2.2 ∈ tbg ∧ (mX0_countFixed.2.1.cls ≠ "java/lang/invoke/MethodHandle" ∧ mX0_countFixed.2.1.cls ≠ "java/lang/invoke/VarHandle" ∧ (parseMethodDescriptor mX0_countFixed.2.1.desc).map (fun d => d.parameters.length) = some 3) ∧ mX0_countFixed.2.2.2.1 ≤ 21 := ⟨tb1 11 rfl rfl, tb3 109 rfl rfl, ⟨by decide +kernel, by decide +kernel, by decide +kernel⟩, by decide +kernel⟩
theorem lkX8_120 : mlK RX8 120 mX0_countFixed 3 := ⟨tb3 106 rfl rfl, lcX0_countFixed⟩
theorem lvX8_120 : mlV RX8 120 mX0_countFixed 0 3 := ⟨lkX8_120, tb3 107 rfl rfl, tb3 108 rfl rfl, rfl⟩
theorem lcX0_load : Cond.initialized mX0_load.2.1.cls ∈ tbg ∧ Cond.code mX0_load.2.1 mX0_load.2.2.1 mX0_load.2.2.2.1 mX0_load.2.2.2.2 ∈ tbg ∧ (mX0_load.2.1.cls ≠ "java/lang/invoke/MethodHandle" ∧ mX0_load.2.1.cls ≠ "java/lang/invoke/VarHandle" ∧ (parseMethodDescriptor mX0_load.2.1.desc).map (fun d => d.parameters.length) = some 1) ∧ mX0_load.2.2.2.1 ≤ 21 := ⟨tb1 11 rfl rfl, tb3 113 rfl rfl, ⟨by decide +kernel, by decide +kernel, by decide +kernel⟩, by decide +kernel⟩
theorem lkX0_23 : mlK RX0 23 mX0_load 1 := ⟨tb3 110 rfl rfl, lcX0_load⟩
theorem lvX0_23 : mlV RX0 23 mX0_load 0 1 := ⟨lkX0_23, tb3 112 rfl rfl, tp1 11 rfl, rfl⟩
theorem lkX0_33 : mlK RX0 33 mX3_restOf 2 := ⟨tb3 114 rfl rfl, lcX3_restOf⟩
theorem lsX0_33 : mlS RX0 33 mX3_restOf 2 := ⟨lkX0_33, tb2 135 rfl rfl⟩
theorem lcX0_clear : Cond.initialized mX0_clear.2.1.cls ∈ tbg ∧ Cond.code mX0_clear.2.1 mX0_clear.2.2.1 mX0_clear.2.2.2.1 mX0_clear.2.2.2.2 ∈ tbg ∧ (mX0_clear.2.1.cls ≠ "java/lang/invoke/MethodHandle" ∧ mX0_clear.2.1.cls ≠ "java/lang/invoke/VarHandle" ∧ (parseMethodDescriptor mX0_clear.2.1.desc).map (fun d => d.parameters.length) = some 1) ∧ mX0_clear.2.2.2.1 ≤ 21 := ⟨tb1 11 rfl rfl, tb3 118 rfl rfl, ⟨by decide +kernel, by decide +kernel, by decide +kernel⟩, by decide +kernel⟩
theorem lkX0_27 : mlK RX0 27 mX0_clear 1 := ⟨tb3 115 rfl rfl, lcX0_clear⟩
theorem lvX0_27 : mlV RX0 27 mX0_clear 0 1 := ⟨lkX0_27, tb3 117 rfl rfl, tp1 12 rfl, rfl⟩
theorem lcX0_findLeast : Cond.initialized mX0_findLeast.2.1.cls ∈ tbg ∧ Cond.code mX0_findLeast.2.1 mX0_findLeast.2.2.1 mX0_findLeast.2.2.2.1 mX0_findLeast.2.2.2.2 ∈ tbg ∧ (mX0_findLeast.2.1.cls ≠ "java/lang/invoke/MethodHandle" ∧ mX0_findLeast.2.1.cls ≠ "java/lang/invoke/VarHandle" ∧ (parseMethodDescriptor mX0_findLeast.2.1.desc).map (fun d => d.parameters.length) = some 1) ∧ mX0_findLeast.2.2.2.1 ≤ 21 := ⟨tb1 11 rfl rfl, tb3 122 rfl rfl, ⟨by decide +kernel, by decide +kernel, by decide +kernel⟩, by decide +kernel⟩
theorem lkX0_39 : mlK RX0 39 mX0_findLeast 1 := ⟨tb3 119 rfl rfl, lcX0_findLeast⟩
theorem lvX0_39 : mlV RX0 39 mX0_findLeast 0 1 := ⟨lkX0_39, tb3 121 rfl rfl, tp1 13 rfl, rfl⟩
theorem lkX0_54 : mlK RX0 54 mX3_commonDivisor 2 := ⟨tb3 123 rfl rfl, lcX3_commonDivisor⟩
theorem lsX0_54 : mlS RX0 54 mX3_commonDivisor 2 := ⟨lkX0_54, tb2 179 rfl rfl⟩
theorem lkX0_64 : mlK RX0 64 mJ9_max_7cf53 2 := ⟨tb3 124 rfl rfl, lcJ9_max_7cf53⟩
theorem lsX0_64 : mlS RX0 64 mJ9_max_7cf53 2 := ⟨lkX0_64, tb2 219 rfl rfl⟩
theorem lcX0_swap : Cond.initialized mX0_swap.2.1.cls ∈ tbg ∧ Cond.code mX0_swap.2.1 mX0_swap.2.2.1 mX0_swap.2.2.2.1 mX0_swap.2.2.2.2 ∈ tbg ∧ (mX0_swap.2.1.cls ≠ "java/lang/invoke/MethodHandle" ∧ mX0_swap.2.1.cls ≠ "java/lang/invoke/VarHandle" ∧ (parseMethodDescriptor mX0_swap.2.1.desc).map (fun d => d.parameters.length) = some 1) ∧ mX0_swap.2.2.2.1 ≤ 21 := ⟨tb1 11 rfl rfl, tb3 128 rfl rfl, ⟨by decide +kernel, by decide +kernel, by decide +kernel⟩, by decide +kernel⟩
theorem lkX0_42 : mlK RX0 42 mX0_swap 1 := ⟨tb3 125 rfl rfl, lcX0_swap⟩
theorem lvX0_42 : mlV RX0 42 mX0_swap 0 1 := ⟨lkX0_42, tb3 127 rfl rfl, tp1 14 rfl, rfl⟩
theorem lcX3_inverse : Cond.initialized mX3_inverse.2.1.cls ∈ tbg ∧ Cond.code mX3_inverse.2.1 mX3_inverse.2.2.1 mX3_inverse.2.2.2.1 mX3_inverse.2.2.2.2 ∈ tbg ∧ (mX3_inverse.2.1.cls ≠ "java/lang/invoke/MethodHandle" ∧ mX3_inverse.2.1.cls ≠ "java/lang/invoke/VarHandle" ∧ (parseMethodDescriptor mX3_inverse.2.1.desc).map (fun d => d.parameters.length) = some 2) ∧ mX3_inverse.2.2.2.1 ≤ 21 := ⟨tb1 14 rfl rfl, tb3 131 rfl rfl, ⟨by decide +kernel, by decide +kernel, by decide +kernel⟩, by decide +kernel⟩
theorem lkX0_46 : mlK RX0 46 mX3_inverse 2 := ⟨tb3 129 rfl rfl, lcX3_inverse⟩
theorem lsX0_46 : mlS RX0 46 mX3_inverse 2 := ⟨lkX0_46, tb3 130 rfl rfl⟩
theorem lkX3_15 : mlK RX3 15 mX3_restOf 2 := ⟨tb3 132 rfl rfl, lcX3_restOf⟩
theorem lsX3_15 : mlS RX3 15 mX3_restOf 2 := ⟨lkX3_15, tb2 135 rfl rfl⟩
theorem lcX0_takeOff : Cond.initialized mX0_takeOff.2.1.cls ∈ tbg ∧ Cond.code mX0_takeOff.2.1 mX0_takeOff.2.2.1 mX0_takeOff.2.2.2.1 mX0_takeOff.2.2.2.2 ∈ tbg ∧ (mX0_takeOff.2.1.cls ≠ "java/lang/invoke/MethodHandle" ∧ mX0_takeOff.2.1.cls ≠ "java/lang/invoke/VarHandle" ∧ (parseMethodDescriptor mX0_takeOff.2.1.desc).map (fun d => d.parameters.length) = some 3) ∧ mX0_takeOff.2.2.2.1 ≤ 21 := ⟨tb1 11 rfl rfl, tb3 136 rfl rfl, ⟨by decide +kernel, by decide +kernel, by decide +kernel⟩, by decide +kernel⟩
theorem lkX0_50 : mlK RX0 50 mX0_takeOff 3 := ⟨tb3 133 rfl rfl, lcX0_takeOff⟩
theorem lvX0_50 : mlV RX0 50 mX0_takeOff 0 3 := ⟨lkX0_50, tb3 135 rfl rfl, tp1 15 rfl, rfl⟩
theorem lcX10_rounds : Cond.initialized mX10_rounds.2.1.cls ∈ tbg ∧ Cond.code mX10_rounds.2.1 mX10_rounds.2.2.1 mX10_rounds.2.2.2.1 mX10_rounds.2.2.2.2 ∈ tbg ∧ (mX10_rounds.2.1.cls ≠ "java/lang/invoke/MethodHandle" ∧ mX10_rounds.2.1.cls ≠ "java/lang/invoke/VarHandle" ∧ (parseMethodDescriptor mX10_rounds.2.1.desc).map (fun d => d.parameters.length) = some 2) ∧ mX10_rounds.2.2.2.1 ≤ 21 := ⟨tb1 1 rfl rfl, tb3 140 rfl rfl, ⟨by decide +kernel, by decide +kernel, by decide +kernel⟩, by decide +kernel⟩
theorem lkL_85 : mlK RL 85 mX10_rounds 2 := ⟨tb3 137 rfl rfl, lcX10_rounds⟩
theorem lvL_85 : mlV RL 85 mX10_rounds 10 2 := ⟨lkL_85, tb3 138 rfl rfl, tb3 139 rfl rfl, rfl⟩
theorem lcX8_platesInRounds : Cond.initialized mX8_platesInRounds.2.1.cls ∈ tbg ∧ Cond.code mX8_platesInRounds.2.1 mX8_platesInRounds.2.2.1 mX8_platesInRounds.2.2.2.1 mX8_platesInRounds.2.2.2.2 ∈ tbg ∧ (mX8_platesInRounds.2.1.cls ≠ "java/lang/invoke/MethodHandle" ∧ mX8_platesInRounds.2.1.cls ≠ "java/lang/invoke/VarHandle" ∧ (parseMethodDescriptor mX8_platesInRounds.2.1.desc).map (fun d => d.parameters.length) = some 1) ∧ mX8_platesInRounds.2.2.2.1 ≤ 21 := ⟨tb1 9 rfl rfl, tb3 145 rfl rfl, ⟨by decide +kernel, by decide +kernel, by decide +kernel⟩, by decide +kernel⟩
theorem lkX10_125 : mlK RX10 125 mX8_platesInRounds 1 := ⟨tb3 142 rfl rfl, lcX8_platesInRounds⟩
theorem lvX10_125 : mlV RX10 125 mX8_platesInRounds 8 1 := ⟨lkX10_125, tb3 143 rfl rfl, tb3 144 rfl rfl, rfl⟩
theorem lcX8_dividedBy : Cond.initialized mX8_dividedBy.2.1.cls ∈ tbg ∧ Cond.code mX8_dividedBy.2.1 mX8_dividedBy.2.2.1 mX8_dividedBy.2.2.2.1 mX8_dividedBy.2.2.2.2 ∈ tbg ∧ (mX8_dividedBy.2.1.cls ≠ "java/lang/invoke/MethodHandle" ∧ mX8_dividedBy.2.1.cls ≠ "java/lang/invoke/VarHandle" ∧ (parseMethodDescriptor mX8_dividedBy.2.1.desc).map (fun d => d.parameters.length) = some 2) ∧ mX8_dividedBy.2.2.2.1 ≤ 21 := ⟨tb1 9 rfl rfl, tb3 149 rfl rfl, ⟨by decide +kernel, by decide +kernel, by decide +kernel⟩, by decide +kernel⟩
theorem lkX8_128 : mlK RX8 128 mX8_dividedBy 2 := ⟨tb3 146 rfl rfl, lcX8_dividedBy⟩
theorem lvX8_128 : mlV RX8 128 mX8_dividedBy 8 2 := ⟨lkX8_128, tb3 148 rfl rfl, tp2 0 rfl, rfl⟩
theorem lkX8_132 : mlK RX8 132 mX8_platesFixed 1 := ⟨tb3 150 rfl rfl, lcX8_platesFixed⟩
theorem lvX8_132 : mlV RX8 132 mX8_platesFixed 8 1 := ⟨lkX8_132, tb3 95 rfl rfl, tb3 96 rfl rfl, rfl⟩
theorem lcJ6_bitCount_0f7a4 : Cond.initialized mJ6_bitCount_0f7a4.2.1.cls ∈ tbg ∧ Cond.code mJ6_bitCount_0f7a4.2.1 mJ6_bitCount_0f7a4.2.2.1 mJ6_bitCount_0f7a4.2.2.2.1 mJ6_bitCount_0f7a4.2.2.2.2 ∈ tbg ∧ (mJ6_bitCount_0f7a4.2.1.cls ≠ "java/lang/invoke/MethodHandle" ∧ mJ6_bitCount_0f7a4.2.1.cls ≠ "java/lang/invoke/VarHandle" ∧ (parseMethodDescriptor mJ6_bitCount_0f7a4.2.1.desc).map (fun d => d.parameters.length) = some 1) ∧ mJ6_bitCount_0f7a4.2.2.2.1 ≤ 21 := ⟨tb1 16 rfl rfl, tb3 153 rfl rfl, ⟨by decide +kernel, by decide +kernel, by decide +kernel⟩, by decide +kernel⟩
theorem lkX8_136 : mlK RX8 136 mJ6_bitCount_0f7a4 1 := ⟨tb3 151 rfl rfl, lcJ6_bitCount_0f7a4⟩
theorem lsX8_136 : mlS RX8 136 mJ6_bitCount_0f7a4 1 := ⟨lkX8_136, tb3 152 rfl rfl⟩
theorem lcX10_part : Cond.initialized mX10_part.2.1.cls ∈ tbg ∧ Cond.code mX10_part.2.1 mX10_part.2.2.1 mX10_part.2.2.2.1 mX10_part.2.2.2.2 ∈ tbg ∧ (mX10_part.2.1.cls ≠ "java/lang/invoke/MethodHandle" ∧ mX10_part.2.1.cls ≠ "java/lang/invoke/VarHandle" ∧ (parseMethodDescriptor mX10_part.2.1.desc).map (fun d => d.parameters.length) = some 3) ∧ mX10_part.2.2.2.1 ≤ 21 := ⟨tb1 1 rfl rfl, tb3 160 rfl rfl, ⟨by decide +kernel, by decide +kernel, by decide +kernel⟩, by decide +kernel⟩
theorem lkL_89 : mlK RL 89 mX10_part 3 := ⟨tb3 157 rfl rfl, lcX10_part⟩
theorem lvL_89 : mlV RL 89 mX10_part 10 3 := ⟨lkL_89, tb3 158 rfl rfl, tb3 159 rfl rfl, rfl⟩
theorem lcX1_partAt : Cond.initialized mX1_partAt.2.1.cls ∈ tbg ∧ Cond.code mX1_partAt.2.1 mX1_partAt.2.2.1 mX1_partAt.2.2.2.1 mX1_partAt.2.2.2.2 ∈ tbg ∧ (mX1_partAt.2.1.cls ≠ "java/lang/invoke/MethodHandle" ∧ mX1_partAt.2.1.cls ≠ "java/lang/invoke/VarHandle" ∧ (parseMethodDescriptor mX1_partAt.2.1.desc).map (fun d => d.parameters.length) = some 1) ∧ mX1_partAt.2.2.2.1 ≤ 21 := ⟨tb1 4 rfl rfl, tb3 164 rfl rfl, ⟨by decide +kernel, by decide +kernel, by decide +kernel⟩, by decide +kernel⟩
theorem lkX10_128 : mlK RX10 128 mX1_partAt 1 := ⟨tb3 161 rfl rfl, lcX1_partAt⟩
theorem lvX10_128 : mlV RX10 128 mX1_partAt 1 1 := ⟨lkX10_128, tb3 162 rfl rfl, tb3 163 rfl rfl, rfl⟩
theorem lkX1_118 : mlK RX1 118 mX1_partCount 0 := ⟨tb3 165 rfl rfl, lcX1_partCount⟩
theorem lvX1_118 : mlV RX1 118 mX1_partCount 1 0 := ⟨lkX1_118, tb2 182 rfl rfl, tb2 183 rfl rfl, rfl⟩
theorem lcX10_split : Cond.initialized mX10_split.2.1.cls ∈ tbg ∧ Cond.code mX10_split.2.1 mX10_split.2.2.1 mX10_split.2.2.2.1 mX10_split.2.2.2.2 ∈ tbg ∧ (mX10_split.2.1.cls ≠ "java/lang/invoke/MethodHandle" ∧ mX10_split.2.1.cls ≠ "java/lang/invoke/VarHandle" ∧ (parseMethodDescriptor mX10_split.2.1.desc).map (fun d => d.parameters.length) = some 3) ∧ mX10_split.2.2.2.1 ≤ 21 := ⟨tb1 1 rfl rfl, tb3 169 rfl rfl, ⟨by decide +kernel, by decide +kernel, by decide +kernel⟩, by decide +kernel⟩
theorem lkL_93 : mlK RL 93 mX10_split 3 := ⟨tb3 166 rfl rfl, lcX10_split⟩
theorem lvL_93 : mlV RL 93 mX10_split 10 3 := ⟨lkL_93, tb3 167 rfl rfl, tb3 168 rfl rfl, rfl⟩
theorem lcX10_join : Cond.initialized mX10_join.2.1.cls ∈ tbg ∧ Cond.code mX10_join.2.1 mX10_join.2.2.1 mX10_join.2.2.2.1 mX10_join.2.2.2.2 ∈ tbg ∧ (mX10_join.2.1.cls ≠ "java/lang/invoke/MethodHandle" ∧ mX10_join.2.1.cls ≠ "java/lang/invoke/VarHandle" ∧ (parseMethodDescriptor mX10_join.2.1.desc).map (fun d => d.parameters.length) = some 4) ∧ mX10_join.2.2.2.1 ≤ 21 := ⟨tb1 1 rfl rfl, tb3 173 rfl rfl, ⟨by decide +kernel, by decide +kernel, by decide +kernel⟩, by decide +kernel⟩
theorem lkL_97 : mlK RL 97 mX10_join 4 := ⟨tb3 170 rfl rfl, lcX10_join⟩
theorem lvL_97 : mlV RL 97 mX10_join 10 4 := ⟨lkL_97, tb3 171 rfl rfl, tb3 172 rfl rfl, rfl⟩
theorem lcX4_joined : Cond.initialized mX4_joined.2.1.cls ∈ tbg ∧ Cond.code mX4_joined.2.1 mX4_joined.2.2.1 mX4_joined.2.2.2.1 mX4_joined.2.2.2.2 ∈ tbg ∧ (mX4_joined.2.1.cls ≠ "java/lang/invoke/MethodHandle" ∧ mX4_joined.2.1.cls ≠ "java/lang/invoke/VarHandle" ∧ (parseMethodDescriptor mX4_joined.2.1.desc).map (fun d => d.parameters.length) = some 3) ∧ mX4_joined.2.2.2.1 ≤ 21 := ⟨tb1 7 rfl rfl, tb3 177 rfl rfl, ⟨by decide +kernel, by decide +kernel, by decide +kernel⟩, by decide +kernel⟩
theorem lkX10_143 : mlK RX10 143 mX4_joined 3 := ⟨tb3 174 rfl rfl, lcX4_joined⟩
theorem lvX10_143 : mlV RX10 143 mX4_joined 4 3 := ⟨lkX10_143, tb3 175 rfl rfl, tb3 176 rfl rfl, rfl⟩
theorem lkX4_22 : mlK RX4 22 mX3_restOf 2 := ⟨tb3 178 rfl rfl, lcX3_restOf⟩
theorem lsX4_22 : mlS RX4 22 mX3_restOf 2 := ⟨lkX4_22, tb2 135 rfl rfl⟩
theorem lkX4_28 : mlK RX4 28 mX3_inverse 2 := ⟨tb3 179 rfl rfl, lcX3_inverse⟩
theorem lsX4_28 : mlS RX4 28 mX3_inverse 2 := ⟨lkX4_28, tb3 130 rfl rfl⟩
theorem lcX10_all : Cond.initialized mX10_all.2.1.cls ∈ tbg ∧ Cond.code mX10_all.2.1 mX10_all.2.2.1 mX10_all.2.2.2.1 mX10_all.2.2.2.2 ∈ tbg ∧ (mX10_all.2.1.cls ≠ "java/lang/invoke/MethodHandle" ∧ mX10_all.2.1.cls ≠ "java/lang/invoke/VarHandle" ∧ (parseMethodDescriptor mX10_all.2.1.desc).map (fun d => d.parameters.length) = some 1) ∧ mX10_all.2.2.2.1 ≤ 21 := ⟨tb1 1 rfl rfl, tb3 183 rfl rfl, ⟨by decide +kernel, by decide +kernel, by decide +kernel⟩, by decide +kernel⟩
theorem lkL_101 : mlK RL 101 mX10_all 1 := ⟨tb3 180 rfl rfl, lcX10_all⟩
theorem lvL_101 : mlV RL 101 mX10_all 10 1 := ⟨lkL_101, tb3 181 rfl rfl, tb3 182 rfl rfl, rfl⟩
theorem lcX10_millOf : Cond.initialized mX10_millOf.2.1.cls ∈ tbg ∧ Cond.code mX10_millOf.2.1 mX10_millOf.2.2.1 mX10_millOf.2.2.2.1 mX10_millOf.2.2.2.2 ∈ tbg ∧ (mX10_millOf.2.1.cls ≠ "java/lang/invoke/MethodHandle" ∧ mX10_millOf.2.1.cls ≠ "java/lang/invoke/VarHandle" ∧ (parseMethodDescriptor mX10_millOf.2.1.desc).map (fun d => d.parameters.length) = some 2) ∧ mX10_millOf.2.2.2.1 ≤ 21 := ⟨tb1 1 rfl rfl, tb3 187 rfl rfl, ⟨by decide +kernel, by decide +kernel, by decide +kernel⟩, by decide +kernel⟩
theorem lkX10_147 : mlK RX10 147 mX10_millOf 2 := ⟨tb3 184 rfl rfl, lcX10_millOf⟩
theorem lvX10_147 : mlV RX10 147 mX10_millOf 10 2 := ⟨lkX10_147, tb3 186 rfl rfl, tp2 1 rfl, rfl⟩
theorem lcX1_oneRoundHoldsAll : Cond.initialized mX1_oneRoundHoldsAll.2.1.cls ∈ tbg ∧ Cond.code mX1_oneRoundHoldsAll.2.1 mX1_oneRoundHoldsAll.2.2.1 mX1_oneRoundHoldsAll.2.2.2.1 mX1_oneRoundHoldsAll.2.2.2.2 ∈ tbg ∧ (mX1_oneRoundHoldsAll.2.1.cls ≠ "java/lang/invoke/MethodHandle" ∧ mX1_oneRoundHoldsAll.2.1.cls ≠ "java/lang/invoke/VarHandle" ∧ (parseMethodDescriptor mX1_oneRoundHoldsAll.2.1.desc).map (fun d => d.parameters.length) = some 0) ∧ mX1_oneRoundHoldsAll.2.2.2.1 ≤ 21 := ⟨tb1 4 rfl rfl, tb3 191 rfl rfl, ⟨by decide +kernel, by decide +kernel, by decide +kernel⟩, by decide +kernel⟩
theorem lkX10_151 : mlK RX10 151 mX1_oneRoundHoldsAll 0 := ⟨tb3 188 rfl rfl, lcX1_oneRoundHoldsAll⟩
theorem lvX10_151 : mlV RX10 151 mX1_oneRoundHoldsAll 1 0 := ⟨lkX10_151, tb3 189 rfl rfl, tb3 190 rfl rfl, rfl⟩
theorem lcX10_shortest : Cond.initialized mX10_shortest.2.1.cls ∈ tbg ∧ Cond.code mX10_shortest.2.1 mX10_shortest.2.2.1 mX10_shortest.2.2.2.1 mX10_shortest.2.2.2.2 ∈ tbg ∧ (mX10_shortest.2.1.cls ≠ "java/lang/invoke/MethodHandle" ∧ mX10_shortest.2.1.cls ≠ "java/lang/invoke/VarHandle" ∧ (parseMethodDescriptor mX10_shortest.2.1.desc).map (fun d => d.parameters.length) = some 2) ∧ mX10_shortest.2.2.2.1 ≤ 21 := ⟨tb1 1 rfl rfl, tb3 195 rfl rfl, ⟨by decide +kernel, by decide +kernel, by decide +kernel⟩, by decide +kernel⟩
theorem lkL_105 : mlK RL 105 mX10_shortest 2 := ⟨tb3 192 rfl rfl, lcX10_shortest⟩
theorem lvL_105 : mlV RL 105 mX10_shortest 10 2 := ⟨lkL_105, tb3 193 rfl rfl, tb3 194 rfl rfl, rfl⟩
theorem lcX2_find : Cond.initialized mX2_find.2.1.cls ∈ tbg ∧ Cond.code mX2_find.2.1 mX2_find.2.2.1 mX2_find.2.2.2.1 mX2_find.2.2.2.2 ∈ tbg ∧ (mX2_find.2.1.cls ≠ "java/lang/invoke/MethodHandle" ∧ mX2_find.2.1.cls ≠ "java/lang/invoke/VarHandle" ∧ (parseMethodDescriptor mX2_find.2.1.desc).map (fun d => d.parameters.length) = some 3) ∧ mX2_find.2.2.2.1 ≤ 21 := ⟨tb1 5 rfl rfl, tb3 199 rfl rfl, ⟨by decide +kernel, by decide +kernel, by decide +kernel⟩, by decide +kernel⟩
theorem lkX10_158 : mlK RX10 158 mX2_find 3 := ⟨tb3 196 rfl rfl, lcX2_find⟩
theorem lvX10_158 : mlV RX10 158 mX2_find 2 3 := ⟨lkX10_158, tb3 197 rfl rfl, tb3 198 rfl rfl, rfl⟩
theorem lkX2_29 : mlK RX2 29 mX3_restOf 2 := ⟨tb3 203 rfl rfl, lcX3_restOf⟩
theorem lsX2_29 : mlS RX2 29 mX3_restOf 2 := ⟨lkX2_29, tb2 135 rfl rfl⟩
theorem lcX2_take : Cond.initialized mX2_take.2.1.cls ∈ tbg ∧ Cond.code mX2_take.2.1 mX2_take.2.2.1 mX2_take.2.2.2.1 mX2_take.2.2.2.2 ∈ tbg ∧ (mX2_take.2.1.cls ≠ "java/lang/invoke/MethodHandle" ∧ mX2_take.2.1.cls ≠ "java/lang/invoke/VarHandle" ∧ (parseMethodDescriptor mX2_take.2.1.desc).map (fun d => d.parameters.length) = some 0) ∧ mX2_take.2.2.2.1 ≤ 21 := ⟨tb1 5 rfl rfl, tb3 207 rfl rfl, ⟨by decide +kernel, by decide +kernel, by decide +kernel⟩, by decide +kernel⟩
theorem lkX2_35 : mlK RX2 35 mX2_take 0 := ⟨tb3 204 rfl rfl, lcX2_take⟩
theorem lvX2_35 : mlV RX2 35 mX2_take 2 0 := ⟨lkX2_35, tb3 206 rfl rfl, tp2 2 rfl, rfl⟩
theorem lcX2_startsAboveNought : Cond.initialized mX2_startsAboveNought.2.1.cls ∈ tbg ∧ Cond.code mX2_startsAboveNought.2.1 mX2_startsAboveNought.2.2.1 mX2_startsAboveNought.2.2.2.1 mX2_startsAboveNought.2.2.2.2 ∈ tbg ∧ (mX2_startsAboveNought.2.1.cls ≠ "java/lang/invoke/MethodHandle" ∧ mX2_startsAboveNought.2.1.cls ≠ "java/lang/invoke/VarHandle" ∧ (parseMethodDescriptor mX2_startsAboveNought.2.1.desc).map (fun d => d.parameters.length) = some 0) ∧ mX2_startsAboveNought.2.2.2.1 ≤ 21 := ⟨tb1 5 rfl rfl, tb3 211 rfl rfl, ⟨by decide +kernel, by decide +kernel, by decide +kernel⟩, by decide +kernel⟩
theorem lkX2_38 : mlK RX2 38 mX2_startsAboveNought 0 := ⟨tb3 208 rfl rfl, lcX2_startsAboveNought⟩
theorem lvX2_38 : mlV RX2 38 mX2_startsAboveNought 2 0 := ⟨lkX2_38, tb3 210 rfl rfl, tp2 3 rfl, rfl⟩
theorem lcX2_comesFirst : Cond.initialized mX2_comesFirst.2.1.cls ∈ tbg ∧ Cond.code mX2_comesFirst.2.1 mX2_comesFirst.2.2.1 mX2_comesFirst.2.2.2.1 mX2_comesFirst.2.2.2.2 ∈ tbg ∧ (mX2_comesFirst.2.1.cls ≠ "java/lang/invoke/MethodHandle" ∧ mX2_comesFirst.2.1.cls ≠ "java/lang/invoke/VarHandle" ∧ (parseMethodDescriptor mX2_comesFirst.2.1.desc).map (fun d => d.parameters.length) = some 0) ∧ mX2_comesFirst.2.2.2.1 ≤ 21 := ⟨tb1 5 rfl rfl, tb3 215 rfl rfl, ⟨by decide +kernel, by decide +kernel, by decide +kernel⟩, by decide +kernel⟩
theorem lkX2_42 : mlK RX2 42 mX2_comesFirst 0 := ⟨tb3 212 rfl rfl, lcX2_comesFirst⟩
theorem lvX2_42 : mlV RX2 42 mX2_comesFirst 2 0 := ⟨lkX2_42, tb3 214 rfl rfl, tp2 4 rfl, rfl⟩
theorem lcX10_line : Cond.initialized mX10_line.2.1.cls ∈ tbg ∧ Cond.code mX10_line.2.1 mX10_line.2.2.1 mX10_line.2.2.2.1 mX10_line.2.2.2.2 ∈ tbg ∧ (mX10_line.2.1.cls ≠ "java/lang/invoke/MethodHandle" ∧ mX10_line.2.1.cls ≠ "java/lang/invoke/VarHandle" ∧ (parseMethodDescriptor mX10_line.2.1.desc).map (fun d => d.parameters.length) = some 3) ∧ mX10_line.2.2.2.1 ≤ 21 := ⟨tb1 1 rfl rfl, tb3 220 rfl rfl, ⟨by decide +kernel, by decide +kernel, by decide +kernel⟩, by decide +kernel⟩
theorem lkL_109 : mlK RL 109 mX10_line 3 := ⟨tb3 217 rfl rfl, lcX10_line⟩
theorem lvL_109 : mlV RL 109 mX10_line 10 3 := ⟨lkL_109, tb3 218 rfl rfl, tb3 219 rfl rfl, rfl⟩
theorem lcX10_paint : Cond.initialized mX10_paint.2.1.cls ∈ tbg ∧ Cond.code mX10_paint.2.1 mX10_paint.2.2.1 mX10_paint.2.2.2.1 mX10_paint.2.2.2.2 ∈ tbg ∧ (mX10_paint.2.1.cls ≠ "java/lang/invoke/MethodHandle" ∧ mX10_paint.2.1.cls ≠ "java/lang/invoke/VarHandle" ∧ (parseMethodDescriptor mX10_paint.2.1.desc).map (fun d => d.parameters.length) = some 4) ∧ mX10_paint.2.2.2.1 ≤ 21 := ⟨tb1 1 rfl rfl, tb3 224 rfl rfl, ⟨by decide +kernel, by decide +kernel, by decide +kernel⟩, by decide +kernel⟩
theorem lkL_113 : mlK RL 113 mX10_paint 4 := ⟨tb3 221 rfl rfl, lcX10_paint⟩
theorem lvL_113 : mlV RL 113 mX10_paint 10 4 := ⟨lkL_113, tb3 222 rfl rfl, tb3 223 rfl rfl, rfl⟩
theorem lcX5_has : Cond.initialized mX5_has.2.1.cls ∈ tbg ∧ Cond.code mX5_has.2.1 mX5_has.2.2.1 mX5_has.2.2.2.1 mX5_has.2.2.2.2 ∈ tbg ∧ (mX5_has.2.1.cls ≠ "java/lang/invoke/MethodHandle" ∧ mX5_has.2.1.cls ≠ "java/lang/invoke/VarHandle" ∧ (parseMethodDescriptor mX5_has.2.1.desc).map (fun d => d.parameters.length) = some 2) ∧ mX5_has.2.2.2.1 ≤ 21 := ⟨tb1 6 rfl rfl, tb3 228 rfl rfl, ⟨by decide +kernel, by decide +kernel, by decide +kernel⟩, by decide +kernel⟩
theorem lkX10_173 : mlK RX10 173 mX5_has 2 := ⟨tb3 225 rfl rfl, lcX5_has⟩
theorem lvX10_173 : mlV RX10 173 mX5_has 5 2 := ⟨lkX10_173, tb3 226 rfl rfl, tb3 227 rfl rfl, rfl⟩
theorem lcX5_place : Cond.initialized mX5_place.2.1.cls ∈ tbg ∧ Cond.code mX5_place.2.1 mX5_place.2.2.1 mX5_place.2.2.2.1 mX5_place.2.2.2.2 ∈ tbg ∧ (mX5_place.2.1.cls ≠ "java/lang/invoke/MethodHandle" ∧ mX5_place.2.1.cls ≠ "java/lang/invoke/VarHandle" ∧ (parseMethodDescriptor mX5_place.2.1.desc).map (fun d => d.parameters.length) = some 2) ∧ mX5_place.2.2.2.1 ≤ 21 := ⟨tb1 6 rfl rfl, tb3 232 rfl rfl, ⟨by decide +kernel, by decide +kernel, by decide +kernel⟩, by decide +kernel⟩
theorem lkX10_182 : mlK RX10 182 mX5_place 2 := ⟨tb3 229 rfl rfl, lcX5_place⟩
theorem lvX10_182 : mlV RX10 182 mX5_place 5 2 := ⟨lkX10_182, tb3 230 rfl rfl, tb3 231 rfl rfl, rfl⟩
theorem lcX10_picture : Cond.initialized mX10_picture.2.1.cls ∈ tbg ∧ Cond.code mX10_picture.2.1 mX10_picture.2.2.1 mX10_picture.2.2.2.1 mX10_picture.2.2.2.2 ∈ tbg ∧ (mX10_picture.2.1.cls ≠ "java/lang/invoke/MethodHandle" ∧ mX10_picture.2.1.cls ≠ "java/lang/invoke/VarHandle" ∧ (parseMethodDescriptor mX10_picture.2.1.desc).map (fun d => d.parameters.length) = some 3) ∧ mX10_picture.2.2.2.1 ≤ 21 := ⟨tb1 1 rfl rfl, tb3 236 rfl rfl, ⟨by decide +kernel, by decide +kernel, by decide +kernel⟩, by decide +kernel⟩
theorem lkL_117 : mlK RL 117 mX10_picture 3 := ⟨tb3 233 rfl rfl, lcX10_picture⟩
theorem lvL_117 : mlV RL 117 mX10_picture 10 3 := ⟨lkL_117, tb3 234 rfl rfl, tb3 235 rfl rfl, rfl⟩
theorem lcX10_move : Cond.initialized mX10_move.2.1.cls ∈ tbg ∧ Cond.code mX10_move.2.1 mX10_move.2.2.1 mX10_move.2.2.2.1 mX10_move.2.2.2.2 ∈ tbg ∧ (mX10_move.2.1.cls ≠ "java/lang/invoke/MethodHandle" ∧ mX10_move.2.1.cls ≠ "java/lang/invoke/VarHandle" ∧ (parseMethodDescriptor mX10_move.2.1.desc).map (fun d => d.parameters.length) = some 2) ∧ mX10_move.2.2.2.1 ≤ 21 := ⟨tb1 1 rfl rfl, tb4 0 rfl rfl, ⟨by decide +kernel, by decide +kernel, by decide +kernel⟩, by decide +kernel⟩
theorem lkL_121 : mlK RL 121 mX10_move 2 := ⟨tb3 237 rfl rfl, lcX10_move⟩
theorem lvL_121 : mlV RL 121 mX10_move 10 2 := ⟨lkL_121, tb3 238 rfl rfl, tb3 239 rfl rfl, rfl⟩
theorem lkX10_185 : mlK RX10 185 mX8_stepOf 1 := ⟨tb4 1 rfl rfl, lcX8_stepOf⟩
theorem lvX10_185 : mlV RX10 185 mX8_stepOf 8 1 := ⟨lkX10_185, tb3 99 rfl rfl, tb3 100 rfl rfl, rfl⟩
theorem lcX5_moveBy : Cond.initialized mX5_moveBy.2.1.cls ∈ tbg ∧ Cond.code mX5_moveBy.2.1 mX5_moveBy.2.2.1 mX5_moveBy.2.2.2.1 mX5_moveBy.2.2.2.2 ∈ tbg ∧ (mX5_moveBy.2.1.cls ≠ "java/lang/invoke/MethodHandle" ∧ mX5_moveBy.2.1.cls ≠ "java/lang/invoke/VarHandle" ∧ (parseMethodDescriptor mX5_moveBy.2.1.desc).map (fun d => d.parameters.length) = some 2) ∧ mX5_moveBy.2.2.2.1 ≤ 21 := ⟨tb1 6 rfl rfl, tb4 5 rfl rfl, ⟨by decide +kernel, by decide +kernel, by decide +kernel⟩, by decide +kernel⟩
theorem lkX10_189 : mlK RX10 189 mX5_moveBy 2 := ⟨tb4 2 rfl rfl, lcX5_moveBy⟩
theorem lvX10_189 : mlV RX10 189 mX5_moveBy 5 2 := ⟨lkX10_189, tb4 3 rfl rfl, tb4 4 rfl rfl, rfl⟩
theorem lcX5_startOf : Cond.initialized mX5_startOf.2.1.cls ∈ tbg ∧ Cond.code mX5_startOf.2.1 mX5_startOf.2.2.1 mX5_startOf.2.2.2.1 mX5_startOf.2.2.2.2 ∈ tbg ∧ (mX5_startOf.2.1.cls ≠ "java/lang/invoke/MethodHandle" ∧ mX5_startOf.2.1.cls ≠ "java/lang/invoke/VarHandle" ∧ (parseMethodDescriptor mX5_startOf.2.1.desc).map (fun d => d.parameters.length) = some 3) ∧ mX5_startOf.2.2.2.1 ≤ 21 := ⟨tb1 6 rfl rfl, tb4 9 rfl rfl, ⟨by decide +kernel, by decide +kernel, by decide +kernel⟩, by decide +kernel⟩
theorem lkX5_31 : mlK RX5 31 mX5_startOf 3 := ⟨tb4 6 rfl rfl, lcX5_startOf⟩
theorem lvX5_31 : mlV RX5 31 mX5_startOf 5 3 := ⟨lkX5_31, tb4 8 rfl rfl, tp2 5 rfl, rfl⟩
theorem lkX5_43 : mlK RX5 43 mX3_restOf 2 := ⟨tb4 10 rfl rfl, lcX3_restOf⟩
theorem lsX5_43 : mlS RX5 43 mX3_restOf 2 := ⟨lkX5_43, tb2 135 rfl rfl⟩
theorem lcX10_seen : Cond.initialized mX10_seen.2.1.cls ∈ tbg ∧ Cond.code mX10_seen.2.1 mX10_seen.2.2.1 mX10_seen.2.2.2.1 mX10_seen.2.2.2.2 ∈ tbg ∧ (mX10_seen.2.1.cls ≠ "java/lang/invoke/MethodHandle" ∧ mX10_seen.2.1.cls ≠ "java/lang/invoke/VarHandle" ∧ (parseMethodDescriptor mX10_seen.2.1.desc).map (fun d => d.parameters.length) = some 1) ∧ mX10_seen.2.2.2.1 ≤ 21 := ⟨tb1 1 rfl rfl, tb4 15 rfl rfl, ⟨by decide +kernel, by decide +kernel, by decide +kernel⟩, by decide +kernel⟩
theorem lkL_125 : mlK RL 125 mX10_seen 1 := ⟨tb4 12 rfl rfl, lcX10_seen⟩
theorem lvL_125 : mlV RL 125 mX10_seen 10 1 := ⟨lkL_125, tb4 13 rfl rfl, tb4 14 rfl rfl, rfl⟩
theorem lcX8_turnsToLookAlike : Cond.initialized mX8_turnsToLookAlike.2.1.cls ∈ tbg ∧ Cond.code mX8_turnsToLookAlike.2.1 mX8_turnsToLookAlike.2.2.1 mX8_turnsToLookAlike.2.2.2.1 mX8_turnsToLookAlike.2.2.2.2 ∈ tbg ∧ (mX8_turnsToLookAlike.2.1.cls ≠ "java/lang/invoke/MethodHandle" ∧ mX8_turnsToLookAlike.2.1.cls ≠ "java/lang/invoke/VarHandle" ∧ (parseMethodDescriptor mX8_turnsToLookAlike.2.1.desc).map (fun d => d.parameters.length) = some 1) ∧ mX8_turnsToLookAlike.2.2.2.1 ≤ 21 := ⟨tb1 9 rfl rfl, tb4 19 rfl rfl, ⟨by decide +kernel, by decide +kernel, by decide +kernel⟩, by decide +kernel⟩
theorem lkX10_193 : mlK RX10 193 mX8_turnsToLookAlike 1 := ⟨tb4 16 rfl rfl, lcX8_turnsToLookAlike⟩
theorem lvX10_193 : mlV RX10 193 mX8_turnsToLookAlike 8 1 := ⟨lkX10_193, tb4 17 rfl rfl, tb4 18 rfl rfl, rfl⟩
theorem lcX5_looksAlike : Cond.initialized mX5_looksAlike.2.1.cls ∈ tbg ∧ Cond.code mX5_looksAlike.2.1 mX5_looksAlike.2.2.1 mX5_looksAlike.2.2.2.1 mX5_looksAlike.2.2.2.2 ∈ tbg ∧ (mX5_looksAlike.2.1.cls ≠ "java/lang/invoke/MethodHandle" ∧ mX5_looksAlike.2.1.cls ≠ "java/lang/invoke/VarHandle" ∧ (parseMethodDescriptor mX5_looksAlike.2.1.desc).map (fun d => d.parameters.length) = some 1) ∧ mX5_looksAlike.2.2.2.1 ≤ 21 := ⟨tb1 6 rfl rfl, tb4 23 rfl rfl, ⟨by decide +kernel, by decide +kernel, by decide +kernel⟩, by decide +kernel⟩
theorem lkX8_111 : mlK RX8 111 mX5_looksAlike 1 := ⟨tb4 20 rfl rfl, lcX5_looksAlike⟩
theorem lvX8_111 : mlV RX8 111 mX5_looksAlike 5 1 := ⟨lkX8_111, tb4 21 rfl rfl, tb4 22 rfl rfl, rfl⟩
theorem lcX10_begin : Cond.initialized mX10_begin.2.1.cls ∈ tbg ∧ Cond.code mX10_begin.2.1 mX10_begin.2.2.1 mX10_begin.2.2.2.1 mX10_begin.2.2.2.2 ∈ tbg ∧ (mX10_begin.2.1.cls ≠ "java/lang/invoke/MethodHandle" ∧ mX10_begin.2.1.cls ≠ "java/lang/invoke/VarHandle" ∧ (parseMethodDescriptor mX10_begin.2.1.desc).map (fun d => d.parameters.length) = some 1) ∧ mX10_begin.2.2.2.1 ≤ 21 := ⟨tb1 1 rfl rfl, tb4 27 rfl rfl, ⟨by decide +kernel, by decide +kernel, by decide +kernel⟩, by decide +kernel⟩
theorem lkL_129 : mlK RL 129 mX10_begin 1 := ⟨tb4 24 rfl rfl, lcX10_begin⟩
theorem lvL_129 : mlV RL 129 mX10_begin 10 1 := ⟨lkL_129, tb4 25 rfl rfl, tb4 26 rfl rfl, rfl⟩
theorem lcX3_isTellingPrime : Cond.initialized mX3_isTellingPrime.2.1.cls ∈ tbg ∧ Cond.code mX3_isTellingPrime.2.1 mX3_isTellingPrime.2.2.1 mX3_isTellingPrime.2.2.2.1 mX3_isTellingPrime.2.2.2.2 ∈ tbg ∧ (mX3_isTellingPrime.2.1.cls ≠ "java/lang/invoke/MethodHandle" ∧ mX3_isTellingPrime.2.1.cls ≠ "java/lang/invoke/VarHandle" ∧ (parseMethodDescriptor mX3_isTellingPrime.2.1.desc).map (fun d => d.parameters.length) = some 1) ∧ mX3_isTellingPrime.2.2.2.1 ≤ 21 := ⟨tb1 14 rfl rfl, tb4 30 rfl rfl, ⟨by decide +kernel, by decide +kernel, by decide +kernel⟩, by decide +kernel⟩
theorem lkX10_197 : mlK RX10 197 mX3_isTellingPrime 1 := ⟨tb4 28 rfl rfl, lcX3_isTellingPrime⟩
theorem lsX10_197 : mlS RX10 197 mX3_isTellingPrime 1 := ⟨lkX10_197, tb4 29 rfl rfl⟩
theorem lkX10_200 : mlK RX10 200 mX9_clear 1 := ⟨tb4 31 rfl rfl, lcX9_clear⟩
theorem lvX10_200 : mlV RX10 200 mX9_clear 9 1 := ⟨lkX10_200, tb1 37 rfl rfl, tb1 38 rfl rfl, rfl⟩
theorem lcX10_tell : Cond.initialized mX10_tell.2.1.cls ∈ tbg ∧ Cond.code mX10_tell.2.1 mX10_tell.2.2.1 mX10_tell.2.2.2.1 mX10_tell.2.2.2.2 ∈ tbg ∧ (mX10_tell.2.1.cls ≠ "java/lang/invoke/MethodHandle" ∧ mX10_tell.2.1.cls ≠ "java/lang/invoke/VarHandle" ∧ (parseMethodDescriptor mX10_tell.2.1.desc).map (fun d => d.parameters.length) = some 1) ∧ mX10_tell.2.2.2.1 ≤ 21 := ⟨tb1 1 rfl rfl, tb4 35 rfl rfl, ⟨by decide +kernel, by decide +kernel, by decide +kernel⟩, by decide +kernel⟩
theorem lkL_133 : mlK RL 133 mX10_tell 1 := ⟨tb4 32 rfl rfl, lcX10_tell⟩
theorem lvL_133 : mlV RL 133 mX10_tell 10 1 := ⟨lkL_133, tb4 33 rfl rfl, tb4 34 rfl rfl, rfl⟩
theorem lcX9_add : Cond.initialized mX9_add.2.1.cls ∈ tbg ∧ Cond.code mX9_add.2.1 mX9_add.2.2.1 mX9_add.2.2.2.1 mX9_add.2.2.2.2 ∈ tbg ∧ (mX9_add.2.1.cls ≠ "java/lang/invoke/MethodHandle" ∧ mX9_add.2.1.cls ≠ "java/lang/invoke/VarHandle" ∧ (parseMethodDescriptor mX9_add.2.1.desc).map (fun d => d.parameters.length) = some 1) ∧ mX9_add.2.2.2.1 ≤ 21 := ⟨tb1 2 rfl rfl, tb4 39 rfl rfl, ⟨by decide +kernel, by decide +kernel, by decide +kernel⟩, by decide +kernel⟩
theorem lkX10_204 : mlK RX10 204 mX9_add 1 := ⟨tb4 36 rfl rfl, lcX9_add⟩
theorem lvX10_204 : mlV RX10 204 mX9_add 9 1 := ⟨lkX10_204, tb4 37 rfl rfl, tb4 38 rfl rfl, rfl⟩
theorem lkX9_65 : mlK RX9 65 mX3_restOf 2 := ⟨tb4 40 rfl rfl, lcX3_restOf⟩
theorem lsX9_65 : mlS RX9 65 mX3_restOf 2 := ⟨lkX9_65, tb2 135 rfl rfl⟩
theorem lcX9_lengthen : Cond.initialized mX9_lengthen.2.1.cls ∈ tbg ∧ Cond.code mX9_lengthen.2.1 mX9_lengthen.2.2.1 mX9_lengthen.2.2.2.1 mX9_lengthen.2.2.2.2 ∈ tbg ∧ (mX9_lengthen.2.1.cls ≠ "java/lang/invoke/MethodHandle" ∧ mX9_lengthen.2.1.cls ≠ "java/lang/invoke/VarHandle" ∧ (parseMethodDescriptor mX9_lengthen.2.1.desc).map (fun d => d.parameters.length) = some 0) ∧ mX9_lengthen.2.2.2.1 ≤ 21 := ⟨tb1 2 rfl rfl, tb4 44 rfl rfl, ⟨by decide +kernel, by decide +kernel, by decide +kernel⟩, by decide +kernel⟩
theorem lkX9_71 : mlK RX9 71 mX9_lengthen 0 := ⟨tb4 41 rfl rfl, lcX9_lengthen⟩
theorem lvX9_71 : mlV RX9 71 mX9_lengthen 9 0 := ⟨lkX9_71, tb4 43 rfl rfl, tp2 6 rfl, rfl⟩
theorem lkX9_80 : mlK RX9 80 mX3_inverse 2 := ⟨tb4 46 rfl rfl, lcX3_inverse⟩
theorem lsX9_80 : mlS RX9 80 mX3_inverse 2 := ⟨lkX9_80, tb3 130 rfl rfl⟩
theorem lcX10_least : Cond.initialized mX10_least.2.1.cls ∈ tbg ∧ Cond.code mX10_least.2.1 mX10_least.2.2.1 mX10_least.2.2.2.1 mX10_least.2.2.2.2 ∈ tbg ∧ (mX10_least.2.1.cls ≠ "java/lang/invoke/MethodHandle" ∧ mX10_least.2.1.cls ≠ "java/lang/invoke/VarHandle" ∧ (parseMethodDescriptor mX10_least.2.1.desc).map (fun d => d.parameters.length) = some 0) ∧ mX10_least.2.2.2.1 ≤ 21 := ⟨tb1 1 rfl rfl, tb4 50 rfl rfl, ⟨by decide +kernel, by decide +kernel, by decide +kernel⟩, by decide +kernel⟩
theorem lkL_137 : mlK RL 137 mX10_least 0 := ⟨tb4 47 rfl rfl, lcX10_least⟩
theorem lvL_137 : mlV RL 137 mX10_least 10 0 := ⟨lkL_137, tb4 48 rfl rfl, tb4 49 rfl rfl, rfl⟩
theorem lcX10_shown : Cond.initialized mX10_shown.2.1.cls ∈ tbg ∧ Cond.code mX10_shown.2.1 mX10_shown.2.2.1 mX10_shown.2.2.2.1 mX10_shown.2.2.2.2 ∈ tbg ∧ (mX10_shown.2.1.cls ≠ "java/lang/invoke/MethodHandle" ∧ mX10_shown.2.1.cls ≠ "java/lang/invoke/VarHandle" ∧ (parseMethodDescriptor mX10_shown.2.1.desc).map (fun d => d.parameters.length) = some 0) ∧ mX10_shown.2.2.2.1 ≤ 21 := ⟨tb1 1 rfl rfl, tb4 54 rfl rfl, ⟨by decide +kernel, by decide +kernel, by decide +kernel⟩, by decide +kernel⟩
theorem lkL_142 : mlK RL 142 mX10_shown 0 := ⟨tb4 51 rfl rfl, lcX10_shown⟩
theorem lvL_142 : mlV RL 142 mX10_shown 10 0 := ⟨lkL_142, tb4 52 rfl rfl, tb4 53 rfl rfl, rfl⟩
theorem lcX10_rule : Cond.initialized mX10_rule.2.1.cls ∈ tbg ∧ Cond.code mX10_rule.2.1 mX10_rule.2.2.1 mX10_rule.2.2.2.1 mX10_rule.2.2.2.2 ∈ tbg ∧ (mX10_rule.2.1.cls ≠ "java/lang/invoke/MethodHandle" ∧ mX10_rule.2.1.cls ≠ "java/lang/invoke/VarHandle" ∧ (parseMethodDescriptor mX10_rule.2.1.desc).map (fun d => d.parameters.length) = some 1) ∧ mX10_rule.2.2.2.1 ≤ 21 := ⟨tb1 1 rfl rfl, tb4 58 rfl rfl, ⟨by decide +kernel, by decide +kernel, by decide +kernel⟩, by decide +kernel⟩
theorem lkL_146 : mlK RL 146 mX10_rule 1 := ⟨tb4 55 rfl rfl, lcX10_rule⟩
theorem lvL_146 : mlV RL 146 mX10_rule 10 1 := ⟨lkL_146, tb4 56 rfl rfl, tb4 57 rfl rfl, rfl⟩
theorem lcX9_findNumbers : Cond.initialized mX9_findNumbers.2.1.cls ∈ tbg ∧ Cond.code mX9_findNumbers.2.1 mX9_findNumbers.2.2.1 mX9_findNumbers.2.2.2.1 mX9_findNumbers.2.2.2.2 ∈ tbg ∧ (mX9_findNumbers.2.1.cls ≠ "java/lang/invoke/MethodHandle" ∧ mX9_findNumbers.2.1.cls ≠ "java/lang/invoke/VarHandle" ∧ (parseMethodDescriptor mX9_findNumbers.2.1.desc).map (fun d => d.parameters.length) = some 0) ∧ mX9_findNumbers.2.2.2.1 ≤ 21 := ⟨tb1 2 rfl rfl, tb4 62 rfl rfl, ⟨by decide +kernel, by decide +kernel, by decide +kernel⟩, by decide +kernel⟩
theorem lkX10_213 : mlK RX10 213 mX9_findNumbers 0 := ⟨tb4 59 rfl rfl, lcX9_findNumbers⟩
theorem lvX10_213 : mlV RX10 213 mX9_findNumbers 9 0 := ⟨lkX10_213, tb4 60 rfl rfl, tb4 61 rfl rfl, rfl⟩
theorem lcX9_findRow : Cond.initialized mX9_findRow.2.1.cls ∈ tbg ∧ Cond.code mX9_findRow.2.1 mX9_findRow.2.2.1 mX9_findRow.2.2.2.1 mX9_findRow.2.2.2.2 ∈ tbg ∧ (mX9_findRow.2.1.cls ≠ "java/lang/invoke/MethodHandle" ∧ mX9_findRow.2.1.cls ≠ "java/lang/invoke/VarHandle" ∧ (parseMethodDescriptor mX9_findRow.2.1.desc).map (fun d => d.parameters.length) = some 2) ∧ mX9_findRow.2.2.2.1 ≤ 21 := ⟨tb1 2 rfl rfl, tb4 66 rfl rfl, ⟨by decide +kernel, by decide +kernel, by decide +kernel⟩, by decide +kernel⟩
theorem lkX9_84 : mlK RX9 84 mX9_findRow 2 := ⟨tb4 63 rfl rfl, lcX9_findRow⟩
theorem lvX9_84 : mlV RX9 84 mX9_findRow 9 2 := ⟨lkX9_84, tb4 65 rfl rfl, tp2 7 rfl, rfl⟩
theorem lcX9_swap : Cond.initialized mX9_swap.2.1.cls ∈ tbg ∧ Cond.code mX9_swap.2.1 mX9_swap.2.2.1 mX9_swap.2.2.2.1 mX9_swap.2.2.2.2 ∈ tbg ∧ (mX9_swap.2.1.cls ≠ "java/lang/invoke/MethodHandle" ∧ mX9_swap.2.1.cls ≠ "java/lang/invoke/VarHandle" ∧ (parseMethodDescriptor mX9_swap.2.1.desc).map (fun d => d.parameters.length) = some 2) ∧ mX9_swap.2.2.2.1 ≤ 21 := ⟨tb1 2 rfl rfl, tb4 70 rfl rfl, ⟨by decide +kernel, by decide +kernel, by decide +kernel⟩, by decide +kernel⟩
theorem lkX9_87 : mlK RX9 87 mX9_swap 2 := ⟨tb4 67 rfl rfl, lcX9_swap⟩
theorem lvX9_87 : mlV RX9 87 mX9_swap 9 2 := ⟨lkX9_87, tb4 69 rfl rfl, tp2 8 rfl, rfl⟩
theorem lcX9_clearColumn : Cond.initialized mX9_clearColumn.2.1.cls ∈ tbg ∧ Cond.code mX9_clearColumn.2.1 mX9_clearColumn.2.2.1 mX9_clearColumn.2.2.2.1 mX9_clearColumn.2.2.2.2 ∈ tbg ∧ (mX9_clearColumn.2.1.cls ≠ "java/lang/invoke/MethodHandle" ∧ mX9_clearColumn.2.1.cls ≠ "java/lang/invoke/VarHandle" ∧ (parseMethodDescriptor mX9_clearColumn.2.1.desc).map (fun d => d.parameters.length) = some 2) ∧ mX9_clearColumn.2.2.2.1 ≤ 21 := ⟨tb1 2 rfl rfl, tb4 74 rfl rfl, ⟨by decide +kernel, by decide +kernel, by decide +kernel⟩, by decide +kernel⟩
theorem lkX9_91 : mlK RX9 91 mX9_clearColumn 2 := ⟨tb4 71 rfl rfl, lcX9_clearColumn⟩
theorem lvX9_91 : mlV RX9 91 mX9_clearColumn 9 2 := ⟨lkX9_91, tb4 73 rfl rfl, tp2 9 rfl, rfl⟩
theorem lcX10_check : Cond.initialized mX10_check.2.1.cls ∈ tbg ∧ Cond.code mX10_check.2.1 mX10_check.2.2.1 mX10_check.2.2.2.1 mX10_check.2.2.2.2 ∈ tbg ∧ (mX10_check.2.1.cls ≠ "java/lang/invoke/MethodHandle" ∧ mX10_check.2.1.cls ≠ "java/lang/invoke/VarHandle" ∧ (parseMethodDescriptor mX10_check.2.1.desc).map (fun d => d.parameters.length) = some 2) ∧ mX10_check.2.2.2.1 ≤ 21 := ⟨tb1 1 rfl rfl, tb4 78 rfl rfl, ⟨by decide +kernel, by decide +kernel, by decide +kernel⟩, by decide +kernel⟩
theorem lkL_150 : mlK RL 150 mX10_check 2 := ⟨tb4 75 rfl rfl, lcX10_check⟩
theorem lvL_150 : mlV RL 150 mX10_check 10 2 := ⟨lkL_150, tb4 76 rfl rfl, tb4 77 rfl rfl, rfl⟩
theorem lcX11_init : Cond.initialized mX11_init.2.1.cls ∈ tbg ∧ Cond.code mX11_init.2.1 mX11_init.2.2.1 mX11_init.2.2.2.1 mX11_init.2.2.2.2 ∈ tbg ∧ (mX11_init.2.1.cls ≠ "java/lang/invoke/MethodHandle" ∧ mX11_init.2.1.cls ≠ "java/lang/invoke/VarHandle" ∧ (parseMethodDescriptor mX11_init.2.1.desc).map (fun d => d.parameters.length) = some 0) ∧ mX11_init.2.2.2.1 ≤ 21 := ⟨tb1 12 rfl rfl, tb4 83 rfl rfl, ⟨by decide +kernel, by decide +kernel, by decide +kernel⟩, by decide +kernel⟩
theorem lkL_12 : mlK RL 12 mX11_init 0 := ⟨tb4 81 rfl rfl, lcX11_init⟩
theorem liL_12 : mlI RL 12 mX11_init 0 := ⟨lkL_12, tb4 82 rfl rfl, rfl, rfl⟩
theorem lcX11_begins : Cond.initialized mX11_begins.2.1.cls ∈ tbg ∧ Cond.code mX11_begins.2.1 mX11_begins.2.2.1 mX11_begins.2.2.2.1 mX11_begins.2.2.2.2 ∈ tbg ∧ (mX11_begins.2.1.cls ≠ "java/lang/invoke/MethodHandle" ∧ mX11_begins.2.1.cls ≠ "java/lang/invoke/VarHandle" ∧ (parseMethodDescriptor mX11_begins.2.1.desc).map (fun d => d.parameters.length) = some 1) ∧ mX11_begins.2.2.2.1 ≤ 21 := ⟨tb1 12 rfl rfl, tb4 88 rfl rfl, ⟨by decide +kernel, by decide +kernel, by decide +kernel⟩, by decide +kernel⟩
theorem lkX11_100 : mlK RX11 100 mX11_begins 1 := ⟨tb4 85 rfl rfl, lcX11_begins⟩
theorem lvX11_100 : mlV RX11 100 mX11_begins 11 1 := ⟨lkX11_100, tb4 87 rfl rfl, tp2 10 rfl, rfl⟩
theorem lcX11_mill : Cond.initialized mX11_mill.2.1.cls ∈ tbg ∧ Cond.code mX11_mill.2.1 mX11_mill.2.2.1 mX11_mill.2.2.2.1 mX11_mill.2.2.2.2 ∈ tbg ∧ (mX11_mill.2.1.cls ≠ "java/lang/invoke/MethodHandle" ∧ mX11_mill.2.1.cls ≠ "java/lang/invoke/VarHandle" ∧ (parseMethodDescriptor mX11_mill.2.1.desc).map (fun d => d.parameters.length) = some 3) ∧ mX11_mill.2.2.2.1 ≤ 21 := ⟨tb1 12 rfl rfl, tb4 207 rfl rfl, ⟨by decide +kernel, by decide +kernel, by decide +kernel⟩, by decide +kernel⟩
theorem lkL_17 : mlK RL 17 mX11_mill 3 := ⟨tb4 204 rfl rfl, lcX11_mill⟩
theorem lvL_17 : mlV RL 17 mX11_mill 11 3 := ⟨lkL_17, tb4 205 rfl rfl, tb4 206 rfl rfl, rfl⟩
theorem lcX11_drop : Cond.initialized mX11_drop.2.1.cls ∈ tbg ∧ Cond.code mX11_drop.2.1 mX11_drop.2.2.1 mX11_drop.2.2.2.1 mX11_drop.2.2.2.2 ∈ tbg ∧ (mX11_drop.2.1.cls ≠ "java/lang/invoke/MethodHandle" ∧ mX11_drop.2.1.cls ≠ "java/lang/invoke/VarHandle" ∧ (parseMethodDescriptor mX11_drop.2.1.desc).map (fun d => d.parameters.length) = some 1) ∧ mX11_drop.2.2.2.1 ≤ 21 := ⟨tb1 12 rfl rfl, tb4 211 rfl rfl, ⟨by decide +kernel, by decide +kernel, by decide +kernel⟩, by decide +kernel⟩
theorem lkL_22 : mlK RL 22 mX11_drop 1 := ⟨tb4 208 rfl rfl, lcX11_drop⟩
theorem lvL_22 : mlV RL 22 mX11_drop 11 1 := ⟨lkL_22, tb4 209 rfl rfl, tb4 210 rfl rfl, rfl⟩
theorem lcX11_isMill : Cond.initialized mX11_isMill.2.1.cls ∈ tbg ∧ Cond.code mX11_isMill.2.1 mX11_isMill.2.2.1 mX11_isMill.2.2.2.1 mX11_isMill.2.2.2.2 ∈ tbg ∧ (mX11_isMill.2.1.cls ≠ "java/lang/invoke/MethodHandle" ∧ mX11_isMill.2.1.cls ≠ "java/lang/invoke/VarHandle" ∧ (parseMethodDescriptor mX11_isMill.2.1.desc).map (fun d => d.parameters.length) = some 1) ∧ mX11_isMill.2.2.2.1 ≤ 21 := ⟨tb1 12 rfl rfl, tb4 215 rfl rfl, ⟨by decide +kernel, by decide +kernel, by decide +kernel⟩, by decide +kernel⟩
theorem lkX11_108 : mlK RX11 108 mX11_isMill 1 := ⟨tb4 212 rfl rfl, lcX11_isMill⟩
theorem lvX11_108 : mlV RX11 108 mX11_isMill 11 1 := ⟨lkX11_108, tb4 214 rfl rfl, tp2 11 rfl, rfl⟩
theorem lcX11_table : Cond.initialized mX11_table.2.1.cls ∈ tbg ∧ Cond.code mX11_table.2.1 mX11_table.2.2.1 mX11_table.2.2.2.1 mX11_table.2.2.2.2 ∈ tbg ∧ (mX11_table.2.1.cls ≠ "java/lang/invoke/MethodHandle" ∧ mX11_table.2.1.cls ≠ "java/lang/invoke/VarHandle" ∧ (parseMethodDescriptor mX11_table.2.1.desc).map (fun d => d.parameters.length) = some 4) ∧ mX11_table.2.2.2.1 ≤ 21 := ⟨tb1 12 rfl rfl, tb4 219 rfl rfl, ⟨by decide +kernel, by decide +kernel, by decide +kernel⟩, by decide +kernel⟩
theorem lkL_27 : mlK RL 27 mX11_table 4 := ⟨tb4 216 rfl rfl, lcX11_table⟩
theorem lvL_27 : mlV RL 27 mX11_table 11 4 := ⟨lkL_27, tb4 217 rfl rfl, tb4 218 rfl rfl, rfl⟩
theorem lcX11_canTell : Cond.initialized mX11_canTell.2.1.cls ∈ tbg ∧ Cond.code mX11_canTell.2.1 mX11_canTell.2.2.1 mX11_canTell.2.2.2.1 mX11_canTell.2.2.2.2 ∈ tbg ∧ (mX11_canTell.2.1.cls ≠ "java/lang/invoke/MethodHandle" ∧ mX11_canTell.2.1.cls ≠ "java/lang/invoke/VarHandle" ∧ (parseMethodDescriptor mX11_canTell.2.1.desc).map (fun d => d.parameters.length) = some 2) ∧ mX11_canTell.2.2.2.1 ≤ 21 := ⟨tb1 12 rfl rfl, tb4 223 rfl rfl, ⟨by decide +kernel, by decide +kernel, by decide +kernel⟩, by decide +kernel⟩
theorem lkX11_112 : mlK RX11 112 mX11_canTell 2 := ⟨tb4 220 rfl rfl, lcX11_canTell⟩
theorem lvX11_112 : mlV RX11 112 mX11_canTell 11 2 := ⟨lkX11_112, tb4 222 rfl rfl, tp2 12 rfl, rfl⟩
theorem lcX11_restOf : Cond.initialized mX11_restOf.2.1.cls ∈ tbg ∧ Cond.code mX11_restOf.2.1 mX11_restOf.2.2.1 mX11_restOf.2.2.2.1 mX11_restOf.2.2.2.2 ∈ tbg ∧ (mX11_restOf.2.1.cls ≠ "java/lang/invoke/MethodHandle" ∧ mX11_restOf.2.1.cls ≠ "java/lang/invoke/VarHandle" ∧ (parseMethodDescriptor mX11_restOf.2.1.desc).map (fun d => d.parameters.length) = some 2) ∧ mX11_restOf.2.2.2.1 ≤ 21 := ⟨tb1 12 rfl rfl, tb4 226 rfl rfl, ⟨by decide +kernel, by decide +kernel, by decide +kernel⟩, by decide +kernel⟩
theorem lkX11_116 : mlK RX11 116 mX11_restOf 2 := ⟨tb4 224 rfl rfl, lcX11_restOf⟩
theorem lsX11_116 : mlS RX11 116 mX11_restOf 2 := ⟨lkX11_116, tb4 225 rfl rfl⟩
theorem lcX11_more : Cond.initialized mX11_more.2.1.cls ∈ tbg ∧ Cond.code mX11_more.2.1 mX11_more.2.2.1 mX11_more.2.2.2.1 mX11_more.2.2.2.2 ∈ tbg ∧ (mX11_more.2.1.cls ≠ "java/lang/invoke/MethodHandle" ∧ mX11_more.2.1.cls ≠ "java/lang/invoke/VarHandle" ∧ (parseMethodDescriptor mX11_more.2.1.desc).map (fun d => d.parameters.length) = some 3) ∧ mX11_more.2.2.2.1 ≤ 21 := ⟨tb1 12 rfl rfl, tb4 230 rfl rfl, ⟨by decide +kernel, by decide +kernel, by decide +kernel⟩, by decide +kernel⟩
theorem lkL_32 : mlK RL 32 mX11_more 3 := ⟨tb4 227 rfl rfl, lcX11_more⟩
theorem lvL_32 : mlV RL 32 mX11_more 11 3 := ⟨lkL_32, tb4 228 rfl rfl, tb4 229 rfl rfl, rfl⟩
theorem lcX11_plate : Cond.initialized mX11_plate.2.1.cls ∈ tbg ∧ Cond.code mX11_plate.2.1 mX11_plate.2.2.1 mX11_plate.2.2.2.1 mX11_plate.2.2.2.2 ∈ tbg ∧ (mX11_plate.2.1.cls ≠ "java/lang/invoke/MethodHandle" ∧ mX11_plate.2.1.cls ≠ "java/lang/invoke/VarHandle" ∧ (parseMethodDescriptor mX11_plate.2.1.desc).map (fun d => d.parameters.length) = some 3) ∧ mX11_plate.2.2.2.1 ≤ 21 := ⟨tb1 12 rfl rfl, tb4 234 rfl rfl, ⟨by decide +kernel, by decide +kernel, by decide +kernel⟩, by decide +kernel⟩
theorem lkL_36 : mlK RL 36 mX11_plate 3 := ⟨tb4 231 rfl rfl, lcX11_plate⟩
theorem lvL_36 : mlV RL 36 mX11_plate 11 3 := ⟨lkL_36, tb4 232 rfl rfl, tb4 233 rfl rfl, rfl⟩
theorem lcX11_rest : Cond.initialized mX11_rest.2.1.cls ∈ tbg ∧ Cond.code mX11_rest.2.1 mX11_rest.2.2.1 mX11_rest.2.2.2.1 mX11_rest.2.2.2.2 ∈ tbg ∧ (mX11_rest.2.1.cls ≠ "java/lang/invoke/MethodHandle" ∧ mX11_rest.2.1.cls ≠ "java/lang/invoke/VarHandle" ∧ (parseMethodDescriptor mX11_rest.2.1.desc).map (fun d => d.parameters.length) = some 2) ∧ mX11_rest.2.2.2.1 ≤ 21 := ⟨tb1 12 rfl rfl, tb4 238 rfl rfl, ⟨by decide +kernel, by decide +kernel, by decide +kernel⟩, by decide +kernel⟩
theorem lkL_45 : mlK RL 45 mX11_rest 2 := ⟨tb4 235 rfl rfl, lcX11_rest⟩
theorem lvL_45 : mlV RL 45 mX11_rest 11 2 := ⟨lkL_45, tb4 236 rfl rfl, tb4 237 rfl rfl, rfl⟩
theorem lcX11_cell : Cond.initialized mX11_cell.2.1.cls ∈ tbg ∧ Cond.code mX11_cell.2.1 mX11_cell.2.2.1 mX11_cell.2.2.2.1 mX11_cell.2.2.2.2 ∈ tbg ∧ (mX11_cell.2.1.cls ≠ "java/lang/invoke/MethodHandle" ∧ mX11_cell.2.1.cls ≠ "java/lang/invoke/VarHandle" ∧ (parseMethodDescriptor mX11_cell.2.1.desc).map (fun d => d.parameters.length) = some 3) ∧ mX11_cell.2.2.2.1 ≤ 21 := ⟨tb1 12 rfl rfl, tb5 2 rfl rfl, ⟨by decide +kernel, by decide +kernel, by decide +kernel⟩, by decide +kernel⟩
theorem lkL_49 : mlK RL 49 mX11_cell 3 := ⟨tb4 239 rfl rfl, lcX11_cell⟩
theorem lvL_49 : mlV RL 49 mX11_cell 11 3 := ⟨lkL_49, tb5 0 rfl rfl, tb5 1 rfl rfl, rfl⟩
theorem lcX11_turn : Cond.initialized mX11_turn.2.1.cls ∈ tbg ∧ Cond.code mX11_turn.2.1 mX11_turn.2.2.1 mX11_turn.2.2.2.1 mX11_turn.2.2.2.2 ∈ tbg ∧ (mX11_turn.2.1.cls ≠ "java/lang/invoke/MethodHandle" ∧ mX11_turn.2.1.cls ≠ "java/lang/invoke/VarHandle" ∧ (parseMethodDescriptor mX11_turn.2.1.desc).map (fun d => d.parameters.length) = some 2) ∧ mX11_turn.2.2.2.1 ≤ 21 := ⟨tb1 12 rfl rfl, tb5 6 rfl rfl, ⟨by decide +kernel, by decide +kernel, by decide +kernel⟩, by decide +kernel⟩
theorem lkL_54 : mlK RL 54 mX11_turn 2 := ⟨tb5 3 rfl rfl, lcX11_turn⟩
theorem lvL_54 : mlV RL 54 mX11_turn 11 2 := ⟨lkL_54, tb5 4 rfl rfl, tb5 5 rfl rfl, rfl⟩
theorem lcX11_powers : Cond.initialized mX11_powers.2.1.cls ∈ tbg ∧ Cond.code mX11_powers.2.1 mX11_powers.2.2.1 mX11_powers.2.2.2.1 mX11_powers.2.2.2.2 ∈ tbg ∧ (mX11_powers.2.1.cls ≠ "java/lang/invoke/MethodHandle" ∧ mX11_powers.2.1.cls ≠ "java/lang/invoke/VarHandle" ∧ (parseMethodDescriptor mX11_powers.2.1.desc).map (fun d => d.parameters.length) = some 3) ∧ mX11_powers.2.2.2.1 ≤ 21 := ⟨tb1 12 rfl rfl, tb5 10 rfl rfl, ⟨by decide +kernel, by decide +kernel, by decide +kernel⟩, by decide +kernel⟩
theorem lkX11_133 : mlK RX11 133 mX11_powers 3 := ⟨tb5 7 rfl rfl, lcX11_powers⟩
theorem lvX11_133 : mlV RX11 133 mX11_powers 11 3 := ⟨lkX11_133, tb5 9 rfl rfl, tp2 13 rfl, rfl⟩
theorem lcX11_beginsBase : Cond.initialized mX11_beginsBase.2.1.cls ∈ tbg ∧ Cond.code mX11_beginsBase.2.1 mX11_beginsBase.2.2.1 mX11_beginsBase.2.2.2.1 mX11_beginsBase.2.2.2.2 ∈ tbg ∧ (mX11_beginsBase.2.1.cls ≠ "java/lang/invoke/MethodHandle" ∧ mX11_beginsBase.2.1.cls ≠ "java/lang/invoke/VarHandle" ∧ (parseMethodDescriptor mX11_beginsBase.2.1.desc).map (fun d => d.parameters.length) = some 2) ∧ mX11_beginsBase.2.2.2.1 ≤ 21 := ⟨tb1 12 rfl rfl, tb5 14 rfl rfl, ⟨by decide +kernel, by decide +kernel, by decide +kernel⟩, by decide +kernel⟩
theorem lkX11_123 : mlK RX11 123 mX11_beginsBase 2 := ⟨tb5 11 rfl rfl, lcX11_beginsBase⟩
theorem lvX11_123 : mlV RX11 123 mX11_beginsBase 11 2 := ⟨lkX11_123, tb5 13 rfl rfl, tp2 14 rfl, rfl⟩
theorem lcX11_multiplies : Cond.initialized mX11_multiplies.2.1.cls ∈ tbg ∧ Cond.code mX11_multiplies.2.1 mX11_multiplies.2.2.1 mX11_multiplies.2.2.2.1 mX11_multiplies.2.2.2.2 ∈ tbg ∧ (mX11_multiplies.2.1.cls ≠ "java/lang/invoke/MethodHandle" ∧ mX11_multiplies.2.1.cls ≠ "java/lang/invoke/VarHandle" ∧ (parseMethodDescriptor mX11_multiplies.2.1.desc).map (fun d => d.parameters.length) = some 4) ∧ mX11_multiplies.2.2.2.1 ≤ 21 := ⟨tb1 12 rfl rfl, tb5 19 rfl rfl, ⟨by decide +kernel, by decide +kernel, by decide +kernel⟩, by decide +kernel⟩
theorem lkX11_129 : mlK RX11 129 mX11_multiplies 4 := ⟨tb5 16 rfl rfl, lcX11_multiplies⟩
theorem lvX11_129 : mlV RX11 129 mX11_multiplies 11 4 := ⟨lkX11_129, tb5 18 rfl rfl, tp2 15 rfl, rfl⟩
theorem lcX11_plateIs : Cond.initialized mX11_plateIs.2.1.cls ∈ tbg ∧ Cond.code mX11_plateIs.2.1 mX11_plateIs.2.2.1 mX11_plateIs.2.2.2.1 mX11_plateIs.2.2.2.2 ∈ tbg ∧ (mX11_plateIs.2.1.cls ≠ "java/lang/invoke/MethodHandle" ∧ mX11_plateIs.2.1.cls ≠ "java/lang/invoke/VarHandle" ∧ (parseMethodDescriptor mX11_plateIs.2.1.desc).map (fun d => d.parameters.length) = some 2) ∧ mX11_plateIs.2.2.2.1 ≤ 21 := ⟨tb1 12 rfl rfl, tb5 23 rfl rfl, ⟨by decide +kernel, by decide +kernel, by decide +kernel⟩, by decide +kernel⟩
theorem lkX11_137 : mlK RX11 137 mX11_plateIs 2 := ⟨tb5 20 rfl rfl, lcX11_plateIs⟩
theorem lvX11_137 : mlV RX11 137 mX11_plateIs 11 2 := ⟨lkX11_137, tb5 22 rfl rfl, tp3 0 rfl, rfl⟩
theorem lcX11_goes : Cond.initialized mX11_goes.2.1.cls ∈ tbg ∧ Cond.code mX11_goes.2.1 mX11_goes.2.2.1 mX11_goes.2.2.2.1 mX11_goes.2.2.2.2 ∈ tbg ∧ (mX11_goes.2.1.cls ≠ "java/lang/invoke/MethodHandle" ∧ mX11_goes.2.1.cls ≠ "java/lang/invoke/VarHandle" ∧ (parseMethodDescriptor mX11_goes.2.1.desc).map (fun d => d.parameters.length) = some 2) ∧ mX11_goes.2.2.2.1 ≤ 21 := ⟨tb1 12 rfl rfl, tb5 27 rfl rfl, ⟨by decide +kernel, by decide +kernel, by decide +kernel⟩, by decide +kernel⟩
theorem lkX11_140 : mlK RX11 140 mX11_goes 2 := ⟨tb5 24 rfl rfl, lcX11_goes⟩
theorem lvX11_140 : mlV RX11 140 mX11_goes 11 2 := ⟨lkX11_140, tb5 26 rfl rfl, tp3 1 rfl, rfl⟩
theorem lcX11_takes : Cond.initialized mX11_takes.2.1.cls ∈ tbg ∧ Cond.code mX11_takes.2.1 mX11_takes.2.2.1 mX11_takes.2.2.2.1 mX11_takes.2.2.2.2 ∈ tbg ∧ (mX11_takes.2.1.cls ≠ "java/lang/invoke/MethodHandle" ∧ mX11_takes.2.1.cls ≠ "java/lang/invoke/VarHandle" ∧ (parseMethodDescriptor mX11_takes.2.1.desc).map (fun d => d.parameters.length) = some 1) ∧ mX11_takes.2.2.2.1 ≤ 21 := ⟨tb1 12 rfl rfl, tb5 31 rfl rfl, ⟨by decide +kernel, by decide +kernel, by decide +kernel⟩, by decide +kernel⟩
theorem lkX11_143 : mlK RX11 143 mX11_takes 1 := ⟨tb5 28 rfl rfl, lcX11_takes⟩
theorem lvX11_143 : mlV RX11 143 mX11_takes 11 1 := ⟨lkX11_143, tb5 30 rfl rfl, tp3 2 rfl, rfl⟩
theorem lcX11_leap : Cond.initialized mX11_leap.2.1.cls ∈ tbg ∧ Cond.code mX11_leap.2.1 mX11_leap.2.2.1 mX11_leap.2.2.2.1 mX11_leap.2.2.2.2 ∈ tbg ∧ (mX11_leap.2.1.cls ≠ "java/lang/invoke/MethodHandle" ∧ mX11_leap.2.1.cls ≠ "java/lang/invoke/VarHandle" ∧ (parseMethodDescriptor mX11_leap.2.1.desc).map (fun d => d.parameters.length) = some 2) ∧ mX11_leap.2.2.2.1 ≤ 21 := ⟨tb1 12 rfl rfl, tb5 35 rfl rfl, ⟨by decide +kernel, by decide +kernel, by decide +kernel⟩, by decide +kernel⟩
theorem lkL_61 : mlK RL 61 mX11_leap 2 := ⟨tb5 32 rfl rfl, lcX11_leap⟩
theorem lvL_61 : mlV RL 61 mX11_leap 11 2 := ⟨lkL_61, tb5 33 rfl rfl, tb5 34 rfl rfl, rfl⟩
theorem lcX11_leaps : Cond.initialized mX11_leaps.2.1.cls ∈ tbg ∧ Cond.code mX11_leaps.2.1 mX11_leaps.2.2.1 mX11_leaps.2.2.2.1 mX11_leaps.2.2.2.2 ∈ tbg ∧ (mX11_leaps.2.1.cls ≠ "java/lang/invoke/MethodHandle" ∧ mX11_leaps.2.1.cls ≠ "java/lang/invoke/VarHandle" ∧ (parseMethodDescriptor mX11_leaps.2.1.desc).map (fun d => d.parameters.length) = some 2) ∧ mX11_leaps.2.2.2.1 ≤ 21 := ⟨tb1 12 rfl rfl, tb5 39 rfl rfl, ⟨by decide +kernel, by decide +kernel, by decide +kernel⟩, by decide +kernel⟩
theorem lkX11_146 : mlK RX11 146 mX11_leaps 2 := ⟨tb5 36 rfl rfl, lcX11_leaps⟩
theorem lvX11_146 : mlV RX11 146 mX11_leaps 11 2 := ⟨lkX11_146, tb5 38 rfl rfl, tp3 3 rfl, rfl⟩
theorem lcX11_look : Cond.initialized mX11_look.2.1.cls ∈ tbg ∧ Cond.code mX11_look.2.1 mX11_look.2.2.1 mX11_look.2.2.2.1 mX11_look.2.2.2.2 ∈ tbg ∧ (mX11_look.2.1.cls ≠ "java/lang/invoke/MethodHandle" ∧ mX11_look.2.1.cls ≠ "java/lang/invoke/VarHandle" ∧ (parseMethodDescriptor mX11_look.2.1.desc).map (fun d => d.parameters.length) = some 2) ∧ mX11_look.2.2.2.1 ≤ 21 := ⟨tb1 12 rfl rfl, tb5 43 rfl rfl, ⟨by decide +kernel, by decide +kernel, by decide +kernel⟩, by decide +kernel⟩
theorem lkL_41 : mlK RL 41 mX11_look 2 := ⟨tb5 40 rfl rfl, lcX11_look⟩
theorem lvL_41 : mlV RL 41 mX11_look 11 2 := ⟨lkL_41, tb5 41 rfl rfl, tb5 42 rfl rfl, rfl⟩
theorem lcX11_worth : Cond.initialized mX11_worth.2.1.cls ∈ tbg ∧ Cond.code mX11_worth.2.1 mX11_worth.2.2.1 mX11_worth.2.2.2.1 mX11_worth.2.2.2.2 ∈ tbg ∧ (mX11_worth.2.1.cls ≠ "java/lang/invoke/MethodHandle" ∧ mX11_worth.2.1.cls ≠ "java/lang/invoke/VarHandle" ∧ (parseMethodDescriptor mX11_worth.2.1.desc).map (fun d => d.parameters.length) = some 1) ∧ mX11_worth.2.2.2.1 ≤ 21 := ⟨tb1 12 rfl rfl, tb5 47 rfl rfl, ⟨by decide +kernel, by decide +kernel, by decide +kernel⟩, by decide +kernel⟩
theorem lkX11_150 : mlK RX11 150 mX11_worth 1 := ⟨tb5 44 rfl rfl, lcX11_worth⟩
theorem lvX11_150 : mlV RX11 150 mX11_worth 11 1 := ⟨lkX11_150, tb5 46 rfl rfl, tp3 4 rfl, rfl⟩
theorem lcX11_isTurnable : Cond.initialized mX11_isTurnable.2.1.cls ∈ tbg ∧ Cond.code mX11_isTurnable.2.1 mX11_isTurnable.2.2.1 mX11_isTurnable.2.2.2.1 mX11_isTurnable.2.2.2.2 ∈ tbg ∧ (mX11_isTurnable.2.1.cls ≠ "java/lang/invoke/MethodHandle" ∧ mX11_isTurnable.2.1.cls ≠ "java/lang/invoke/VarHandle" ∧ (parseMethodDescriptor mX11_isTurnable.2.1.desc).map (fun d => d.parameters.length) = some 1) ∧ mX11_isTurnable.2.2.2.1 ≤ 21 := ⟨tb1 12 rfl rfl, tb5 51 rfl rfl, ⟨by decide +kernel, by decide +kernel, by decide +kernel⟩, by decide +kernel⟩
theorem lkX11_161 : mlK RX11 161 mX11_isTurnable 1 := ⟨tb5 48 rfl rfl, lcX11_isTurnable⟩
theorem lvX11_161 : mlV RX11 161 mX11_isTurnable 11 1 := ⟨lkX11_161, tb5 50 rfl rfl, tp3 5 rfl, rfl⟩
theorem lcX11_common : Cond.initialized mX11_common.2.1.cls ∈ tbg ∧ Cond.code mX11_common.2.1 mX11_common.2.2.1 mX11_common.2.2.2.1 mX11_common.2.2.2.2 ∈ tbg ∧ (mX11_common.2.1.cls ≠ "java/lang/invoke/MethodHandle" ∧ mX11_common.2.1.cls ≠ "java/lang/invoke/VarHandle" ∧ (parseMethodDescriptor mX11_common.2.1.desc).map (fun d => d.parameters.length) = some 2) ∧ mX11_common.2.2.2.1 ≤ 21 := ⟨tb1 12 rfl rfl, tb5 54 rfl rfl, ⟨by decide +kernel, by decide +kernel, by decide +kernel⟩, by decide +kernel⟩
theorem lkX11_154 : mlK RX11 154 mX11_common 2 := ⟨tb5 52 rfl rfl, lcX11_common⟩
theorem lsX11_154 : mlS RX11 154 mX11_common 2 := ⟨lkX11_154, tb5 53 rfl rfl⟩
theorem lcX11_parts : Cond.initialized mX11_parts.2.1.cls ∈ tbg ∧ Cond.code mX11_parts.2.1 mX11_parts.2.2.1 mX11_parts.2.2.2.1 mX11_parts.2.2.2.2 ∈ tbg ∧ (mX11_parts.2.1.cls ≠ "java/lang/invoke/MethodHandle" ∧ mX11_parts.2.1.cls ≠ "java/lang/invoke/VarHandle" ∧ (parseMethodDescriptor mX11_parts.2.1.desc).map (fun d => d.parameters.length) = some 1) ∧ mX11_parts.2.2.2.1 ≤ 21 := ⟨tb1 12 rfl rfl, tb5 58 rfl rfl, ⟨by decide +kernel, by decide +kernel, by decide +kernel⟩, by decide +kernel⟩
theorem lkX11_164 : mlK RX11 164 mX11_parts 1 := ⟨tb5 55 rfl rfl, lcX11_parts⟩
theorem lvX11_164 : mlV RX11 164 mX11_parts 11 1 := ⟨lkX11_164, tb5 57 rfl rfl, tp3 6 rfl, rfl⟩
theorem lcX11_part : Cond.initialized mX11_part.2.1.cls ∈ tbg ∧ Cond.code mX11_part.2.1 mX11_part.2.2.1 mX11_part.2.2.2.1 mX11_part.2.2.2.2 ∈ tbg ∧ (mX11_part.2.1.cls ≠ "java/lang/invoke/MethodHandle" ∧ mX11_part.2.1.cls ≠ "java/lang/invoke/VarHandle" ∧ (parseMethodDescriptor mX11_part.2.1.desc).map (fun d => d.parameters.length) = some 3) ∧ mX11_part.2.2.2.1 ≤ 21 := ⟨tb1 12 rfl rfl, tb5 62 rfl rfl, ⟨by decide +kernel, by decide +kernel, by decide +kernel⟩, by decide +kernel⟩
theorem lkL_92 : mlK RL 92 mX11_part 3 := ⟨tb5 59 rfl rfl, lcX11_part⟩
theorem lvL_92 : mlV RL 92 mX11_part 11 3 := ⟨lkL_92, tb5 60 rfl rfl, tb5 61 rfl rfl, rfl⟩
theorem lcX11_split : Cond.initialized mX11_split.2.1.cls ∈ tbg ∧ Cond.code mX11_split.2.1 mX11_split.2.2.1 mX11_split.2.2.2.1 mX11_split.2.2.2.2 ∈ tbg ∧ (mX11_split.2.1.cls ≠ "java/lang/invoke/MethodHandle" ∧ mX11_split.2.1.cls ≠ "java/lang/invoke/VarHandle" ∧ (parseMethodDescriptor mX11_split.2.1.desc).map (fun d => d.parameters.length) = some 3) ∧ mX11_split.2.2.2.1 ≤ 21 := ⟨tb1 12 rfl rfl, tb5 66 rfl rfl, ⟨by decide +kernel, by decide +kernel, by decide +kernel⟩, by decide +kernel⟩
theorem lkL_96 : mlK RL 96 mX11_split 3 := ⟨tb5 63 rfl rfl, lcX11_split⟩
theorem lvL_96 : mlV RL 96 mX11_split 11 3 := ⟨lkL_96, tb5 64 rfl rfl, tb5 65 rfl rfl, rfl⟩
theorem lcX11_join : Cond.initialized mX11_join.2.1.cls ∈ tbg ∧ Cond.code mX11_join.2.1 mX11_join.2.2.1 mX11_join.2.2.2.1 mX11_join.2.2.2.2 ∈ tbg ∧ (mX11_join.2.1.cls ≠ "java/lang/invoke/MethodHandle" ∧ mX11_join.2.1.cls ≠ "java/lang/invoke/VarHandle" ∧ (parseMethodDescriptor mX11_join.2.1.desc).map (fun d => d.parameters.length) = some 4) ∧ mX11_join.2.2.2.1 ≤ 21 := ⟨tb1 12 rfl rfl, tb5 70 rfl rfl, ⟨by decide +kernel, by decide +kernel, by decide +kernel⟩, by decide +kernel⟩
theorem lkL_100 : mlK RL 100 mX11_join 4 := ⟨tb5 67 rfl rfl, lcX11_join⟩
theorem lvL_100 : mlV RL 100 mX11_join 11 4 := ⟨lkL_100, tb5 68 rfl rfl, tb5 69 rfl rfl, rfl⟩
theorem lcX11_round : Cond.initialized mX11_round.2.1.cls ∈ tbg ∧ Cond.code mX11_round.2.1 mX11_round.2.2.1 mX11_round.2.2.2.1 mX11_round.2.2.2.2 ∈ tbg ∧ (mX11_round.2.1.cls ≠ "java/lang/invoke/MethodHandle" ∧ mX11_round.2.1.cls ≠ "java/lang/invoke/VarHandle" ∧ (parseMethodDescriptor mX11_round.2.1.desc).map (fun d => d.parameters.length) = some 1) ∧ mX11_round.2.2.2.1 ≤ 21 := ⟨tb1 12 rfl rfl, tb5 74 rfl rfl, ⟨by decide +kernel, by decide +kernel, by decide +kernel⟩, by decide +kernel⟩
theorem lkL_75 : mlK RL 75 mX11_round 1 := ⟨tb5 71 rfl rfl, lcX11_round⟩
theorem lvL_75 : mlV RL 75 mX11_round 11 1 := ⟨lkL_75, tb5 72 rfl rfl, tb5 73 rfl rfl, rfl⟩
theorem lcX11_roundOf : Cond.initialized mX11_roundOf.2.1.cls ∈ tbg ∧ Cond.code mX11_roundOf.2.1 mX11_roundOf.2.2.1 mX11_roundOf.2.2.2.1 mX11_roundOf.2.2.2.2 ∈ tbg ∧ (mX11_roundOf.2.1.cls ≠ "java/lang/invoke/MethodHandle" ∧ mX11_roundOf.2.1.cls ≠ "java/lang/invoke/VarHandle" ∧ (parseMethodDescriptor mX11_roundOf.2.1.desc).map (fun d => d.parameters.length) = some 1) ∧ mX11_roundOf.2.2.2.1 ≤ 21 := ⟨tb1 12 rfl rfl, tb5 78 rfl rfl, ⟨by decide +kernel, by decide +kernel, by decide +kernel⟩, by decide +kernel⟩
theorem lkX11_202 : mlK RX11 202 mX11_roundOf 1 := ⟨tb5 75 rfl rfl, lcX11_roundOf⟩
theorem lvX11_202 : mlV RX11 202 mX11_roundOf 11 1 := ⟨lkX11_202, tb5 77 rfl rfl, tp3 7 rfl, rfl⟩
theorem lcX11_makesMultiple : Cond.initialized mX11_makesMultiple.2.1.cls ∈ tbg ∧ Cond.code mX11_makesMultiple.2.1 mX11_makesMultiple.2.2.1 mX11_makesMultiple.2.2.2.1 mX11_makesMultiple.2.2.2.2 ∈ tbg ∧ (mX11_makesMultiple.2.1.cls ≠ "java/lang/invoke/MethodHandle" ∧ mX11_makesMultiple.2.1.cls ≠ "java/lang/invoke/VarHandle" ∧ (parseMethodDescriptor mX11_makesMultiple.2.1.desc).map (fun d => d.parameters.length) = some 1) ∧ mX11_makesMultiple.2.2.2.1 ≤ 21 := ⟨tb1 12 rfl rfl, tb5 82 rfl rfl, ⟨by decide +kernel, by decide +kernel, by decide +kernel⟩, by decide +kernel⟩
theorem lkX11_189 : mlK RX11 189 mX11_makesMultiple 1 := ⟨tb5 79 rfl rfl, lcX11_makesMultiple⟩
theorem lvX11_189 : mlV RX11 189 mX11_makesMultiple 11 1 := ⟨lkX11_189, tb5 81 rfl rfl, tp3 8 rfl, rfl⟩
theorem lcX11_factor : Cond.initialized mX11_factor.2.1.cls ∈ tbg ∧ Cond.code mX11_factor.2.1 mX11_factor.2.2.1 mX11_factor.2.2.2.1 mX11_factor.2.2.2.2 ∈ tbg ∧ (mX11_factor.2.1.cls ≠ "java/lang/invoke/MethodHandle" ∧ mX11_factor.2.1.cls ≠ "java/lang/invoke/VarHandle" ∧ (parseMethodDescriptor mX11_factor.2.1.desc).map (fun d => d.parameters.length) = some 1) ∧ mX11_factor.2.2.2.1 ≤ 21 := ⟨tb1 12 rfl rfl, tb5 86 rfl rfl, ⟨by decide +kernel, by decide +kernel, by decide +kernel⟩, by decide +kernel⟩
theorem lkX11_170 : mlK RX11 170 mX11_factor 1 := ⟨tb5 83 rfl rfl, lcX11_factor⟩
theorem lvX11_170 : mlV RX11 170 mX11_factor 11 1 := ⟨lkX11_170, tb5 85 rfl rfl, tp3 9 rfl, rfl⟩
theorem lcX11_settles : Cond.initialized mX11_settles.2.1.cls ∈ tbg ∧ Cond.code mX11_settles.2.1 mX11_settles.2.2.1 mX11_settles.2.2.2.1 mX11_settles.2.2.2.2 ∈ tbg ∧ (mX11_settles.2.1.cls ≠ "java/lang/invoke/MethodHandle" ∧ mX11_settles.2.1.cls ≠ "java/lang/invoke/VarHandle" ∧ (parseMethodDescriptor mX11_settles.2.1.desc).map (fun d => d.parameters.length) = some 2) ∧ mX11_settles.2.2.2.1 ≤ 21 := ⟨tb1 12 rfl rfl, tb5 91 rfl rfl, ⟨by decide +kernel, by decide +kernel, by decide +kernel⟩, by decide +kernel⟩
theorem lkX11_192 : mlK RX11 192 mX11_settles 2 := ⟨tb5 88 rfl rfl, lcX11_settles⟩
theorem lvX11_192 : mlV RX11 192 mX11_settles 11 2 := ⟨lkX11_192, tb5 90 rfl rfl, tp3 10 rfl, rfl⟩
theorem lcX11_comesBack : Cond.initialized mX11_comesBack.2.1.cls ∈ tbg ∧ Cond.code mX11_comesBack.2.1 mX11_comesBack.2.2.1 mX11_comesBack.2.2.2.1 mX11_comesBack.2.2.2.2 ∈ tbg ∧ (mX11_comesBack.2.1.cls ≠ "java/lang/invoke/MethodHandle" ∧ mX11_comesBack.2.1.cls ≠ "java/lang/invoke/VarHandle" ∧ (parseMethodDescriptor mX11_comesBack.2.1.desc).map (fun d => d.parameters.length) = some 3) ∧ mX11_comesBack.2.2.2.1 ≤ 21 := ⟨tb1 12 rfl rfl, tb5 96 rfl rfl, ⟨by decide +kernel, by decide +kernel, by decide +kernel⟩, by decide +kernel⟩
theorem lkX11_195 : mlK RX11 195 mX11_comesBack 3 := ⟨tb5 93 rfl rfl, lcX11_comesBack⟩
theorem lvX11_195 : mlV RX11 195 mX11_comesBack 11 3 := ⟨lkX11_195, tb5 95 rfl rfl, tp3 11 rfl, rfl⟩
theorem lcX11_isBack : Cond.initialized mX11_isBack.2.1.cls ∈ tbg ∧ Cond.code mX11_isBack.2.1 mX11_isBack.2.2.1 mX11_isBack.2.2.2.1 mX11_isBack.2.2.2.2 ∈ tbg ∧ (mX11_isBack.2.1.cls ≠ "java/lang/invoke/MethodHandle" ∧ mX11_isBack.2.1.cls ≠ "java/lang/invoke/VarHandle" ∧ (parseMethodDescriptor mX11_isBack.2.1.desc).map (fun d => d.parameters.length) = some 1) ∧ mX11_isBack.2.2.2.1 ≤ 21 := ⟨tb1 12 rfl rfl, tb5 100 rfl rfl, ⟨by decide +kernel, by decide +kernel, by decide +kernel⟩, by decide +kernel⟩
theorem lkX11_186 : mlK RX11 186 mX11_isBack 1 := ⟨tb5 97 rfl rfl, lcX11_isBack⟩
theorem lvX11_186 : mlV RX11 186 mX11_isBack 11 1 := ⟨lkX11_186, tb5 99 rfl rfl, tp3 12 rfl, rfl⟩
theorem lcX11_together : Cond.initialized mX11_together.2.1.cls ∈ tbg ∧ Cond.code mX11_together.2.1 mX11_together.2.2.1 mX11_together.2.2.2.1 mX11_together.2.2.2.2 ∈ tbg ∧ (mX11_together.2.1.cls ≠ "java/lang/invoke/MethodHandle" ∧ mX11_together.2.1.cls ≠ "java/lang/invoke/VarHandle" ∧ (parseMethodDescriptor mX11_together.2.1.desc).map (fun d => d.parameters.length) = some 2) ∧ mX11_together.2.2.2.1 ≤ 21 := ⟨tb1 12 rfl rfl, tb5 103 rfl rfl, ⟨by decide +kernel, by decide +kernel, by decide +kernel⟩, by decide +kernel⟩
theorem lkX11_199 : mlK RX11 199 mX11_together 2 := ⟨tb5 101 rfl rfl, lcX11_together⟩
theorem lsX11_199 : mlS RX11 199 mX11_together 2 := ⟨lkX11_199, tb5 102 rfl rfl⟩
theorem lcX11_commonOf : Cond.initialized mX11_commonOf.2.1.cls ∈ tbg ∧ Cond.code mX11_commonOf.2.1 mX11_commonOf.2.2.1 mX11_commonOf.2.2.2.1 mX11_commonOf.2.2.2.2 ∈ tbg ∧ (mX11_commonOf.2.1.cls ≠ "java/lang/invoke/MethodHandle" ∧ mX11_commonOf.2.1.cls ≠ "java/lang/invoke/VarHandle" ∧ (parseMethodDescriptor mX11_commonOf.2.1.desc).map (fun d => d.parameters.length) = some 2) ∧ mX11_commonOf.2.2.2.1 ≤ 21 := ⟨tb1 12 rfl rfl, tb5 106 rfl rfl, ⟨by decide +kernel, by decide +kernel, by decide +kernel⟩, by decide +kernel⟩
theorem lkX11_180 : mlK RX11 180 mX11_commonOf 2 := ⟨tb5 104 rfl rfl, lcX11_commonOf⟩
theorem lsX11_180 : mlS RX11 180 mX11_commonOf 2 := ⟨lkX11_180, tb5 105 rfl rfl⟩
theorem lcX11_tail : Cond.initialized mX11_tail.2.1.cls ∈ tbg ∧ Cond.code mX11_tail.2.1 mX11_tail.2.2.1 mX11_tail.2.2.2.1 mX11_tail.2.2.2.2 ∈ tbg ∧ (mX11_tail.2.1.cls ≠ "java/lang/invoke/MethodHandle" ∧ mX11_tail.2.1.cls ≠ "java/lang/invoke/VarHandle" ∧ (parseMethodDescriptor mX11_tail.2.1.desc).map (fun d => d.parameters.length) = some 1) ∧ mX11_tail.2.2.2.1 ≤ 21 := ⟨tb1 12 rfl rfl, tb5 111 rfl rfl, ⟨by decide +kernel, by decide +kernel, by decide +kernel⟩, by decide +kernel⟩
theorem lkL_70 : mlK RL 70 mX11_tail 1 := ⟨tb5 108 rfl rfl, lcX11_tail⟩
theorem lvL_70 : mlV RL 70 mX11_tail 11 1 := ⟨lkL_70, tb5 109 rfl rfl, tb5 110 rfl rfl, rfl⟩
theorem lcX11_order : Cond.initialized mX11_order.2.1.cls ∈ tbg ∧ Cond.code mX11_order.2.1 mX11_order.2.2.1 mX11_order.2.2.2.1 mX11_order.2.2.2.2 ∈ tbg ∧ (mX11_order.2.1.cls ≠ "java/lang/invoke/MethodHandle" ∧ mX11_order.2.1.cls ≠ "java/lang/invoke/VarHandle" ∧ (parseMethodDescriptor mX11_order.2.1.desc).map (fun d => d.parameters.length) = some 1) ∧ mX11_order.2.2.2.1 ≤ 21 := ⟨tb1 12 rfl rfl, tb5 115 rfl rfl, ⟨by decide +kernel, by decide +kernel, by decide +kernel⟩, by decide +kernel⟩
theorem lkL_79 : mlK RL 79 mX11_order 1 := ⟨tb5 112 rfl rfl, lcX11_order⟩
theorem lvL_79 : mlV RL 79 mX11_order 11 1 := ⟨lkL_79, tb5 113 rfl rfl, tb5 114 rfl rfl, rfl⟩
theorem lcX11_orderOf : Cond.initialized mX11_orderOf.2.1.cls ∈ tbg ∧ Cond.code mX11_orderOf.2.1 mX11_orderOf.2.2.1 mX11_orderOf.2.2.2.1 mX11_orderOf.2.2.2.2 ∈ tbg ∧ (mX11_orderOf.2.1.cls ≠ "java/lang/invoke/MethodHandle" ∧ mX11_orderOf.2.1.cls ≠ "java/lang/invoke/VarHandle" ∧ (parseMethodDescriptor mX11_orderOf.2.1.desc).map (fun d => d.parameters.length) = some 1) ∧ mX11_orderOf.2.2.2.1 ≤ 21 := ⟨tb1 12 rfl rfl, tb5 119 rfl rfl, ⟨by decide +kernel, by decide +kernel, by decide +kernel⟩, by decide +kernel⟩
theorem lkX11_211 : mlK RX11 211 mX11_orderOf 1 := ⟨tb5 116 rfl rfl, lcX11_orderOf⟩
theorem lvX11_211 : mlV RX11 211 mX11_orderOf 11 1 := ⟨lkX11_211, tb5 118 rfl rfl, tp3 13 rfl, rfl⟩
theorem lcX11_isStill : Cond.initialized mX11_isStill.2.1.cls ∈ tbg ∧ Cond.code mX11_isStill.2.1 mX11_isStill.2.2.1 mX11_isStill.2.2.2.1 mX11_isStill.2.2.2.2 ∈ tbg ∧ (mX11_isStill.2.1.cls ≠ "java/lang/invoke/MethodHandle" ∧ mX11_isStill.2.1.cls ≠ "java/lang/invoke/VarHandle" ∧ (parseMethodDescriptor mX11_isStill.2.1.desc).map (fun d => d.parameters.length) = some 3) ∧ mX11_isStill.2.2.2.1 ≤ 21 := ⟨tb1 12 rfl rfl, tb5 123 rfl rfl, ⟨by decide +kernel, by decide +kernel, by decide +kernel⟩, by decide +kernel⟩
theorem lkX11_208 : mlK RX11 208 mX11_isStill 3 := ⟨tb5 120 rfl rfl, lcX11_isStill⟩
theorem lvX11_208 : mlV RX11 208 mX11_isStill 11 3 := ⟨lkX11_208, tb5 122 rfl rfl, tp3 14 rfl, rfl⟩
theorem lcX11_back : Cond.initialized mX11_back.2.1.cls ∈ tbg ∧ Cond.code mX11_back.2.1 mX11_back.2.2.1 mX11_back.2.2.2.1 mX11_back.2.2.2.2 ∈ tbg ∧ (mX11_back.2.1.cls ≠ "java/lang/invoke/MethodHandle" ∧ mX11_back.2.1.cls ≠ "java/lang/invoke/VarHandle" ∧ (parseMethodDescriptor mX11_back.2.1.desc).map (fun d => d.parameters.length) = some 2) ∧ mX11_back.2.2.2.1 ≤ 21 := ⟨tb1 12 rfl rfl, tb5 127 rfl rfl, ⟨by decide +kernel, by decide +kernel, by decide +kernel⟩, by decide +kernel⟩
theorem lkL_65 : mlK RL 65 mX11_back 2 := ⟨tb5 124 rfl rfl, lcX11_back⟩
theorem lvL_65 : mlV RL 65 mX11_back 11 2 := ⟨lkL_65, tb5 125 rfl rfl, tb5 126 rfl rfl, rfl⟩
theorem lcX11_fixed : Cond.initialized mX11_fixed.2.1.cls ∈ tbg ∧ Cond.code mX11_fixed.2.1 mX11_fixed.2.2.1 mX11_fixed.2.2.2.1 mX11_fixed.2.2.2.2 ∈ tbg ∧ (mX11_fixed.2.1.cls ≠ "java/lang/invoke/MethodHandle" ∧ mX11_fixed.2.1.cls ≠ "java/lang/invoke/VarHandle" ∧ (parseMethodDescriptor mX11_fixed.2.1.desc).map (fun d => d.parameters.length) = some 2) ∧ mX11_fixed.2.2.2.1 ≤ 21 := ⟨tb1 12 rfl rfl, tb5 131 rfl rfl, ⟨by decide +kernel, by decide +kernel, by decide +kernel⟩, by decide +kernel⟩
theorem lkL_84 : mlK RL 84 mX11_fixed 2 := ⟨tb5 128 rfl rfl, lcX11_fixed⟩
theorem lvL_84 : mlV RL 84 mX11_fixed 11 2 := ⟨lkL_84, tb5 129 rfl rfl, tb5 130 rfl rfl, rfl⟩
theorem lcX11_fixedBy : Cond.initialized mX11_fixedBy.2.1.cls ∈ tbg ∧ Cond.code mX11_fixedBy.2.1 mX11_fixedBy.2.2.1 mX11_fixedBy.2.2.2.1 mX11_fixedBy.2.2.2.2 ∈ tbg ∧ (mX11_fixedBy.2.1.cls ≠ "java/lang/invoke/MethodHandle" ∧ mX11_fixedBy.2.1.cls ≠ "java/lang/invoke/VarHandle" ∧ (parseMethodDescriptor mX11_fixedBy.2.1.desc).map (fun d => d.parameters.length) = some 2) ∧ mX11_fixedBy.2.2.2.1 ≤ 21 := ⟨tb1 12 rfl rfl, tb5 135 rfl rfl, ⟨by decide +kernel, by decide +kernel, by decide +kernel⟩, by decide +kernel⟩
theorem lkX11_226 : mlK RX11 226 mX11_fixedBy 2 := ⟨tb5 132 rfl rfl, lcX11_fixedBy⟩
theorem lvX11_226 : mlV RX11 226 mX11_fixedBy 11 2 := ⟨lkX11_226, tb5 134 rfl rfl, tp3 15 rfl, rfl⟩
theorem lcX11_solutions : Cond.initialized mX11_solutions.2.1.cls ∈ tbg ∧ Cond.code mX11_solutions.2.1 mX11_solutions.2.2.1 mX11_solutions.2.2.2.1 mX11_solutions.2.2.2.2 ∈ tbg ∧ (mX11_solutions.2.1.cls ≠ "java/lang/invoke/MethodHandle" ∧ mX11_solutions.2.1.cls ≠ "java/lang/invoke/VarHandle" ∧ (parseMethodDescriptor mX11_solutions.2.1.desc).map (fun d => d.parameters.length) = some 2) ∧ mX11_solutions.2.2.2.1 ≤ 21 := ⟨tb1 12 rfl rfl, tb5 139 rfl rfl, ⟨by decide +kernel, by decide +kernel, by decide +kernel⟩, by decide +kernel⟩
theorem lkX11_222 : mlK RX11 222 mX11_solutions 2 := ⟨tb5 136 rfl rfl, lcX11_solutions⟩
theorem lvX11_222 : mlV RX11 222 mX11_solutions 11 2 := ⟨lkX11_222, tb5 138 rfl rfl, tp4 0 rfl, rfl⟩
theorem lcX11_stays : Cond.initialized mX11_stays.2.1.cls ∈ tbg ∧ Cond.code mX11_stays.2.1 mX11_stays.2.2.1 mX11_stays.2.2.2.1 mX11_stays.2.2.2.2 ∈ tbg ∧ (mX11_stays.2.1.cls ≠ "java/lang/invoke/MethodHandle" ∧ mX11_stays.2.1.cls ≠ "java/lang/invoke/VarHandle" ∧ (parseMethodDescriptor mX11_stays.2.1.desc).map (fun d => d.parameters.length) = some 3) ∧ mX11_stays.2.2.2.1 ≤ 21 := ⟨tb1 12 rfl rfl, tb5 143 rfl rfl, ⟨by decide +kernel, by decide +kernel, by decide +kernel⟩, by decide +kernel⟩
theorem lkX11_214 : mlK RX11 214 mX11_stays 3 := ⟨tb5 140 rfl rfl, lcX11_stays⟩
theorem lvX11_214 : mlV RX11 214 mX11_stays 11 3 := ⟨lkX11_214, tb5 142 rfl rfl, tp4 1 rfl, rfl⟩
theorem lcX11_sweeps : Cond.initialized mX11_sweeps.2.1.cls ∈ tbg ∧ Cond.code mX11_sweeps.2.1 mX11_sweeps.2.2.1 mX11_sweeps.2.2.2.1 mX11_sweeps.2.2.2.2 ∈ tbg ∧ (mX11_sweeps.2.1.cls ≠ "java/lang/invoke/MethodHandle" ∧ mX11_sweeps.2.1.cls ≠ "java/lang/invoke/VarHandle" ∧ (parseMethodDescriptor mX11_sweeps.2.1.desc).map (fun d => d.parameters.length) = some 5) ∧ mX11_sweeps.2.2.2.1 ≤ 21 := ⟨tb1 12 rfl rfl, tb5 147 rfl rfl, ⟨by decide +kernel, by decide +kernel, by decide +kernel⟩, by decide +kernel⟩
theorem lkX11_218 : mlK RX11 218 mX11_sweeps 5 := ⟨tb5 144 rfl rfl, lcX11_sweeps⟩
theorem lvX11_218 : mlV RX11 218 mX11_sweeps 11 5 := ⟨lkX11_218, tb5 146 rfl rfl, tp4 2 rfl, rfl⟩
theorem lcX11_rounds : Cond.initialized mX11_rounds.2.1.cls ∈ tbg ∧ Cond.code mX11_rounds.2.1 mX11_rounds.2.2.1 mX11_rounds.2.2.2.1 mX11_rounds.2.2.2.2 ∈ tbg ∧ (mX11_rounds.2.1.cls ≠ "java/lang/invoke/MethodHandle" ∧ mX11_rounds.2.1.cls ≠ "java/lang/invoke/VarHandle" ∧ (parseMethodDescriptor mX11_rounds.2.1.desc).map (fun d => d.parameters.length) = some 2) ∧ mX11_rounds.2.2.2.1 ≤ 21 := ⟨tb1 12 rfl rfl, tb5 151 rfl rfl, ⟨by decide +kernel, by decide +kernel, by decide +kernel⟩, by decide +kernel⟩
theorem lkL_88 : mlK RL 88 mX11_rounds 2 := ⟨tb5 148 rfl rfl, lcX11_rounds⟩
theorem lvL_88 : mlV RL 88 mX11_rounds 11 2 := ⟨lkL_88, tb5 149 rfl rfl, tb5 150 rfl rfl, rfl⟩
theorem lcX11_primesOf : Cond.initialized mX11_primesOf.2.1.cls ∈ tbg ∧ Cond.code mX11_primesOf.2.1 mX11_primesOf.2.2.1 mX11_primesOf.2.2.2.1 mX11_primesOf.2.2.2.2 ∈ tbg ∧ (mX11_primesOf.2.1.cls ≠ "java/lang/invoke/MethodHandle" ∧ mX11_primesOf.2.1.cls ≠ "java/lang/invoke/VarHandle" ∧ (parseMethodDescriptor mX11_primesOf.2.1.desc).map (fun d => d.parameters.length) = some 1) ∧ mX11_primesOf.2.2.2.1 ≤ 21 := ⟨tb1 12 rfl rfl, tb5 156 rfl rfl, ⟨by decide +kernel, by decide +kernel, by decide +kernel⟩, by decide +kernel⟩
theorem lkX11_235 : mlK RX11 235 mX11_primesOf 1 := ⟨tb5 153 rfl rfl, lcX11_primesOf⟩
theorem lvX11_235 : mlV RX11 235 mX11_primesOf 11 1 := ⟨lkX11_235, tb5 155 rfl rfl, tp4 3 rfl, rfl⟩
theorem lcX11_all : Cond.initialized mX11_all.2.1.cls ∈ tbg ∧ Cond.code mX11_all.2.1 mX11_all.2.2.1 mX11_all.2.2.2.1 mX11_all.2.2.2.2 ∈ tbg ∧ (mX11_all.2.1.cls ≠ "java/lang/invoke/MethodHandle" ∧ mX11_all.2.1.cls ≠ "java/lang/invoke/VarHandle" ∧ (parseMethodDescriptor mX11_all.2.1.desc).map (fun d => d.parameters.length) = some 1) ∧ mX11_all.2.2.2.1 ≤ 21 := ⟨tb1 12 rfl rfl, tb5 160 rfl rfl, ⟨by decide +kernel, by decide +kernel, by decide +kernel⟩, by decide +kernel⟩
theorem lkL_104 : mlK RL 104 mX11_all 1 := ⟨tb5 157 rfl rfl, lcX11_all⟩
theorem lvL_104 : mlV RL 104 mX11_all 11 1 := ⟨lkL_104, tb5 158 rfl rfl, tb5 159 rfl rfl, rfl⟩
theorem lcX11_check : Cond.initialized mX11_check.2.1.cls ∈ tbg ∧ Cond.code mX11_check.2.1 mX11_check.2.2.1 mX11_check.2.2.2.1 mX11_check.2.2.2.2 ∈ tbg ∧ (mX11_check.2.1.cls ≠ "java/lang/invoke/MethodHandle" ∧ mX11_check.2.1.cls ≠ "java/lang/invoke/VarHandle" ∧ (parseMethodDescriptor mX11_check.2.1.desc).map (fun d => d.parameters.length) = some 2) ∧ mX11_check.2.2.2.1 ≤ 21 := ⟨tb1 12 rfl rfl, tb5 164 rfl rfl, ⟨by decide +kernel, by decide +kernel, by decide +kernel⟩, by decide +kernel⟩
theorem lkL_154 : mlK RL 154 mX11_check 2 := ⟨tb5 161 rfl rfl, lcX11_check⟩
theorem lvL_154 : mlV RL 154 mX11_check 11 2 := ⟨lkL_154, tb5 162 rfl rfl, tb5 163 rfl rfl, rfl⟩
theorem lcX11_shortest : Cond.initialized mX11_shortest.2.1.cls ∈ tbg ∧ Cond.code mX11_shortest.2.1 mX11_shortest.2.2.1 mX11_shortest.2.2.2.1 mX11_shortest.2.2.2.2 ∈ tbg ∧ (mX11_shortest.2.1.cls ≠ "java/lang/invoke/MethodHandle" ∧ mX11_shortest.2.1.cls ≠ "java/lang/invoke/VarHandle" ∧ (parseMethodDescriptor mX11_shortest.2.1.desc).map (fun d => d.parameters.length) = some 2) ∧ mX11_shortest.2.2.2.1 ≤ 21 := ⟨tb1 12 rfl rfl, tb5 168 rfl rfl, ⟨by decide +kernel, by decide +kernel, by decide +kernel⟩, by decide +kernel⟩
theorem lkL_108 : mlK RL 108 mX11_shortest 2 := ⟨tb5 165 rfl rfl, lcX11_shortest⟩
theorem lvL_108 : mlV RL 108 mX11_shortest 11 2 := ⟨lkL_108, tb5 166 rfl rfl, tb5 167 rfl rfl, rfl⟩
theorem lcX11_isNet : Cond.initialized mX11_isNet.2.1.cls ∈ tbg ∧ Cond.code mX11_isNet.2.1 mX11_isNet.2.2.1 mX11_isNet.2.2.2.1 mX11_isNet.2.2.2.2 ∈ tbg ∧ (mX11_isNet.2.1.cls ≠ "java/lang/invoke/MethodHandle" ∧ mX11_isNet.2.1.cls ≠ "java/lang/invoke/VarHandle" ∧ (parseMethodDescriptor mX11_isNet.2.1.desc).map (fun d => d.parameters.length) = some 2) ∧ mX11_isNet.2.2.2.1 ≤ 21 := ⟨tb1 12 rfl rfl, tb5 172 rfl rfl, ⟨by decide +kernel, by decide +kernel, by decide +kernel⟩, by decide +kernel⟩
theorem lkX11_242 : mlK RX11 242 mX11_isNet 2 := ⟨tb5 169 rfl rfl, lcX11_isNet⟩
theorem lvX11_242 : mlV RX11 242 mX11_isNet 11 2 := ⟨lkX11_242, tb5 171 rfl rfl, tp4 4 rfl, rfl⟩
theorem lcX11_shortOf : Cond.initialized mX11_shortOf.2.1.cls ∈ tbg ∧ Cond.code mX11_shortOf.2.1 mX11_shortOf.2.2.1 mX11_shortOf.2.2.2.1 mX11_shortOf.2.2.2.2 ∈ tbg ∧ (mX11_shortOf.2.1.cls ≠ "java/lang/invoke/MethodHandle" ∧ mX11_shortOf.2.1.cls ≠ "java/lang/invoke/VarHandle" ∧ (parseMethodDescriptor mX11_shortOf.2.1.desc).map (fun d => d.parameters.length) = some 2) ∧ mX11_shortOf.2.2.2.1 ≤ 21 := ⟨tb1 12 rfl rfl, tb5 176 rfl rfl, ⟨by decide +kernel, by decide +kernel, by decide +kernel⟩, by decide +kernel⟩
theorem lkX11_245 : mlK RX11 245 mX11_shortOf 2 := ⟨tb5 173 rfl rfl, lcX11_shortOf⟩
theorem lvX11_245 : mlV RX11 245 mX11_shortOf 11 2 := ⟨lkX11_245, tb5 175 rfl rfl, tp4 5 rfl, rfl⟩
theorem lcX11_hasLine : Cond.initialized mX11_hasLine.2.1.cls ∈ tbg ∧ Cond.code mX11_hasLine.2.1 mX11_hasLine.2.2.1 mX11_hasLine.2.2.2.1 mX11_hasLine.2.2.2.2 ∈ tbg ∧ (mX11_hasLine.2.1.cls ≠ "java/lang/invoke/MethodHandle" ∧ mX11_hasLine.2.1.cls ≠ "java/lang/invoke/VarHandle" ∧ (parseMethodDescriptor mX11_hasLine.2.1.desc).map (fun d => d.parameters.length) = some 3) ∧ mX11_hasLine.2.2.2.1 ≤ 21 := ⟨tb1 12 rfl rfl, tb5 180 rfl rfl, ⟨by decide +kernel, by decide +kernel, by decide +kernel⟩, by decide +kernel⟩
theorem lkX11_238 : mlK RX11 238 mX11_hasLine 3 := ⟨tb5 177 rfl rfl, lcX11_hasLine⟩
theorem lvX11_238 : mlV RX11 238 mX11_hasLine 11 3 := ⟨lkX11_238, tb5 179 rfl rfl, tp4 6 rfl, rfl⟩
theorem lcX11_line : Cond.initialized mX11_line.2.1.cls ∈ tbg ∧ Cond.code mX11_line.2.1 mX11_line.2.2.1 mX11_line.2.2.2.1 mX11_line.2.2.2.2 ∈ tbg ∧ (mX11_line.2.1.cls ≠ "java/lang/invoke/MethodHandle" ∧ mX11_line.2.1.cls ≠ "java/lang/invoke/VarHandle" ∧ (parseMethodDescriptor mX11_line.2.1.desc).map (fun d => d.parameters.length) = some 3) ∧ mX11_line.2.2.2.1 ≤ 21 := ⟨tb1 12 rfl rfl, tb5 184 rfl rfl, ⟨by decide +kernel, by decide +kernel, by decide +kernel⟩, by decide +kernel⟩
theorem lkL_112 : mlK RL 112 mX11_line 3 := ⟨tb5 181 rfl rfl, lcX11_line⟩
theorem lvL_112 : mlV RL 112 mX11_line 11 3 := ⟨lkL_112, tb5 182 rfl rfl, tb5 183 rfl rfl, rfl⟩
theorem lcX11_paint : Cond.initialized mX11_paint.2.1.cls ∈ tbg ∧ Cond.code mX11_paint.2.1 mX11_paint.2.2.1 mX11_paint.2.2.2.1 mX11_paint.2.2.2.2 ∈ tbg ∧ (mX11_paint.2.1.cls ≠ "java/lang/invoke/MethodHandle" ∧ mX11_paint.2.1.cls ≠ "java/lang/invoke/VarHandle" ∧ (parseMethodDescriptor mX11_paint.2.1.desc).map (fun d => d.parameters.length) = some 4) ∧ mX11_paint.2.2.2.1 ≤ 21 := ⟨tb1 12 rfl rfl, tb5 188 rfl rfl, ⟨by decide +kernel, by decide +kernel, by decide +kernel⟩, by decide +kernel⟩
theorem lkL_116 : mlK RL 116 mX11_paint 4 := ⟨tb5 185 rfl rfl, lcX11_paint⟩
theorem lvL_116 : mlV RL 116 mX11_paint 11 4 := ⟨lkL_116, tb5 186 rfl rfl, tb5 187 rfl rfl, rfl⟩
theorem lcX11_isCell : Cond.initialized mX11_isCell.2.1.cls ∈ tbg ∧ Cond.code mX11_isCell.2.1 mX11_isCell.2.2.1 mX11_isCell.2.2.2.1 mX11_isCell.2.2.2.2 ∈ tbg ∧ (mX11_isCell.2.1.cls ≠ "java/lang/invoke/MethodHandle" ∧ mX11_isCell.2.1.cls ≠ "java/lang/invoke/VarHandle" ∧ (parseMethodDescriptor mX11_isCell.2.1.desc).map (fun d => d.parameters.length) = some 3) ∧ mX11_isCell.2.2.2.1 ≤ 21 := ⟨tb1 12 rfl rfl, tb5 192 rfl rfl, ⟨by decide +kernel, by decide +kernel, by decide +kernel⟩, by decide +kernel⟩
theorem lkX11_251 : mlK RX11 251 mX11_isCell 3 := ⟨tb5 189 rfl rfl, lcX11_isCell⟩
theorem lvX11_251 : mlV RX11 251 mX11_isCell 11 3 := ⟨lkX11_251, tb5 191 rfl rfl, tp4 7 rfl, rfl⟩
theorem lcX11_isPicture : Cond.initialized mX11_isPicture.2.1.cls ∈ tbg ∧ Cond.code mX11_isPicture.2.1 mX11_isPicture.2.2.1 mX11_isPicture.2.2.2.1 mX11_isPicture.2.2.2.2 ∈ tbg ∧ (mX11_isPicture.2.1.cls ≠ "java/lang/invoke/MethodHandle" ∧ mX11_isPicture.2.1.cls ≠ "java/lang/invoke/VarHandle" ∧ (parseMethodDescriptor mX11_isPicture.2.1.desc).map (fun d => d.parameters.length) = some 1) ∧ mX11_isPicture.2.2.2.1 ≤ 21 := ⟨tb1 12 rfl rfl, tb5 196 rfl rfl, ⟨by decide +kernel, by decide +kernel, by decide +kernel⟩, by decide +kernel⟩
theorem lkX11_248 : mlK RX11 248 mX11_isPicture 1 := ⟨tb5 193 rfl rfl, lcX11_isPicture⟩
theorem lvX11_248 : mlV RX11 248 mX11_isPicture 11 1 := ⟨lkX11_248, tb5 195 rfl rfl, tp4 8 rfl, rfl⟩
theorem lcX11_picture : Cond.initialized mX11_picture.2.1.cls ∈ tbg ∧ Cond.code mX11_picture.2.1 mX11_picture.2.2.1 mX11_picture.2.2.2.1 mX11_picture.2.2.2.2 ∈ tbg ∧ (mX11_picture.2.1.cls ≠ "java/lang/invoke/MethodHandle" ∧ mX11_picture.2.1.cls ≠ "java/lang/invoke/VarHandle" ∧ (parseMethodDescriptor mX11_picture.2.1.desc).map (fun d => d.parameters.length) = some 3) ∧ mX11_picture.2.2.2.1 ≤ 21 := ⟨tb1 12 rfl rfl, tb5 200 rfl rfl, ⟨by decide +kernel, by decide +kernel, by decide +kernel⟩, by decide +kernel⟩
theorem lkL_120 : mlK RL 120 mX11_picture 3 := ⟨tb5 197 rfl rfl, lcX11_picture⟩
theorem lvL_120 : mlV RL 120 mX11_picture 11 3 := ⟨lkL_120, tb5 198 rfl rfl, tb5 199 rfl rfl, rfl⟩
theorem lcX11_move : Cond.initialized mX11_move.2.1.cls ∈ tbg ∧ Cond.code mX11_move.2.1 mX11_move.2.2.1 mX11_move.2.2.2.1 mX11_move.2.2.2.2 ∈ tbg ∧ (mX11_move.2.1.cls ≠ "java/lang/invoke/MethodHandle" ∧ mX11_move.2.1.cls ≠ "java/lang/invoke/VarHandle" ∧ (parseMethodDescriptor mX11_move.2.1.desc).map (fun d => d.parameters.length) = some 2) ∧ mX11_move.2.2.2.1 ≤ 21 := ⟨tb1 12 rfl rfl, tb5 204 rfl rfl, ⟨by decide +kernel, by decide +kernel, by decide +kernel⟩, by decide +kernel⟩
theorem lkL_124 : mlK RL 124 mX11_move 2 := ⟨tb5 201 rfl rfl, lcX11_move⟩
theorem lvL_124 : mlV RL 124 mX11_move 11 2 := ⟨lkL_124, tb5 202 rfl rfl, tb5 203 rfl rfl, rfl⟩
theorem lcX11_cellBehind : Cond.initialized mX11_cellBehind.2.1.cls ∈ tbg ∧ Cond.code mX11_cellBehind.2.1 mX11_cellBehind.2.2.1 mX11_cellBehind.2.2.2.1 mX11_cellBehind.2.2.2.2 ∈ tbg ∧ (mX11_cellBehind.2.1.cls ≠ "java/lang/invoke/MethodHandle" ∧ mX11_cellBehind.2.1.cls ≠ "java/lang/invoke/VarHandle" ∧ (parseMethodDescriptor mX11_cellBehind.2.1.desc).map (fun d => d.parameters.length) = some 3) ∧ mX11_cellBehind.2.2.2.1 ≤ 21 := ⟨tb1 12 rfl rfl, tb5 208 rfl rfl, ⟨by decide +kernel, by decide +kernel, by decide +kernel⟩, by decide +kernel⟩
theorem lkX11_254 : mlK RX11 254 mX11_cellBehind 3 := ⟨tb5 205 rfl rfl, lcX11_cellBehind⟩
theorem lvX11_254 : mlV RX11 254 mX11_cellBehind 11 3 := ⟨lkX11_254, tb5 207 rfl rfl, tp4 9 rfl, rfl⟩
theorem lcX11_seen : Cond.initialized mX11_seen.2.1.cls ∈ tbg ∧ Cond.code mX11_seen.2.1 mX11_seen.2.2.1 mX11_seen.2.2.2.1 mX11_seen.2.2.2.2 ∈ tbg ∧ (mX11_seen.2.1.cls ≠ "java/lang/invoke/MethodHandle" ∧ mX11_seen.2.1.cls ≠ "java/lang/invoke/VarHandle" ∧ (parseMethodDescriptor mX11_seen.2.1.desc).map (fun d => d.parameters.length) = some 1) ∧ mX11_seen.2.2.2.1 ≤ 21 := ⟨tb1 12 rfl rfl, tb5 212 rfl rfl, ⟨by decide +kernel, by decide +kernel, by decide +kernel⟩, by decide +kernel⟩
theorem lkL_128 : mlK RL 128 mX11_seen 1 := ⟨tb5 209 rfl rfl, lcX11_seen⟩
theorem lvL_128 : mlV RL 128 mX11_seen 11 1 := ⟨lkL_128, tb5 210 rfl rfl, tb5 211 rfl rfl, rfl⟩
theorem lcX11_cycleFrom : Cond.initialized mX11_cycleFrom.2.1.cls ∈ tbg ∧ Cond.code mX11_cycleFrom.2.1 mX11_cycleFrom.2.2.1 mX11_cycleFrom.2.2.2.1 mX11_cycleFrom.2.2.2.2 ∈ tbg ∧ (mX11_cycleFrom.2.1.cls ≠ "java/lang/invoke/MethodHandle" ∧ mX11_cycleFrom.2.1.cls ≠ "java/lang/invoke/VarHandle" ∧ (parseMethodDescriptor mX11_cycleFrom.2.1.desc).map (fun d => d.parameters.length) = some 2) ∧ mX11_cycleFrom.2.2.2.1 ≤ 21 := ⟨tb1 12 rfl rfl, tb5 216 rfl rfl, ⟨by decide +kernel, by decide +kernel, by decide +kernel⟩, by decide +kernel⟩
theorem lkX11_258 : mlK RX11 258 mX11_cycleFrom 2 := ⟨tb5 213 rfl rfl, lcX11_cycleFrom⟩
theorem lvX11_258 : mlV RX11 258 mX11_cycleFrom 11 2 := ⟨lkX11_258, tb5 215 rfl rfl, tp4 10 rfl, rfl⟩
theorem lcX11_periodOf : Cond.initialized mX11_periodOf.2.1.cls ∈ tbg ∧ Cond.code mX11_periodOf.2.1 mX11_periodOf.2.2.1 mX11_periodOf.2.2.2.1 mX11_periodOf.2.2.2.2 ∈ tbg ∧ (mX11_periodOf.2.1.cls ≠ "java/lang/invoke/MethodHandle" ∧ mX11_periodOf.2.1.cls ≠ "java/lang/invoke/VarHandle" ∧ (parseMethodDescriptor mX11_periodOf.2.1.desc).map (fun d => d.parameters.length) = some 2) ∧ mX11_periodOf.2.2.2.1 ≤ 21 := ⟨tb1 12 rfl rfl, tb5 220 rfl rfl, ⟨by decide +kernel, by decide +kernel, by decide +kernel⟩, by decide +kernel⟩
theorem lkX11_261 : mlK RX11 261 mX11_periodOf 2 := ⟨tb5 217 rfl rfl, lcX11_periodOf⟩
theorem lvX11_261 : mlV RX11 261 mX11_periodOf 11 2 := ⟨lkX11_261, tb5 219 rfl rfl, tp4 11 rfl, rfl⟩
theorem lcX11_repeats : Cond.initialized mX11_repeats.2.1.cls ∈ tbg ∧ Cond.code mX11_repeats.2.1 mX11_repeats.2.2.1 mX11_repeats.2.2.2.1 mX11_repeats.2.2.2.2 ∈ tbg ∧ (mX11_repeats.2.1.cls ≠ "java/lang/invoke/MethodHandle" ∧ mX11_repeats.2.1.cls ≠ "java/lang/invoke/VarHandle" ∧ (parseMethodDescriptor mX11_repeats.2.1.desc).map (fun d => d.parameters.length) = some 3) ∧ mX11_repeats.2.2.2.1 ≤ 21 := ⟨tb1 12 rfl rfl, tb5 224 rfl rfl, ⟨by decide +kernel, by decide +kernel, by decide +kernel⟩, by decide +kernel⟩
theorem lkX11_264 : mlK RX11 264 mX11_repeats 3 := ⟨tb5 221 rfl rfl, lcX11_repeats⟩
theorem lvX11_264 : mlV RX11 264 mX11_repeats 11 3 := ⟨lkX11_264, tb5 223 rfl rfl, tp4 12 rfl, rfl⟩
theorem lcX11_begin : Cond.initialized mX11_begin.2.1.cls ∈ tbg ∧ Cond.code mX11_begin.2.1 mX11_begin.2.2.1 mX11_begin.2.2.2.1 mX11_begin.2.2.2.2 ∈ tbg ∧ (mX11_begin.2.1.cls ≠ "java/lang/invoke/MethodHandle" ∧ mX11_begin.2.1.cls ≠ "java/lang/invoke/VarHandle" ∧ (parseMethodDescriptor mX11_begin.2.1.desc).map (fun d => d.parameters.length) = some 1) ∧ mX11_begin.2.2.2.1 ≤ 21 := ⟨tb1 12 rfl rfl, tb5 228 rfl rfl, ⟨by decide +kernel, by decide +kernel, by decide +kernel⟩, by decide +kernel⟩
theorem lkL_132 : mlK RL 132 mX11_begin 1 := ⟨tb5 225 rfl rfl, lcX11_begin⟩
theorem lvL_132 : mlV RL 132 mX11_begin 11 1 := ⟨lkL_132, tb5 226 rfl rfl, tb5 227 rfl rfl, rfl⟩
theorem lcX11_tell : Cond.initialized mX11_tell.2.1.cls ∈ tbg ∧ Cond.code mX11_tell.2.1 mX11_tell.2.2.1 mX11_tell.2.2.2.1 mX11_tell.2.2.2.2 ∈ tbg ∧ (mX11_tell.2.1.cls ≠ "java/lang/invoke/MethodHandle" ∧ mX11_tell.2.1.cls ≠ "java/lang/invoke/VarHandle" ∧ (parseMethodDescriptor mX11_tell.2.1.desc).map (fun d => d.parameters.length) = some 1) ∧ mX11_tell.2.2.2.1 ≤ 21 := ⟨tb1 12 rfl rfl, tb5 232 rfl rfl, ⟨by decide +kernel, by decide +kernel, by decide +kernel⟩, by decide +kernel⟩
theorem lkL_136 : mlK RL 136 mX11_tell 1 := ⟨tb5 229 rfl rfl, lcX11_tell⟩
theorem lvL_136 : mlV RL 136 mX11_tell 11 1 := ⟨lkL_136, tb5 230 rfl rfl, tb5 231 rfl rfl, rfl⟩
theorem lcX11_least : Cond.initialized mX11_least.2.1.cls ∈ tbg ∧ Cond.code mX11_least.2.1 mX11_least.2.2.1 mX11_least.2.2.2.1 mX11_least.2.2.2.2 ∈ tbg ∧ (mX11_least.2.1.cls ≠ "java/lang/invoke/MethodHandle" ∧ mX11_least.2.1.cls ≠ "java/lang/invoke/VarHandle" ∧ (parseMethodDescriptor mX11_least.2.1.desc).map (fun d => d.parameters.length) = some 0) ∧ mX11_least.2.2.2.1 ≤ 21 := ⟨tb1 12 rfl rfl, tb5 236 rfl rfl, ⟨by decide +kernel, by decide +kernel, by decide +kernel⟩, by decide +kernel⟩
theorem lkL_141 : mlK RL 141 mX11_least 0 := ⟨tb5 233 rfl rfl, lcX11_least⟩
theorem lvL_141 : mlV RL 141 mX11_least 11 0 := ⟨lkL_141, tb5 234 rfl rfl, tb5 235 rfl rfl, rfl⟩
theorem lcX11_leastRule : Cond.initialized mX11_leastRule.2.1.cls ∈ tbg ∧ Cond.code mX11_leastRule.2.1 mX11_leastRule.2.2.1 mX11_leastRule.2.2.2.1 mX11_leastRule.2.2.2.2 ∈ tbg ∧ (mX11_leastRule.2.1.cls ≠ "java/lang/invoke/MethodHandle" ∧ mX11_leastRule.2.1.cls ≠ "java/lang/invoke/VarHandle" ∧ (parseMethodDescriptor mX11_leastRule.2.1.desc).map (fun d => d.parameters.length) = some 0) ∧ mX11_leastRule.2.2.2.1 ≤ 21 := ⟨tb1 12 rfl rfl, tb6 0 rfl rfl, ⟨by decide +kernel, by decide +kernel, by decide +kernel⟩, by decide +kernel⟩
theorem lkX11_285 : mlK RX11 285 mX11_leastRule 0 := ⟨tb5 237 rfl rfl, lcX11_leastRule⟩
theorem lvX11_285 : mlV RX11 285 mX11_leastRule 11 0 := ⟨lkX11_285, tb5 239 rfl rfl, tp4 13 rfl, rfl⟩
theorem lcX11_hasRule : Cond.initialized mX11_hasRule.2.1.cls ∈ tbg ∧ Cond.code mX11_hasRule.2.1 mX11_hasRule.2.2.1 mX11_hasRule.2.2.2.1 mX11_hasRule.2.2.2.2 ∈ tbg ∧ (mX11_hasRule.2.1.cls ≠ "java/lang/invoke/MethodHandle" ∧ mX11_hasRule.2.1.cls ≠ "java/lang/invoke/VarHandle" ∧ (parseMethodDescriptor mX11_hasRule.2.1.desc).map (fun d => d.parameters.length) = some 1) ∧ mX11_hasRule.2.2.2.1 ≤ 21 := ⟨tb1 12 rfl rfl, tb6 4 rfl rfl, ⟨by decide +kernel, by decide +kernel, by decide +kernel⟩, by decide +kernel⟩
theorem lkX11_282 : mlK RX11 282 mX11_hasRule 1 := ⟨tb6 1 rfl rfl, lcX11_hasRule⟩
theorem lvX11_282 : mlV RX11 282 mX11_hasRule 11 1 := ⟨lkX11_282, tb6 3 rfl rfl, tp4 14 rfl, rfl⟩
theorem lcX11_clears : Cond.initialized mX11_clears.2.1.cls ∈ tbg ∧ Cond.code mX11_clears.2.1 mX11_clears.2.2.1 mX11_clears.2.2.2.1 mX11_clears.2.2.2.2 ∈ tbg ∧ (mX11_clears.2.1.cls ≠ "java/lang/invoke/MethodHandle" ∧ mX11_clears.2.1.cls ≠ "java/lang/invoke/VarHandle" ∧ (parseMethodDescriptor mX11_clears.2.1.desc).map (fun d => d.parameters.length) = some 5) ∧ mX11_clears.2.2.2.1 ≤ 21 := ⟨tb1 12 rfl rfl, tb6 8 rfl rfl, ⟨by decide +kernel, by decide +kernel, by decide +kernel⟩, by decide +kernel⟩
theorem lkX11_273 : mlK RX11 273 mX11_clears 5 := ⟨tb6 5 rfl rfl, lcX11_clears⟩
theorem lvX11_273 : mlV RX11 273 mX11_clears 11 5 := ⟨lkX11_273, tb6 7 rfl rfl, tp4 15 rfl, rfl⟩
theorem lcX11_inverse : Cond.initialized mX11_inverse.2.1.cls ∈ tbg ∧ Cond.code mX11_inverse.2.1 mX11_inverse.2.2.1 mX11_inverse.2.2.2.1 mX11_inverse.2.2.2.2 ∈ tbg ∧ (mX11_inverse.2.1.cls ≠ "java/lang/invoke/MethodHandle" ∧ mX11_inverse.2.1.cls ≠ "java/lang/invoke/VarHandle" ∧ (parseMethodDescriptor mX11_inverse.2.1.desc).map (fun d => d.parameters.length) = some 1) ∧ mX11_inverse.2.2.2.1 ≤ 21 := ⟨tb1 12 rfl rfl, tb6 12 rfl rfl, ⟨by decide +kernel, by decide +kernel, by decide +kernel⟩, by decide +kernel⟩
theorem lkX11_279 : mlK RX11 279 mX11_inverse 1 := ⟨tb6 9 rfl rfl, lcX11_inverse⟩
theorem lvX11_279 : mlV RX11 279 mX11_inverse 11 1 := ⟨lkX11_279, tb6 11 rfl rfl, tp5 0 rfl, rfl⟩
theorem lcX11_settlesRule : Cond.initialized mX11_settlesRule.2.1.cls ∈ tbg ∧ Cond.code mX11_settlesRule.2.1 mX11_settlesRule.2.2.1 mX11_settlesRule.2.2.2.1 mX11_settlesRule.2.2.2.2 ∈ tbg ∧ (mX11_settlesRule.2.1.cls ≠ "java/lang/invoke/MethodHandle" ∧ mX11_settlesRule.2.1.cls ≠ "java/lang/invoke/VarHandle" ∧ (parseMethodDescriptor mX11_settlesRule.2.1.desc).map (fun d => d.parameters.length) = some 1) ∧ mX11_settlesRule.2.2.2.1 ≤ 21 := ⟨tb1 12 rfl rfl, tb6 16 rfl rfl, ⟨by decide +kernel, by decide +kernel, by decide +kernel⟩, by decide +kernel⟩
theorem lkX11_276 : mlK RX11 276 mX11_settlesRule 1 := ⟨tb6 13 rfl rfl, lcX11_settlesRule⟩
theorem lvX11_276 : mlV RX11 276 mX11_settlesRule 11 1 := ⟨lkX11_276, tb6 15 rfl rfl, tp5 1 rfl, rfl⟩
theorem lcX11_shown : Cond.initialized mX11_shown.2.1.cls ∈ tbg ∧ Cond.code mX11_shown.2.1 mX11_shown.2.2.1 mX11_shown.2.2.2.1 mX11_shown.2.2.2.2 ∈ tbg ∧ (mX11_shown.2.1.cls ≠ "java/lang/invoke/MethodHandle" ∧ mX11_shown.2.1.cls ≠ "java/lang/invoke/VarHandle" ∧ (parseMethodDescriptor mX11_shown.2.1.desc).map (fun d => d.parameters.length) = some 0) ∧ mX11_shown.2.2.2.1 ≤ 21 := ⟨tb1 12 rfl rfl, tb6 20 rfl rfl, ⟨by decide +kernel, by decide +kernel, by decide +kernel⟩, by decide +kernel⟩
theorem lkL_145 : mlK RL 145 mX11_shown 0 := ⟨tb6 17 rfl rfl, lcX11_shown⟩
theorem lvL_145 : mlV RL 145 mX11_shown 11 0 := ⟨lkL_145, tb6 18 rfl rfl, tb6 19 rfl rfl, rfl⟩
theorem lcX11_rule : Cond.initialized mX11_rule.2.1.cls ∈ tbg ∧ Cond.code mX11_rule.2.1 mX11_rule.2.2.1 mX11_rule.2.2.2.1 mX11_rule.2.2.2.2 ∈ tbg ∧ (mX11_rule.2.1.cls ≠ "java/lang/invoke/MethodHandle" ∧ mX11_rule.2.1.cls ≠ "java/lang/invoke/VarHandle" ∧ (parseMethodDescriptor mX11_rule.2.1.desc).map (fun d => d.parameters.length) = some 1) ∧ mX11_rule.2.2.2.1 ≤ 21 := ⟨tb1 12 rfl rfl, tb6 24 rfl rfl, ⟨by decide +kernel, by decide +kernel, by decide +kernel⟩, by decide +kernel⟩
theorem lkL_149 : mlK RL 149 mX11_rule 1 := ⟨tb6 21 rfl rfl, lcX11_rule⟩
theorem lvL_149 : mlV RL 149 mX11_rule 11 1 := ⟨lkL_149, tb6 22 rfl rfl, tb6 23 rfl rfl, rfl⟩
theorem kcJ6_264 : Cond.constant RJ6 264 (Int32.ofInt (65536)) ∈ tbg := tb2 212 rfl rfl
theorem kcX6_39 : Cond.constantLong RX6 39 (Int64.ofInt (32)) ∈ tbg := tb3 39 rfl rfl
theorem kcX10_110 : Cond.constantLong RX10 110 (Int64.ofInt (-1)) ∈ tbg := tb3 75 rfl rfl
theorem kcX8_92 : Cond.constantLong RX8 92 (Int64.ofInt (32)) ∈ tbg := tb3 80 rfl rfl
theorem kcX10_123 : Cond.constantLong RX10 123 (Int64.ofInt (1000000000000)) ∈ tbg := tb3 141 rfl rfl
theorem kcJ6_265 : Cond.constant RJ6 265 (Int32.ofInt (1431655765)) ∈ tbg := tb3 154 rfl rfl
theorem kcJ6_266 : Cond.constant RJ6 266 (Int32.ofInt (858993459)) ∈ tbg := tb3 155 rfl rfl
theorem kcJ6_267 : Cond.constant RJ6 267 (Int32.ofInt (252645135)) ∈ tbg := tb3 156 rfl rfl
theorem kcX2_25 : Cond.constant RX2 25 (Int32.ofInt (1000000)) ∈ tbg := tb3 202 rfl rfl
theorem kcX11_127 : Cond.constantLong RX11 127 (Int64.ofInt (2)) ∈ tbg := tb5 15 rfl rfl
theorem kcX11_174 : Cond.constantLong RX11 174 (Int64.ofInt (5)) ∈ tbg := tb5 87 rfl rfl
theorem kcX11_184 : Cond.constantLong RX11 184 (Int64.ofInt (64)) ∈ tbg := tb5 92 rfl rfl
theorem kcX11_206 : Cond.constantLong RX11 206 (Int64.ofInt (-1)) ∈ tbg := tb5 107 rfl rfl
theorem kcX11_233 : Cond.constantLong RX11 233 (Int64.ofInt (1000000000000)) ∈ tbg := tb5 152 rfl rfl
theorem kcL_55 : Cond.constantLong RL 55 (Int64.ofInt (4294967295)) ∈ tbg := tb6 25 rfl rfl
