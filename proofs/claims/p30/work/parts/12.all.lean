/-! ===== all methods of the table ===== -/
set_option maxRecDepth 100000 in
theorem zhall_0 (k : Nat) (h1 : 0 ≤ k) (h2 : k < 12) : zall (zgood zmt (zmt k)) (zP k) := by
  rcases (show k = 0 ∨ k = 1 ∨ k = 2 ∨ k = 3 ∨ k = 4 ∨ k = 5 ∨ k = 6 ∨ k = 7 ∨ k = 8 ∨ k = 9 ∨ k = 10 ∨ k = 11 by omega) with rfl | rfl | rfl | rfl | rfl | rfl | rfl | rfl | rfl | rfl | rfl | rfl
  · exact za_X0_init
  · exact za_X0_become
  · exact za_X0_addTimes
  · exact za_X0_becomeMoment
  · exact za_X0_showing
  · exact za_X1_init
  · exact za_X1_gather
  · exact za_X1_isLeastOfOrbit
  · exact za_X1_append
  · exact za_X1_addPowers
  · exact za_X1_findFewest
  · exact za_X1_weigh
set_option maxRecDepth 100000 in
theorem zhall_12 (k : Nat) (h1 : 12 ≤ k) (h2 : k < 24) : zall (zgood zmt (zmt k)) (zP k) := by
  rcases (show k = 12 ∨ k = 13 ∨ k = 14 ∨ k = 15 ∨ k = 16 ∨ k = 17 ∨ k = 18 ∨ k = 19 ∨ k = 20 ∨ k = 21 ∨ k = 22 ∨ k = 23 by omega) with rfl | rfl | rfl | rfl | rfl | rfl | rfl | rfl | rfl | rfl | rfl | rfl
  · exact za_X1_bringToOneLower
  · exact za_X1_isRightUpTo
  · exact za_X2_init
  · exact za_X2_gather
  · exact za_X2_insertBothWays
  · exact za_X2_insert
  · exact za_X2_isAhead
  · exact za_X3_init
  · exact za_X3_startAnew
  · exact za_X3_copyFrom
  · exact za_X3_has
  · exact za_X3_isWithin
set_option maxRecDepth 100000 in
theorem zhall_24 (k : Nat) (h1 : 24 ≤ k) (h2 : k < 36) : zall (zgood zmt (zmt k)) (zP k) := by
  rcases (show k = 24 ∨ k = 25 ∨ k = 26 ∨ k = 27 ∨ k = 28 ∨ k = 29 ∨ k = 30 ∨ k = 31 ∨ k = 32 ∨ k = 33 ∨ k = 34 ∨ k = 35 by omega) with rfl | rfl | rfl | rfl | rfl | rfl | rfl | rfl | rfl | rfl | rfl | rfl
  · exact za_X3_numberOf
  · exact za_X3_refusalOutside
  · exact za_X3_add
  · exact za_X3_addAll
  · exact za_X3_takeOut
  · exact za_X3_weighedPowers
  · exact za_X4_init
  · exact za_X4_renew
  · exact za_X4_empty
  · exact za_X4_hasNothing
  · exact za_X4_isOfOtherLane
  · exact za_X4_hasCells
set_option maxRecDepth 100000 in
theorem zhall_36 (k : Nat) (h1 : 36 ≤ k) (h2 : k < 48) : zall (zgood zmt (zmt k)) (zP k) := by
  rcases (show k = 36 ∨ k = 37 ∨ k = 38 ∨ k = 39 ∨ k = 40 ∨ k = 41 ∨ k = 42 ∨ k = 43 ∨ k = 44 ∨ k = 45 ∨ k = 46 ∨ k = 47 by omega) with rfl | rfl | rfl | rfl | rfl | rfl | rfl | rfl | rfl | rfl | rfl | rfl
  · exact za_X4_write
  · exact za_X5_init
  · exact za_X5_begin
  · exact za_X5_moment
  · exact za_X5_place
  · exact za_X5_orbit
  · exact za_X5_places
  · exact za_X5_drop
  · exact za_X5_about
  · exact za_X5_sum
  · exact za_X5_error
  · exact za_X5_degree
set_option maxRecDepth 100000 in
theorem zhall_48 (k : Nat) (h1 : 48 ≤ k) (h2 : k < 60) : zall (zgood zmt (zmt k)) (zP k) := by
  rcases (show k = 48 ∨ k = 49 ∨ k = 50 ∨ k = 51 ∨ k = 52 ∨ k = 53 ∨ k = 54 ∨ k = 55 ∨ k = 56 ∨ k = 57 ∨ k = 58 ∨ k = 59 by omega) with rfl | rfl | rfl | rfl | rfl | rfl | rfl | rfl | rfl | rfl | rfl | rfl
  · exact za_X5_first
  · exact za_X5_is
  · exact za_X5_least
  · exact za_X5_keep
  · exact za_X5_load
  · exact za_X5_pair
  · exact za_X5_term
  · exact za_X5_whole
  · exact za_X5_byRule
  · exact za_X5_sheet
  · exact za_X5_lose
  · exact za_X5_put
set_option maxRecDepth 100000 in
theorem zhall_60 (k : Nat) (h1 : 60 ≤ k) (h2 : k < 72) : zall (zgood zmt (zmt k)) (zP k) := by
  rcases (show k = 60 ∨ k = 61 ∨ k = 62 ∨ k = 63 ∨ k = 64 ∨ k = 65 ∨ k = 66 ∨ k = 67 ∨ k = 68 ∨ k = 69 ∨ k = 70 ∨ k = 71 by omega) with rfl | rfl | rfl | rfl | rfl | rfl | rfl | rfl | rfl | rfl | rfl | rfl
  · exact za_X5_at
  · exact za_X5_tell
  · exact za_X5_count
  · exact za_X5_as
  · exact za_X5_trace
  · exact za_X5_fault
  · exact za_X5_told
  · exact za_X5_isFrom
  · exact za_X5_arePowers
  · exact za_X5_power
  · exact za_X5_fillPowers
  · exact za_X5_commonDivisor
set_option maxRecDepth 100000 in
theorem zhall_72 (k : Nat) (h1 : 72 ≤ k) (h2 : k < 84) : zall (zgood zmt (zmt k)) (zP k) := by
  rcases (show k = 72 ∨ k = 73 ∨ k = 74 ∨ k = 75 ∨ k = 76 ∨ k = 77 ∨ k = 78 ∨ k = 79 ∨ k = 80 ∨ k = 81 ∨ k = 82 ∨ k = 83 by omega) with rfl | rfl | rfl | rfl | rfl | rfl | rfl | rfl | rfl | rfl | rfl | rfl
  · exact za_X5_liesIn
  · exact za_X5_failed
  · exact za_X5_refusalOfOrbit
  · exact za_X5_addFrom
  · exact za_X5_sizeOfOrbit
  · exact za_X5_findSum
  · exact za_X5_findError
  · exact za_X5_firstWrongTerm
  · exact za_X5_areAllWithin
  · exact za_X5_areAllAbove
  · exact za_X5_isEven
  · exact za_X5_isOrbitOfWeight
set_option maxRecDepth 100000 in
theorem zhall_84 (k : Nat) (h1 : 84 ≤ k) (h2 : k < 96) : zall (zgood zmt (zmt k)) (zP k) := by
  rcases (show k = 84 ∨ k = 85 ∨ k = 86 ∨ k = 87 ∨ k = 88 ∨ k = 89 ∨ k = 90 ∨ k = 91 ∨ k = 92 ∨ k = 93 ∨ k = 94 ∨ k = 95 by omega) with rfl | rfl | rfl | rfl | rfl | rfl | rfl | rfl | rfl | rfl | rfl | rfl
  · exact za_X5_becomePair
  · exact za_X5_findSumOfCut
  · exact za_X5_sumMoved
  · exact za_X5_valueAt
  · exact za_X5_faultOfReading
  · exact za_X5_kindOf
  · exact za_X5_leaveTrace
  · exact za_X5_tellAlone
  · exact za_X5_tellOfMany
  · exact za_X5_tellAstray
  · exact za_X5_countLent
  · exact za_X5_countAstray
set_option maxRecDepth 100000 in
theorem zhall_96 (k : Nat) (h1 : 96 ≤ k) (h2 : k < 108) : zall (zgood zmt (zmt k)) (zP k) := by
  rcases (show k = 96 ∨ k = 97 ∨ k = 98 ∨ k = 99 ∨ k = 100 ∨ k = 101 ∨ k = 102 ∨ k = 103 ∨ k = 104 ∨ k = 105 ∨ k = 106 ∨ k = 107 by omega) with rfl | rfl | rfl | rfl | rfl | rfl | rfl | rfl | rfl | rfl | rfl | rfl
  · exact za_X5_howManyKept
  · exact za_X6_init
  · exact za_X6_fails
  · exact za_X6_lost
  · exact za_X6_within
  · exact za_X6_size
  · exact za_X6_common
  · exact za_X6_fraction
  · exact za_X6_add
  · exact za_X6_part
  · exact za_X6_power
  · exact za_X6_factorial
set_option maxRecDepth 100000 in
theorem zhall_108 (k : Nat) (h1 : 108 ≤ k) (h2 : k < 120) : zall (zgood zmt (zmt k)) (zP k) := by
  rcases (show k = 108 ∨ k = 109 ∨ k = 110 ∨ k = 111 ∨ k = 112 ∨ k = 113 ∨ k = 114 ∨ k = 115 ∨ k = 116 ∨ k = 117 ∨ k = 118 ∨ k = 119 by omega) with rfl | rfl | rfl | rfl | rfl | rfl | rfl | rfl | rfl | rfl | rfl | rfl
  · exact za_X6_isPlace
  · exact za_X6_isPower
  · exact za_X6_begin
  · exact za_X6_momentOf
  · exact za_X6_sumOf
  · exact za_X6_errorOf
  · exact za_X6_isWhich
  · exact za_X6_moment
  · exact za_X6_sum
  · exact za_X6_error
  · exact za_X6_take
  · exact za_X6_findOrbit
set_option maxRecDepth 100000 in
theorem zhall_120 (k : Nat) (h1 : 120 ≤ k) (h2 : k < 132) : zall (zgood zmt (zmt k)) (zP k) := by
  rcases (show k = 120 ∨ k = 121 ∨ k = 122 ∨ k = 123 ∨ k = 124 ∨ k = 125 ∨ k = 126 ∨ k = 127 ∨ k = 128 ∨ k = 129 ∨ k = 130 ∨ k = 131 by omega) with rfl | rfl | rfl | rfl | rfl | rfl | rfl | rfl | rfl | rfl | rfl | rfl
  · exact za_X6_isIn
  · exact za_X6_placeAt
  · exact za_X6_isGrid
  · exact za_X6_isWeight
  · exact za_X6_against
  · exact za_X6_lay
  · exact za_X6_place
  · exact za_X6_orbit
  · exact za_X6_places
  · exact za_X6_drop
  · exact za_X6_orbitSize
  · exact za_X6_isInside
set_option maxRecDepth 100000 in
theorem zhall_132 (k : Nat) (h1 : 132 ≤ k) (h2 : k < 144) : zall (zgood zmt (zmt k)) (zP k) := by
  rcases (show k = 132 ∨ k = 133 ∨ k = 134 ∨ k = 135 ∨ k = 136 ∨ k = 137 ∨ k = 138 ∨ k = 139 ∨ k = 140 ∨ k = 141 ∨ k = 142 ∨ k = 143 by omega) with rfl | rfl | rfl | rfl | rfl | rfl | rfl | rfl | rfl | rfl | rfl | rfl
  · exact za_X6_about
  · exact za_X6_isRight
  · exact za_X6_degree
  · exact za_X6_first
  · exact za_X6_isEven
  · exact za_X6_is
  · exact za_X6_least
  · exact za_X6_keep
  · exact za_X6_load
  · exact za_X6_farOf
  · exact za_X6_findReps
  · exact za_X6_haveWeights
set_option maxRecDepth 100000 in
theorem zhall_144 (k : Nat) (h1 : 144 ≤ k) (h2 : k < 156) : zall (zgood zmt (zmt k)) (zP k) := by
  rcases (show k = 144 ∨ k = 145 ∨ k = 146 ∨ k = 147 ∨ k = 148 ∨ k = 149 ∨ k = 150 ∨ k = 151 ∨ k = 152 ∨ k = 153 ∨ k = 154 ∨ k = 155 by omega) with rfl | rfl | rfl | rfl | rfl | rfl | rfl | rfl | rfl | rfl | rfl | rfl
  · exact za_X6_layPair
  · exact za_X6_putAside
  · exact za_X6_takeBack
  · exact za_X6_pair
  · exact za_X6_term
  · exact za_X6_termOf
  · exact za_X6_whole
  · exact za_X6_valueAt
  · exact za_X6_byRule
  · exact za_X6_sheet
  · exact za_X6_lose
  · exact za_X6_put
set_option maxRecDepth 100000 in
theorem zhall_156 (k : Nat) (h1 : 156 ≤ k) (h2 : k < 167) : zall (zgood zmt (zmt k)) (zP k) := by
  rcases (show k = 156 ∨ k = 157 ∨ k = 158 ∨ k = 159 ∨ k = 160 ∨ k = 161 ∨ k = 162 ∨ k = 163 ∨ k = 164 ∨ k = 165 ∨ k = 166 by omega) with rfl | rfl | rfl | rfl | rfl | rfl | rfl | rfl | rfl | rfl | rfl
  · exact za_X6_at
  · exact za_X6_begins
  · exact za_X6_tell
  · exact za_X6_count
  · exact za_X6_as
  · exact za_X6_trace
  · exact za_X6_fault
  · exact za_X6_told
  · exact za_J7_fill_d0a16
  · exact za_J7_fill_53178
  · exact za_L_law
theorem zhall (k : Nat) : zall (zgood zmt (zmt k)) (zP k) := by
  by_cases c0 : k < 12
  · exact zhall_0 k (by omega) c0
  by_cases c12 : k < 24
  · exact zhall_12 k (by omega) c12
  by_cases c24 : k < 36
  · exact zhall_24 k (by omega) c24
  by_cases c36 : k < 48
  · exact zhall_36 k (by omega) c36
  by_cases c48 : k < 60
  · exact zhall_48 k (by omega) c48
  by_cases c60 : k < 72
  · exact zhall_60 k (by omega) c60
  by_cases c72 : k < 84
  · exact zhall_72 k (by omega) c72
  by_cases c84 : k < 96
  · exact zhall_84 k (by omega) c84
  by_cases c96 : k < 108
  · exact zhall_96 k (by omega) c96
  by_cases c108 : k < 120
  · exact zhall_108 k (by omega) c108
  by_cases c120 : k < 132
  · exact zhall_120 k (by omega) c120
  by_cases c132 : k < 144
  · exact zhall_132 k (by omega) c132
  by_cases c144 : k < 156
  · exact zhall_144 k (by omega) c144
  by_cases c156 : k < 167
  · exact zhall_156 k (by omega) c156
  intro pc e h
  have h1 : zP k = fun _ => none := by
    unfold zP ztr
    have : Nat.blt k 167 = false := by rw [Bool.eq_false_iff]; intro h; exact c156 (Nat.le_of_ble_eq_true h)
    rw [this]
    rfl
  rw [h1] at h
  cases h
set_option maxRecDepth 100000 in
theorem zhmok_0 (k : Nat) (h1 : 0 ≤ k) (h2 : k < 12) : zmok (zmt k) := by
  rcases (show k = 0 ∨ k = 1 ∨ k = 2 ∨ k = 3 ∨ k = 4 ∨ k = 5 ∨ k = 6 ∨ k = 7 ∨ k = 8 ∨ k = 9 ∨ k = 10 ∨ k = 11 by omega) with rfl | rfl | rfl | rfl | rfl | rfl | rfl | rfl | rfl | rfl | rfl | rfl
  · exact zmok_X0_init
  · exact zmok_X0_become
  · exact zmok_X0_addTimes
  · exact zmok_X0_becomeMoment
  · exact zmok_X0_showing
  · exact zmok_X1_init
  · exact zmok_X1_gather
  · exact zmok_X1_isLeastOfOrbit
  · exact zmok_X1_append
  · exact zmok_X1_addPowers
  · exact zmok_X1_findFewest
  · exact zmok_X1_weigh
set_option maxRecDepth 100000 in
theorem zhmok_12 (k : Nat) (h1 : 12 ≤ k) (h2 : k < 24) : zmok (zmt k) := by
  rcases (show k = 12 ∨ k = 13 ∨ k = 14 ∨ k = 15 ∨ k = 16 ∨ k = 17 ∨ k = 18 ∨ k = 19 ∨ k = 20 ∨ k = 21 ∨ k = 22 ∨ k = 23 by omega) with rfl | rfl | rfl | rfl | rfl | rfl | rfl | rfl | rfl | rfl | rfl | rfl
  · exact zmok_X1_bringToOneLower
  · exact zmok_X1_isRightUpTo
  · exact zmok_X2_init
  · exact zmok_X2_gather
  · exact zmok_X2_insertBothWays
  · exact zmok_X2_insert
  · exact zmok_X2_isAhead
  · exact zmok_X3_init
  · exact zmok_X3_startAnew
  · exact zmok_X3_copyFrom
  · exact zmok_X3_has
  · exact zmok_X3_isWithin
set_option maxRecDepth 100000 in
theorem zhmok_24 (k : Nat) (h1 : 24 ≤ k) (h2 : k < 36) : zmok (zmt k) := by
  rcases (show k = 24 ∨ k = 25 ∨ k = 26 ∨ k = 27 ∨ k = 28 ∨ k = 29 ∨ k = 30 ∨ k = 31 ∨ k = 32 ∨ k = 33 ∨ k = 34 ∨ k = 35 by omega) with rfl | rfl | rfl | rfl | rfl | rfl | rfl | rfl | rfl | rfl | rfl | rfl
  · exact zmok_X3_numberOf
  · exact zmok_X3_refusalOutside
  · exact zmok_X3_add
  · exact zmok_X3_addAll
  · exact zmok_X3_takeOut
  · exact zmok_X3_weighedPowers
  · exact zmok_X4_init
  · exact zmok_X4_renew
  · exact zmok_X4_empty
  · exact zmok_X4_hasNothing
  · exact zmok_X4_isOfOtherLane
  · exact zmok_X4_hasCells
set_option maxRecDepth 100000 in
theorem zhmok_36 (k : Nat) (h1 : 36 ≤ k) (h2 : k < 48) : zmok (zmt k) := by
  rcases (show k = 36 ∨ k = 37 ∨ k = 38 ∨ k = 39 ∨ k = 40 ∨ k = 41 ∨ k = 42 ∨ k = 43 ∨ k = 44 ∨ k = 45 ∨ k = 46 ∨ k = 47 by omega) with rfl | rfl | rfl | rfl | rfl | rfl | rfl | rfl | rfl | rfl | rfl | rfl
  · exact zmok_X4_write
  · exact zmok_X5_init
  · exact zmok_X5_begin
  · exact zmok_X5_moment
  · exact zmok_X5_place
  · exact zmok_X5_orbit
  · exact zmok_X5_places
  · exact zmok_X5_drop
  · exact zmok_X5_about
  · exact zmok_X5_sum
  · exact zmok_X5_error
  · exact zmok_X5_degree
set_option maxRecDepth 100000 in
theorem zhmok_48 (k : Nat) (h1 : 48 ≤ k) (h2 : k < 60) : zmok (zmt k) := by
  rcases (show k = 48 ∨ k = 49 ∨ k = 50 ∨ k = 51 ∨ k = 52 ∨ k = 53 ∨ k = 54 ∨ k = 55 ∨ k = 56 ∨ k = 57 ∨ k = 58 ∨ k = 59 by omega) with rfl | rfl | rfl | rfl | rfl | rfl | rfl | rfl | rfl | rfl | rfl | rfl
  · exact zmok_X5_first
  · exact zmok_X5_is
  · exact zmok_X5_least
  · exact zmok_X5_keep
  · exact zmok_X5_load
  · exact zmok_X5_pair
  · exact zmok_X5_term
  · exact zmok_X5_whole
  · exact zmok_X5_byRule
  · exact zmok_X5_sheet
  · exact zmok_X5_lose
  · exact zmok_X5_put
set_option maxRecDepth 100000 in
theorem zhmok_60 (k : Nat) (h1 : 60 ≤ k) (h2 : k < 72) : zmok (zmt k) := by
  rcases (show k = 60 ∨ k = 61 ∨ k = 62 ∨ k = 63 ∨ k = 64 ∨ k = 65 ∨ k = 66 ∨ k = 67 ∨ k = 68 ∨ k = 69 ∨ k = 70 ∨ k = 71 by omega) with rfl | rfl | rfl | rfl | rfl | rfl | rfl | rfl | rfl | rfl | rfl | rfl
  · exact zmok_X5_at
  · exact zmok_X5_tell
  · exact zmok_X5_count
  · exact zmok_X5_as
  · exact zmok_X5_trace
  · exact zmok_X5_fault
  · exact zmok_X5_told
  · exact zmok_X5_isFrom
  · exact zmok_X5_arePowers
  · exact zmok_X5_power
  · exact zmok_X5_fillPowers
  · exact zmok_X5_commonDivisor
set_option maxRecDepth 100000 in
theorem zhmok_72 (k : Nat) (h1 : 72 ≤ k) (h2 : k < 84) : zmok (zmt k) := by
  rcases (show k = 72 ∨ k = 73 ∨ k = 74 ∨ k = 75 ∨ k = 76 ∨ k = 77 ∨ k = 78 ∨ k = 79 ∨ k = 80 ∨ k = 81 ∨ k = 82 ∨ k = 83 by omega) with rfl | rfl | rfl | rfl | rfl | rfl | rfl | rfl | rfl | rfl | rfl | rfl
  · exact zmok_X5_liesIn
  · exact zmok_X5_failed
  · exact zmok_X5_refusalOfOrbit
  · exact zmok_X5_addFrom
  · exact zmok_X5_sizeOfOrbit
  · exact zmok_X5_findSum
  · exact zmok_X5_findError
  · exact zmok_X5_firstWrongTerm
  · exact zmok_X5_areAllWithin
  · exact zmok_X5_areAllAbove
  · exact zmok_X5_isEven
  · exact zmok_X5_isOrbitOfWeight
set_option maxRecDepth 100000 in
theorem zhmok_84 (k : Nat) (h1 : 84 ≤ k) (h2 : k < 96) : zmok (zmt k) := by
  rcases (show k = 84 ∨ k = 85 ∨ k = 86 ∨ k = 87 ∨ k = 88 ∨ k = 89 ∨ k = 90 ∨ k = 91 ∨ k = 92 ∨ k = 93 ∨ k = 94 ∨ k = 95 by omega) with rfl | rfl | rfl | rfl | rfl | rfl | rfl | rfl | rfl | rfl | rfl | rfl
  · exact zmok_X5_becomePair
  · exact zmok_X5_findSumOfCut
  · exact zmok_X5_sumMoved
  · exact zmok_X5_valueAt
  · exact zmok_X5_faultOfReading
  · exact zmok_X5_kindOf
  · exact zmok_X5_leaveTrace
  · exact zmok_X5_tellAlone
  · exact zmok_X5_tellOfMany
  · exact zmok_X5_tellAstray
  · exact zmok_X5_countLent
  · exact zmok_X5_countAstray
set_option maxRecDepth 100000 in
theorem zhmok_96 (k : Nat) (h1 : 96 ≤ k) (h2 : k < 108) : zmok (zmt k) := by
  rcases (show k = 96 ∨ k = 97 ∨ k = 98 ∨ k = 99 ∨ k = 100 ∨ k = 101 ∨ k = 102 ∨ k = 103 ∨ k = 104 ∨ k = 105 ∨ k = 106 ∨ k = 107 by omega) with rfl | rfl | rfl | rfl | rfl | rfl | rfl | rfl | rfl | rfl | rfl | rfl
  · exact zmok_X5_howManyKept
  · exact zmok_X6_init
  · exact zmok_X6_fails
  · exact zmok_X6_lost
  · exact zmok_X6_within
  · exact zmok_X6_size
  · exact zmok_X6_common
  · exact zmok_X6_fraction
  · exact zmok_X6_add
  · exact zmok_X6_part
  · exact zmok_X6_power
  · exact zmok_X6_factorial
set_option maxRecDepth 100000 in
theorem zhmok_108 (k : Nat) (h1 : 108 ≤ k) (h2 : k < 120) : zmok (zmt k) := by
  rcases (show k = 108 ∨ k = 109 ∨ k = 110 ∨ k = 111 ∨ k = 112 ∨ k = 113 ∨ k = 114 ∨ k = 115 ∨ k = 116 ∨ k = 117 ∨ k = 118 ∨ k = 119 by omega) with rfl | rfl | rfl | rfl | rfl | rfl | rfl | rfl | rfl | rfl | rfl | rfl
  · exact zmok_X6_isPlace
  · exact zmok_X6_isPower
  · exact zmok_X6_begin
  · exact zmok_X6_momentOf
  · exact zmok_X6_sumOf
  · exact zmok_X6_errorOf
  · exact zmok_X6_isWhich
  · exact zmok_X6_moment
  · exact zmok_X6_sum
  · exact zmok_X6_error
  · exact zmok_X6_take
  · exact zmok_X6_findOrbit
set_option maxRecDepth 100000 in
theorem zhmok_120 (k : Nat) (h1 : 120 ≤ k) (h2 : k < 132) : zmok (zmt k) := by
  rcases (show k = 120 ∨ k = 121 ∨ k = 122 ∨ k = 123 ∨ k = 124 ∨ k = 125 ∨ k = 126 ∨ k = 127 ∨ k = 128 ∨ k = 129 ∨ k = 130 ∨ k = 131 by omega) with rfl | rfl | rfl | rfl | rfl | rfl | rfl | rfl | rfl | rfl | rfl | rfl
  · exact zmok_X6_isIn
  · exact zmok_X6_placeAt
  · exact zmok_X6_isGrid
  · exact zmok_X6_isWeight
  · exact zmok_X6_against
  · exact zmok_X6_lay
  · exact zmok_X6_place
  · exact zmok_X6_orbit
  · exact zmok_X6_places
  · exact zmok_X6_drop
  · exact zmok_X6_orbitSize
  · exact zmok_X6_isInside
set_option maxRecDepth 100000 in
theorem zhmok_132 (k : Nat) (h1 : 132 ≤ k) (h2 : k < 144) : zmok (zmt k) := by
  rcases (show k = 132 ∨ k = 133 ∨ k = 134 ∨ k = 135 ∨ k = 136 ∨ k = 137 ∨ k = 138 ∨ k = 139 ∨ k = 140 ∨ k = 141 ∨ k = 142 ∨ k = 143 by omega) with rfl | rfl | rfl | rfl | rfl | rfl | rfl | rfl | rfl | rfl | rfl | rfl
  · exact zmok_X6_about
  · exact zmok_X6_isRight
  · exact zmok_X6_degree
  · exact zmok_X6_first
  · exact zmok_X6_isEven
  · exact zmok_X6_is
  · exact zmok_X6_least
  · exact zmok_X6_keep
  · exact zmok_X6_load
  · exact zmok_X6_farOf
  · exact zmok_X6_findReps
  · exact zmok_X6_haveWeights
set_option maxRecDepth 100000 in
theorem zhmok_144 (k : Nat) (h1 : 144 ≤ k) (h2 : k < 156) : zmok (zmt k) := by
  rcases (show k = 144 ∨ k = 145 ∨ k = 146 ∨ k = 147 ∨ k = 148 ∨ k = 149 ∨ k = 150 ∨ k = 151 ∨ k = 152 ∨ k = 153 ∨ k = 154 ∨ k = 155 by omega) with rfl | rfl | rfl | rfl | rfl | rfl | rfl | rfl | rfl | rfl | rfl | rfl
  · exact zmok_X6_layPair
  · exact zmok_X6_putAside
  · exact zmok_X6_takeBack
  · exact zmok_X6_pair
  · exact zmok_X6_term
  · exact zmok_X6_termOf
  · exact zmok_X6_whole
  · exact zmok_X6_valueAt
  · exact zmok_X6_byRule
  · exact zmok_X6_sheet
  · exact zmok_X6_lose
  · exact zmok_X6_put
set_option maxRecDepth 100000 in
theorem zhmok_156 (k : Nat) (h1 : 156 ≤ k) (h2 : k < 166) : zmok (zmt k) := by
  rcases (show k = 156 ∨ k = 157 ∨ k = 158 ∨ k = 159 ∨ k = 160 ∨ k = 161 ∨ k = 162 ∨ k = 163 ∨ k = 164 ∨ k = 165 by omega) with rfl | rfl | rfl | rfl | rfl | rfl | rfl | rfl | rfl | rfl
  · exact zmok_X6_at
  · exact zmok_X6_begins
  · exact zmok_X6_tell
  · exact zmok_X6_count
  · exact zmok_X6_as
  · exact zmok_X6_trace
  · exact zmok_X6_fault
  · exact zmok_X6_told
  · exact zmok_J7_fill_d0a16
  · exact zmok_J7_fill_53178
theorem zhmok (k : Nat) (hk : k < zNm) : zmok (zmt k) := by
  have hk : k < 166 := hk
  by_cases c0 : k < 12
  · exact zhmok_0 k (by omega) c0
  by_cases c12 : k < 24
  · exact zhmok_12 k (by omega) c12
  by_cases c24 : k < 36
  · exact zhmok_24 k (by omega) c24
  by_cases c36 : k < 48
  · exact zhmok_36 k (by omega) c36
  by_cases c48 : k < 60
  · exact zhmok_48 k (by omega) c48
  by_cases c60 : k < 72
  · exact zhmok_60 k (by omega) c60
  by_cases c72 : k < 84
  · exact zhmok_72 k (by omega) c72
  by_cases c84 : k < 96
  · exact zhmok_84 k (by omega) c84
  by_cases c96 : k < 108
  · exact zhmok_96 k (by omega) c96
  by_cases c108 : k < 120
  · exact zhmok_108 k (by omega) c108
  by_cases c120 : k < 132
  · exact zhmok_120 k (by omega) c120
  by_cases c132 : k < 144
  · exact zhmok_132 k (by omega) c132
  by_cases c144 : k < 156
  · exact zhmok_144 k (by omega) c144
  by_cases c156 : k < 166
  · exact zhmok_156 k (by omega) c156
  omega
