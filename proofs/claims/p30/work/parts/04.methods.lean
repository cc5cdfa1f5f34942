/-! ===== the methods ===== -/
def zm_X0_init : zM := (yX0_init, cX0_init, 1, (Option.none : Option Jvm.ClassFile.FieldType), 1, 20, 2, 0)
def zm_X0_become : zM := (yX0_become, cX0_become, 9, (Option.none : Option Jvm.ClassFile.FieldType), 2, 51, 1, 2)
def zm_X0_addTimes : zM := (yX0_addTimes, cX0_addTimes, 4, (Option.none : Option Jvm.ClassFile.FieldType), 3, 79, 1, 2)
def zm_X0_becomeMoment : zM := (yX0_becomeMoment, cX0_becomeMoment, 6, (Option.none : Option Jvm.ClassFile.FieldType), 3, 79, 1, 3)
def zm_X0_showing : zM := (yX0_showing, cX0_showing, 2, (Option.some Jvm.ClassFile.FieldType.long), 0, 0, 1, 1)
def zm_X1_init : zM := (yX1_init, cX1_init, 1, (Option.none : Option Jvm.ClassFile.FieldType), 2, 40, 2, 0)
def zm_X1_gather : zM := (yX1_gather, cX1_gather, 6, (Option.none : Option Jvm.ClassFile.FieldType), 4, 104, 1, 3)
def zm_X1_isLeastOfOrbit : zM := (yX1_isLeastOfOrbit, cX1_isLeastOfOrbit, 4, (Option.some Jvm.ClassFile.FieldType.boolean), 0, 0, 1, 2)
def zm_X1_append : zM := (yX1_append, cX1_append, 6, (Option.none : Option Jvm.ClassFile.FieldType), 2, 49, 1, 3)
def zm_X1_addPowers : zM := (yX1_addPowers, cX1_addPowers, 5, (Option.none : Option Jvm.ClassFile.FieldType), 1, 25, 1, 3)
def zm_X1_findFewest : zM := (yX1_findFewest, cX1_findFewest, 6, (Option.some Jvm.ClassFile.FieldType.boolean), 4, 111, 1, 1)
def zm_X1_weigh : zM := (yX1_weigh, cX1_weigh, 13, (Option.some Jvm.ClassFile.FieldType.boolean), 3, 79, 1, 2)
def zm_X1_bringToOneLower : zM := (yX1_bringToOneLower, cX1_bringToOneLower, 3, (Option.some Jvm.ClassFile.FieldType.boolean), 2, 51, 1, 0)
def zm_X1_isRightUpTo : zM := (yX1_isRightUpTo, cX1_isRightUpTo, 8, (Option.some Jvm.ClassFile.FieldType.boolean), 0, 0, 1, 3)
def zm_X2_init : zM := (yX2_init, cX2_init, 1, (Option.none : Option Jvm.ClassFile.FieldType), 1, 20, 2, 0)
def zm_X2_gather : zM := (yX2_gather, cX2_gather, 6, (Option.none : Option Jvm.ClassFile.FieldType), 3, 70, 1, 4)
def zm_X2_insertBothWays : zM := (yX2_insertBothWays, cX2_insertBothWays, 3, (Option.none : Option Jvm.ClassFile.FieldType), 2, 48, 1, 2)
def zm_X2_insert : zM := (yX2_insert, cX2_insert, 6, (Option.none : Option Jvm.ClassFile.FieldType), 1, 23, 1, 2)
def zm_X2_isAhead : zM := (yX2_isAhead, cX2_isAhead, 4, (Option.some Jvm.ClassFile.FieldType.boolean), 0, 0, 1, 3)
def zm_X3_init : zM := (yX3_init, cX3_init, 1, (Option.none : Option Jvm.ClassFile.FieldType), 1, 20, 2, 0)
def zm_X3_startAnew : zM := (yX3_startAnew, cX3_startAnew, 4, (Option.none : Option Jvm.ClassFile.FieldType), 0, 0, 1, 3)
def zm_X3_copyFrom : zM := (yX3_copyFrom, cX3_copyFrom, 2, (Option.none : Option Jvm.ClassFile.FieldType), 1, 60, 1, 1)
def zm_X3_has : zM := (yX3_has, cX3_has, 2, (Option.some Jvm.ClassFile.FieldType.boolean), 0, 0, 1, 1)
def zm_X3_isWithin : zM := (yX3_isWithin, cX3_isWithin, 2, (Option.some Jvm.ClassFile.FieldType.boolean), 2, 44, 1, 1)
def zm_X3_numberOf : zM := (yX3_numberOf, cX3_numberOf, 4, (Option.some Jvm.ClassFile.FieldType.int), 0, 0, 1, 2)
def zm_X3_refusalOutside : zM := (yX3_refusalOutside, cX3_refusalOutside, 6, (Option.some Jvm.ClassFile.FieldType.int), 1, 23, 1, 3)
def zm_X3_add : zM := (yX3_add, cX3_add, 6, (Option.some Jvm.ClassFile.FieldType.int), 2, 48, 1, 3)
def zm_X3_addAll : zM := (yX3_addAll, cX3_addAll, 4, (Option.none : Option Jvm.ClassFile.FieldType), 3, 73, 1, 2)
def zm_X3_takeOut : zM := (yX3_takeOut, cX3_takeOut, 3, (Option.none : Option Jvm.ClassFile.FieldType), 0, 0, 1, 1)
def zm_X3_weighedPowers : zM := (yX3_weighedPowers, cX3_weighedPowers, 6, (Option.some Jvm.ClassFile.FieldType.long), 1, 25, 1, 2)
def zm_X4_init : zM := (yX4_init, cX4_init, 1, (Option.none : Option Jvm.ClassFile.FieldType), 1, 20, 2, 0)
def zm_X4_renew : zM := (yX4_renew, cX4_renew, 3, (Option.none : Option Jvm.ClassFile.FieldType), 1, 23, 1, 2)
def zm_X4_empty : zM := (yX4_empty, cX4_empty, 1, (Option.none : Option Jvm.ClassFile.FieldType), 0, 0, 1, 0)
def zm_X4_hasNothing : zM := (yX4_hasNothing, cX4_hasNothing, 1, (Option.some Jvm.ClassFile.FieldType.boolean), 0, 0, 1, 0)
def zm_X4_isOfOtherLane : zM := (yX4_isOfOtherLane, cX4_isOfOtherLane, 2, (Option.some Jvm.ClassFile.FieldType.boolean), 0, 0, 1, 1)
def zm_X4_hasCells : zM := (yX4_hasCells, cX4_hasCells, 4, (Option.some Jvm.ClassFile.FieldType.boolean), 0, 0, 1, 2)
def zm_X4_write : zM := (yX4_write, cX4_write, 3, (Option.none : Option Jvm.ClassFile.FieldType), 0, 0, 1, 2)
def zm_X5_init : zM := (yX5_init, cX5_init, 2, (Option.none : Option Jvm.ClassFile.FieldType), 3, 60, 2, 0)
def zm_X5_begin : zM := (yX5_begin, cX5_begin, 4, (Option.some Jvm.ClassFile.FieldType.int), 1, 23, 1, 3)
def zm_X5_moment : zM := (yX5_moment, cX5_moment, 4, (Option.some Jvm.ClassFile.FieldType.long), 4, 104, 1, 3)
def zm_X5_place : zM := (yX5_place, cX5_place, 4, (Option.some Jvm.ClassFile.FieldType.int), 3, 73, 1, 3)
def zm_X5_orbit : zM := (yX5_orbit, cX5_orbit, 5, (Option.some Jvm.ClassFile.FieldType.int), 4, 96, 1, 3)
def zm_X5_places : zM := (yX5_places, cX5_places, 6, (Option.some Jvm.ClassFile.FieldType.int), 4, 107, 1, 4)
def zm_X5_drop : zM := (yX5_drop, cX5_drop, 2, (Option.some Jvm.ClassFile.FieldType.int), 1, 22, 1, 1)
def zm_X5_about : zM := (yX5_about, cX5_about, 3, (Option.some Jvm.ClassFile.FieldType.int), 5, 116, 1, 2)
def zm_X5_sum : zM := (yX5_sum, cX5_sum, 4, (Option.some Jvm.ClassFile.FieldType.long), 4, 101, 1, 3)
def zm_X5_error : zM := (yX5_error, cX5_error, 4, (Option.some Jvm.ClassFile.FieldType.long), 5, 126, 1, 3)
def zm_X5_degree : zM := (yX5_degree, cX5_degree, 3, (Option.some Jvm.ClassFile.FieldType.int), 6, 147, 1, 0)
def zm_X5_first : zM := (yX5_first, cX5_first, 3, (Option.some Jvm.ClassFile.FieldType.int), 6, 147, 1, 1)
def zm_X5_is : zM := (yX5_is, cX5_is, 2, (Option.some Jvm.ClassFile.FieldType.int), 5, 116, 1, 1)
def zm_X5_least : zM := (yX5_least, cX5_least, 3, (Option.some Jvm.ClassFile.FieldType.int), 1, 22, 1, 1)
def zm_X5_keep : zM := (yX5_keep, cX5_keep, 2, (Option.some Jvm.ClassFile.FieldType.int), 2, 81, 1, 1)
def zm_X5_load : zM := (yX5_load, cX5_load, 2, (Option.some Jvm.ClassFile.FieldType.int), 2, 81, 1, 1)
def zm_X5_pair : zM := (yX5_pair, cX5_pair, 3, (Option.some Jvm.ClassFile.FieldType.int), 5, 136, 1, 2)
def zm_X5_term : zM := (yX5_term, cX5_term, 4, (Option.some Jvm.ClassFile.FieldType.long), 1, 22, 1, 2)
def zm_X5_whole : zM := (yX5_whole, cX5_whole, 3, (Option.some Jvm.ClassFile.FieldType.long), 4, 104, 1, 1)
def zm_X5_byRule : zM := (yX5_byRule, cX5_byRule, 3, (Option.some Jvm.ClassFile.FieldType.long), 4, 104, 1, 2)
def zm_X5_sheet : zM := (yX5_sheet, cX5_sheet, 4, (Option.some Jvm.ClassFile.FieldType.int), 2, 45, 1, 3)
def zm_X5_lose : zM := (yX5_lose, cX5_lose, 2, (Option.some Jvm.ClassFile.FieldType.int), 1, 22, 1, 1)
def zm_X5_put : zM := (yX5_put, cX5_put, 5, (Option.some Jvm.ClassFile.FieldType.int), 1, 23, 1, 3)
def zm_X5_at : zM := (yX5_at, cX5_at, 6, (Option.some Jvm.ClassFile.FieldType.long), 2, 45, 1, 3)
def zm_X5_tell : zM := (yX5_tell, cX5_tell, 2, (Option.some Jvm.ClassFile.FieldType.int), 6, 137, 1, 1)
def zm_X5_count : zM := (yX5_count, cX5_count, 2, (Option.some Jvm.ClassFile.FieldType.int), 3, 65, 1, 1)
def zm_X5_as : zM := (yX5_as, cX5_as, 5, (Option.some Jvm.ClassFile.FieldType.int), 6, 137, 1, 2)
def zm_X5_trace : zM := (yX5_trace, cX5_trace, 1, (Option.some Jvm.ClassFile.FieldType.int), 0, 0, 1, 0)
def zm_X5_fault : zM := (yX5_fault, cX5_fault, 1, (Option.some Jvm.ClassFile.FieldType.int), 0, 0, 1, 0)
def zm_X5_told : zM := (yX5_told, cX5_told, 2, (Option.some Jvm.ClassFile.FieldType.int), 1, 22, 1, 1)
def zm_X5_isFrom : zM := (yX5_isFrom, cX5_isFrom, 3, (Option.some Jvm.ClassFile.FieldType.boolean), 0, 0, 0, 3)
def zm_X5_arePowers : zM := (yX5_arePowers, cX5_arePowers, 2, (Option.some Jvm.ClassFile.FieldType.boolean), 1, 22, 0, 2)
def zm_X5_power : zM := (yX5_power, cX5_power, 6, (Option.some Jvm.ClassFile.FieldType.long), 0, 0, 0, 2)
def zm_X5_fillPowers : zM := (yX5_fillPowers, cX5_fillPowers, 6, (Option.none : Option Jvm.ClassFile.FieldType), 0, 0, 0, 2)
def zm_X5_commonDivisor : zM := (yX5_commonDivisor, cX5_commonDivisor, 11, (Option.some Jvm.ClassFile.FieldType.long), 1, 21, 0, 2)
def zm_X5_liesIn : zM := (yX5_liesIn, cX5_liesIn, 4, (Option.some Jvm.ClassFile.FieldType.boolean), 1, 21, 0, 4)
def zm_X5_failed : zM := (yX5_failed, cX5_failed, 2, (Option.some Jvm.ClassFile.FieldType.int), 0, 0, 1, 1)
def zm_X5_refusalOfOrbit : zM := (yX5_refusalOfOrbit, cX5_refusalOfOrbit, 5, (Option.some Jvm.ClassFile.FieldType.int), 2, 48, 1, 1)
def zm_X5_addFrom : zM := (yX5_addFrom, cX5_addFrom, 7, (Option.some Jvm.ClassFile.FieldType.int), 3, 81, 1, 3)
def zm_X5_sizeOfOrbit : zM := (yX5_sizeOfOrbit, cX5_sizeOfOrbit, 2, (Option.some Jvm.ClassFile.FieldType.int), 4, 95, 1, 1)
def zm_X5_findSum : zM := (yX5_findSum, cX5_findSum, 3, (Option.none : Option Jvm.ClassFile.FieldType), 3, 79, 1, 2)
def zm_X5_findError : zM := (yX5_findError, cX5_findError, 3, (Option.none : Option Jvm.ClassFile.FieldType), 4, 104, 1, 2)
def zm_X5_firstWrongTerm : zM := (yX5_firstWrongTerm, cX5_firstWrongTerm, 2, (Option.some Jvm.ClassFile.FieldType.int), 5, 126, 1, 0)
def zm_X5_areAllWithin : zM := (yX5_areAllWithin, cX5_areAllWithin, 2, (Option.some Jvm.ClassFile.FieldType.boolean), 3, 65, 1, 0)
def zm_X5_areAllAbove : zM := (yX5_areAllAbove, cX5_areAllAbove, 2, (Option.some Jvm.ClassFile.FieldType.boolean), 0, 0, 1, 0)
def zm_X5_isEven : zM := (yX5_isEven, cX5_isEven, 2, (Option.some Jvm.ClassFile.FieldType.boolean), 4, 95, 1, 0)
def zm_X5_isOrbitOfWeight : zM := (yX5_isOrbitOfWeight, cX5_isOrbitOfWeight, 4, (Option.some Jvm.ClassFile.FieldType.boolean), 1, 23, 1, 1)
def zm_X5_becomePair : zM := (yX5_becomePair, cX5_becomePair, 3, (Option.none : Option Jvm.ClassFile.FieldType), 4, 111, 1, 2)
def zm_X5_findSumOfCut : zM := (yX5_findSumOfCut, cX5_findSumOfCut, 6, (Option.none : Option Jvm.ClassFile.FieldType), 3, 79, 1, 1)
def zm_X5_sumMoved : zM := (yX5_sumMoved, cX5_sumMoved, 6, (Option.some Jvm.ClassFile.FieldType.long), 2, 51, 1, 2)
def zm_X5_valueAt : zM := (yX5_valueAt, cX5_valueAt, 7, (Option.some Jvm.ClassFile.FieldType.long), 1, 25, 1, 2)
def zm_X5_faultOfReading : zM := (yX5_faultOfReading, cX5_faultOfReading, 3, (Option.some Jvm.ClassFile.FieldType.int), 1, 23, 0, 3)
def zm_X5_kindOf : zM := (yX5_kindOf, cX5_kindOf, 2, (Option.some Jvm.ClassFile.FieldType.int), 5, 116, 1, 1)
def zm_X5_leaveTrace : zM := (yX5_leaveTrace, cX5_leaveTrace, 2, (Option.none : Option Jvm.ClassFile.FieldType), 0, 0, 1, 1)
def zm_X5_tellAlone : zM := (yX5_tellAlone, cX5_tellAlone, 2, (Option.some Jvm.ClassFile.FieldType.int), 1, 21, 1, 1)
def zm_X5_tellOfMany : zM := (yX5_tellOfMany, cX5_tellOfMany, 2, (Option.some Jvm.ClassFile.FieldType.int), 5, 116, 1, 1)
def zm_X5_tellAstray : zM := (yX5_tellAstray, cX5_tellAstray, 2, (Option.some Jvm.ClassFile.FieldType.int), 2, 42, 1, 1)
def zm_X5_countLent : zM := (yX5_countLent, cX5_countLent, 2, (Option.some Jvm.ClassFile.FieldType.int), 1, 21, 1, 1)
def zm_X5_countAstray : zM := (yX5_countAstray, cX5_countAstray, 1, (Option.some Jvm.ClassFile.FieldType.int), 1, 21, 1, 0)
def zm_X5_howManyKept : zM := (yX5_howManyKept, cX5_howManyKept, 3, (Option.some Jvm.ClassFile.FieldType.int), 0, 0, 1, 0)
def zm_X6_init : zM := (yX6_init, cX6_init, 1, (Option.none : Option Jvm.ClassFile.FieldType), 1, 20, 2, 0)
def zm_X6_fails : zM := (yX6_fails, cX6_fails, 2, (Option.some Jvm.ClassFile.FieldType.int), 0, 0, 1, 1)
def zm_X6_lost : zM := (yX6_lost, cX6_lost, 2, (Option.some Jvm.ClassFile.FieldType.long), 0, 0, 1, 1)
def zm_X6_within : zM := (yX6_within, cX6_within, 6, (Option.some Jvm.ClassFile.FieldType.boolean), 0, 0, 0, 3)
def zm_X6_size : zM := (yX6_size, cX6_size, 2, (Option.some Jvm.ClassFile.FieldType.long), 0, 0, 0, 1)
def zm_X6_common : zM := (yX6_common, cX6_common, 10, (Option.some Jvm.ClassFile.FieldType.long), 1, 21, 0, 2)
def zm_X6_fraction : zM := (yX6_fraction, cX6_fraction, 7, (Option.none : Option Jvm.ClassFile.FieldType), 2, 50, 1, 2)
def zm_X6_add : zM := (yX6_add, cX6_add, 7, (Option.none : Option Jvm.ClassFile.FieldType), 3, 76, 1, 2)
def zm_X6_part : zM := (yX6_part, cX6_part, 2, (Option.some Jvm.ClassFile.FieldType.long), 0, 0, 1, 1)
def zm_X6_power : zM := (yX6_power, cX6_power, 6, (Option.some Jvm.ClassFile.FieldType.long), 0, 0, 0, 2)
def zm_X6_factorial : zM := (yX6_factorial, cX6_factorial, 4, (Option.some Jvm.ClassFile.FieldType.long), 0, 0, 0, 1)
def zm_X6_isPlace : zM := (yX6_isPlace, cX6_isPlace, 2, (Option.some Jvm.ClassFile.FieldType.boolean), 0, 0, 1, 1)
def zm_X6_isPower : zM := (yX6_isPower, cX6_isPower, 2, (Option.some Jvm.ClassFile.FieldType.boolean), 0, 0, 0, 2)
def zm_X6_begin : zM := (yX6_begin, cX6_begin, 4, (Option.some Jvm.ClassFile.FieldType.int), 1, 25, 1, 3)
def zm_X6_momentOf : zM := (yX6_momentOf, cX6_momentOf, 4, (Option.none : Option Jvm.ClassFile.FieldType), 3, 76, 1, 2)
def zm_X6_sumOf : zM := (yX6_sumOf, cX6_sumOf, 6, (Option.none : Option Jvm.ClassFile.FieldType), 3, 76, 1, 2)
def zm_X6_errorOf : zM := (yX6_errorOf, cX6_errorOf, 7, (Option.none : Option Jvm.ClassFile.FieldType), 4, 102, 1, 2)
def zm_X6_isWhich : zM := (yX6_isWhich, cX6_isWhich, 1, (Option.some Jvm.ClassFile.FieldType.boolean), 0, 0, 0, 1)
def zm_X6_moment : zM := (yX6_moment, cX6_moment, 4, (Option.some Jvm.ClassFile.FieldType.long), 4, 99, 1, 3)
def zm_X6_sum : zM := (yX6_sum, cX6_sum, 4, (Option.some Jvm.ClassFile.FieldType.long), 4, 101, 1, 3)
def zm_X6_error : zM := (yX6_error, cX6_error, 4, (Option.some Jvm.ClassFile.FieldType.long), 5, 128, 1, 3)
def zm_X6_take : zM := (yX6_take, cX6_take, 5, (Option.none : Option Jvm.ClassFile.FieldType), 0, 0, 1, 2)
def zm_X6_findOrbit : zM := (yX6_findOrbit, cX6_findOrbit, 7, (Option.none : Option Jvm.ClassFile.FieldType), 1, 24, 1, 3)
def zm_X6_isIn : zM := (yX6_isIn, cX6_isIn, 4, (Option.some Jvm.ClassFile.FieldType.boolean), 1, 21, 1, 3)
def zm_X6_placeAt : zM := (yX6_placeAt, cX6_placeAt, 4, (Option.some Jvm.ClassFile.FieldType.int), 0, 0, 1, 2)
def zm_X6_isGrid : zM := (yX6_isGrid, cX6_isGrid, 2, (Option.some Jvm.ClassFile.FieldType.boolean), 1, 25, 0, 2)
def zm_X6_isWeight : zM := (yX6_isWeight, cX6_isWeight, 2, (Option.some Jvm.ClassFile.FieldType.boolean), 1, 25, 0, 1)
def zm_X6_against : zM := (yX6_against, cX6_against, 5, (Option.some Jvm.ClassFile.FieldType.int), 2, 46, 1, 3)
def zm_X6_lay : zM := (yX6_lay, cX6_lay, 5, (Option.some Jvm.ClassFile.FieldType.int), 1, 23, 1, 3)
def zm_X6_place : zM := (yX6_place, cX6_place, 5, (Option.some Jvm.ClassFile.FieldType.int), 3, 70, 1, 3)
def zm_X6_orbit : zM := (yX6_orbit, cX6_orbit, 7, (Option.some Jvm.ClassFile.FieldType.int), 2, 50, 1, 3)
def zm_X6_places : zM := (yX6_places, cX6_places, 10, (Option.some Jvm.ClassFile.FieldType.int), 3, 70, 1, 4)
def zm_X6_drop : zM := (yX6_drop, cX6_drop, 3, (Option.some Jvm.ClassFile.FieldType.int), 1, 21, 1, 1)
def zm_X6_orbitSize : zM := (yX6_orbitSize, cX6_orbitSize, 2, (Option.some Jvm.ClassFile.FieldType.int), 2, 50, 1, 1)
def zm_X6_isInside : zM := (yX6_isInside, cX6_isInside, 2, (Option.some Jvm.ClassFile.FieldType.boolean), 2, 44, 1, 1)
def zm_X6_about : zM := (yX6_about, cX6_about, 3, (Option.some Jvm.ClassFile.FieldType.int), 3, 71, 1, 2)
def zm_X6_isRight : zM := (yX6_isRight, cX6_isRight, 3, (Option.some Jvm.ClassFile.FieldType.boolean), 5, 128, 1, 1)
def zm_X6_degree : zM := (yX6_degree, cX6_degree, 2, (Option.some Jvm.ClassFile.FieldType.int), 6, 150, 1, 0)
def zm_X6_first : zM := (yX6_first, cX6_first, 4, (Option.some Jvm.ClassFile.FieldType.int), 5, 128, 1, 1)
def zm_X6_isEven : zM := (yX6_isEven, cX6_isEven, 4, (Option.some Jvm.ClassFile.FieldType.boolean), 2, 50, 1, 1)
def zm_X6_is : zM := (yX6_is, cX6_is, 4, (Option.some Jvm.ClassFile.FieldType.int), 3, 73, 1, 1)
def zm_X6_least : zM := (yX6_least, cX6_least, 3, (Option.some Jvm.ClassFile.FieldType.int), 1, 25, 1, 1)
def zm_X6_keep : zM := (yX6_keep, cX6_keep, 3, (Option.some Jvm.ClassFile.FieldType.int), 1, 25, 1, 1)
def zm_X6_load : zM := (yX6_load, cX6_load, 3, (Option.some Jvm.ClassFile.FieldType.int), 1, 25, 1, 1)
def zm_X6_farOf : zM := (yX6_farOf, cX6_farOf, 5, (Option.some Jvm.ClassFile.FieldType.int), 0, 0, 1, 3)
def zm_X6_findReps : zM := (yX6_findReps, cX6_findReps, 4, (Option.none : Option Jvm.ClassFile.FieldType), 2, 50, 1, 1)
def zm_X6_haveWeights : zM := (yX6_haveWeights, cX6_haveWeights, 24, (Option.some Jvm.ClassFile.FieldType.boolean), 2, 50, 1, 3)
def zm_X6_layPair : zM := (yX6_layPair, cX6_layPair, 6, (Option.none : Option Jvm.ClassFile.FieldType), 2, 50, 1, 3)
def zm_X6_putAside : zM := (yX6_putAside, cX6_putAside, 2, (Option.none : Option Jvm.ClassFile.FieldType), 0, 0, 1, 0)
def zm_X6_takeBack : zM := (yX6_takeBack, cX6_takeBack, 2, (Option.none : Option Jvm.ClassFile.FieldType), 0, 0, 1, 0)
def zm_X6_pair : zM := (yX6_pair, cX6_pair, 10, (Option.some Jvm.ClassFile.FieldType.int), 6, 150, 1, 2)
def zm_X6_term : zM := (yX6_term, cX6_term, 4, (Option.some Jvm.ClassFile.FieldType.long), 1, 25, 1, 2)
def zm_X6_termOf : zM := (yX6_termOf, cX6_termOf, 2, (Option.some Jvm.ClassFile.FieldType.int), 0, 0, 0, 2)
def zm_X6_whole : zM := (yX6_whole, cX6_whole, 12, (Option.some Jvm.ClassFile.FieldType.long), 4, 102, 1, 1)
def zm_X6_valueAt : zM := (yX6_valueAt, cX6_valueAt, 11, (Option.some Jvm.ClassFile.FieldType.long), 1, 25, 1, 3)
def zm_X6_byRule : zM := (yX6_byRule, cX6_byRule, 12, (Option.some Jvm.ClassFile.FieldType.long), 3, 76, 1, 2)
def zm_X6_sheet : zM := (yX6_sheet, cX6_sheet, 5, (Option.some Jvm.ClassFile.FieldType.int), 1, 25, 1, 3)
def zm_X6_lose : zM := (yX6_lose, cX6_lose, 3, (Option.some Jvm.ClassFile.FieldType.int), 1, 25, 1, 1)
def zm_X6_put : zM := (yX6_put, cX6_put, 4, (Option.some Jvm.ClassFile.FieldType.int), 1, 25, 1, 3)
def zm_X6_at : zM := (yX6_at, cX6_at, 4, (Option.some Jvm.ClassFile.FieldType.long), 1, 25, 1, 3)
def zm_X6_begins : zM := (yX6_begins, cX6_begins, 2, (Option.none : Option Jvm.ClassFile.FieldType), 0, 0, 1, 1)
def zm_X6_tell : zM := (yX6_tell, cX6_tell, 3, (Option.some Jvm.ClassFile.FieldType.int), 3, 71, 1, 1)
def zm_X6_count : zM := (yX6_count, cX6_count, 3, (Option.some Jvm.ClassFile.FieldType.int), 3, 65, 1, 1)
def zm_X6_as : zM := (yX6_as, cX6_as, 4, (Option.some Jvm.ClassFile.FieldType.int), 3, 71, 1, 2)
def zm_X6_trace : zM := (yX6_trace, cX6_trace, 1, (Option.some Jvm.ClassFile.FieldType.int), 0, 0, 1, 0)
def zm_X6_fault : zM := (yX6_fault, cX6_fault, 1, (Option.some Jvm.ClassFile.FieldType.int), 0, 0, 1, 0)
def zm_X6_told : zM := (yX6_told, cX6_told, 4, (Option.some Jvm.ClassFile.FieldType.int), 0, 0, 1, 1)
def zm_J7_fill_d0a16 : zM := (yJ7_fill_d0a16, cJ7_fill_d0a16, 5, (Option.none : Option Jvm.ClassFile.FieldType), 0, 0, 0, 2)
def zm_J7_fill_53178 : zM := (yJ7_fill_53178, cJ7_fill_53178, 4, (Option.none : Option Jvm.ClassFile.FieldType), 0, 0, 0, 2)
def zm_L_law : zM := (yL_law, cL_law, maxLocals, ret, 7, 179, 0, 1)
def zmt : Nat → zM := (ztr 83 (ztr 41 (ztr 20 (ztr 10 (ztr 5 (ztr 2 (ztr 1 (fun _ => zm_X0_init) (fun _ => zm_X0_become)) (ztr 3 (fun _ => zm_X0_addTimes) (ztr 4 (fun _ => zm_X0_becomeMoment) (fun _ => zm_X0_showing)))) (ztr 7 (ztr 6 (fun _ => zm_X1_init) (fun _ => zm_X1_gather)) (ztr 8 (fun _ => zm_X1_isLeastOfOrbit) (ztr 9 (fun _ => zm_X1_append) (fun _ => zm_X1_addPowers))))) (ztr 15 (ztr 12 (ztr 11 (fun _ => zm_X1_findFewest) (fun _ => zm_X1_weigh)) (ztr 13 (fun _ => zm_X1_bringToOneLower) (ztr 14 (fun _ => zm_X1_isRightUpTo) (fun _ => zm_X2_init)))) (ztr 17 (ztr 16 (fun _ => zm_X2_gather) (fun _ => zm_X2_insertBothWays)) (ztr 18 (fun _ => zm_X2_insert) (ztr 19 (fun _ => zm_X2_isAhead) (fun _ => zm_X3_init)))))) (ztr 30 (ztr 25 (ztr 22 (ztr 21 (fun _ => zm_X3_startAnew) (fun _ => zm_X3_copyFrom)) (ztr 23 (fun _ => zm_X3_has) (ztr 24 (fun _ => zm_X3_isWithin) (fun _ => zm_X3_numberOf)))) (ztr 27 (ztr 26 (fun _ => zm_X3_refusalOutside) (fun _ => zm_X3_add)) (ztr 28 (fun _ => zm_X3_addAll) (ztr 29 (fun _ => zm_X3_takeOut) (fun _ => zm_X3_weighedPowers))))) (ztr 35 (ztr 32 (ztr 31 (fun _ => zm_X4_init) (fun _ => zm_X4_renew)) (ztr 33 (fun _ => zm_X4_empty) (ztr 34 (fun _ => zm_X4_hasNothing) (fun _ => zm_X4_isOfOtherLane)))) (ztr 38 (ztr 36 (fun _ => zm_X4_hasCells) (ztr 37 (fun _ => zm_X4_write) (fun _ => zm_X5_init))) (ztr 39 (fun _ => zm_X5_begin) (ztr 40 (fun _ => zm_X5_moment) (fun _ => zm_X5_place))))))) (ztr 62 (ztr 51 (ztr 46 (ztr 43 (ztr 42 (fun _ => zm_X5_orbit) (fun _ => zm_X5_places)) (ztr 44 (fun _ => zm_X5_drop) (ztr 45 (fun _ => zm_X5_about) (fun _ => zm_X5_sum)))) (ztr 48 (ztr 47 (fun _ => zm_X5_error) (fun _ => zm_X5_degree)) (ztr 49 (fun _ => zm_X5_first) (ztr 50 (fun _ => zm_X5_is) (fun _ => zm_X5_least))))) (ztr 56 (ztr 53 (ztr 52 (fun _ => zm_X5_keep) (fun _ => zm_X5_load)) (ztr 54 (fun _ => zm_X5_pair) (ztr 55 (fun _ => zm_X5_term) (fun _ => zm_X5_whole)))) (ztr 59 (ztr 57 (fun _ => zm_X5_byRule) (ztr 58 (fun _ => zm_X5_sheet) (fun _ => zm_X5_lose))) (ztr 60 (fun _ => zm_X5_put) (ztr 61 (fun _ => zm_X5_at) (fun _ => zm_X5_tell)))))) (ztr 72 (ztr 67 (ztr 64 (ztr 63 (fun _ => zm_X5_count) (fun _ => zm_X5_as)) (ztr 65 (fun _ => zm_X5_trace) (ztr 66 (fun _ => zm_X5_fault) (fun _ => zm_X5_told)))) (ztr 69 (ztr 68 (fun _ => zm_X5_isFrom) (fun _ => zm_X5_arePowers)) (ztr 70 (fun _ => zm_X5_power) (ztr 71 (fun _ => zm_X5_fillPowers) (fun _ => zm_X5_commonDivisor))))) (ztr 77 (ztr 74 (ztr 73 (fun _ => zm_X5_liesIn) (fun _ => zm_X5_failed)) (ztr 75 (fun _ => zm_X5_refusalOfOrbit) (ztr 76 (fun _ => zm_X5_addFrom) (fun _ => zm_X5_sizeOfOrbit)))) (ztr 80 (ztr 78 (fun _ => zm_X5_findSum) (ztr 79 (fun _ => zm_X5_findError) (fun _ => zm_X5_firstWrongTerm))) (ztr 81 (fun _ => zm_X5_areAllWithin) (ztr 82 (fun _ => zm_X5_areAllAbove) (fun _ => zm_X5_isEven)))))))) (ztr 125 (ztr 104 (ztr 93 (ztr 88 (ztr 85 (ztr 84 (fun _ => zm_X5_isOrbitOfWeight) (fun _ => zm_X5_becomePair)) (ztr 86 (fun _ => zm_X5_findSumOfCut) (ztr 87 (fun _ => zm_X5_sumMoved) (fun _ => zm_X5_valueAt)))) (ztr 90 (ztr 89 (fun _ => zm_X5_faultOfReading) (fun _ => zm_X5_kindOf)) (ztr 91 (fun _ => zm_X5_leaveTrace) (ztr 92 (fun _ => zm_X5_tellAlone) (fun _ => zm_X5_tellOfMany))))) (ztr 98 (ztr 95 (ztr 94 (fun _ => zm_X5_tellAstray) (fun _ => zm_X5_countLent)) (ztr 96 (fun _ => zm_X5_countAstray) (ztr 97 (fun _ => zm_X5_howManyKept) (fun _ => zm_X6_init)))) (ztr 101 (ztr 99 (fun _ => zm_X6_fails) (ztr 100 (fun _ => zm_X6_lost) (fun _ => zm_X6_within))) (ztr 102 (fun _ => zm_X6_size) (ztr 103 (fun _ => zm_X6_common) (fun _ => zm_X6_fraction)))))) (ztr 114 (ztr 109 (ztr 106 (ztr 105 (fun _ => zm_X6_add) (fun _ => zm_X6_part)) (ztr 107 (fun _ => zm_X6_power) (ztr 108 (fun _ => zm_X6_factorial) (fun _ => zm_X6_isPlace)))) (ztr 111 (ztr 110 (fun _ => zm_X6_isPower) (fun _ => zm_X6_begin)) (ztr 112 (fun _ => zm_X6_momentOf) (ztr 113 (fun _ => zm_X6_sumOf) (fun _ => zm_X6_errorOf))))) (ztr 119 (ztr 116 (ztr 115 (fun _ => zm_X6_isWhich) (fun _ => zm_X6_moment)) (ztr 117 (fun _ => zm_X6_sum) (ztr 118 (fun _ => zm_X6_error) (fun _ => zm_X6_take)))) (ztr 122 (ztr 120 (fun _ => zm_X6_findOrbit) (ztr 121 (fun _ => zm_X6_isIn) (fun _ => zm_X6_placeAt))) (ztr 123 (fun _ => zm_X6_isGrid) (ztr 124 (fun _ => zm_X6_isWeight) (fun _ => zm_X6_against))))))) (ztr 146 (ztr 135 (ztr 130 (ztr 127 (ztr 126 (fun _ => zm_X6_lay) (fun _ => zm_X6_place)) (ztr 128 (fun _ => zm_X6_orbit) (ztr 129 (fun _ => zm_X6_places) (fun _ => zm_X6_drop)))) (ztr 132 (ztr 131 (fun _ => zm_X6_orbitSize) (fun _ => zm_X6_isInside)) (ztr 133 (fun _ => zm_X6_about) (ztr 134 (fun _ => zm_X6_isRight) (fun _ => zm_X6_degree))))) (ztr 140 (ztr 137 (ztr 136 (fun _ => zm_X6_first) (fun _ => zm_X6_isEven)) (ztr 138 (fun _ => zm_X6_is) (ztr 139 (fun _ => zm_X6_least) (fun _ => zm_X6_keep)))) (ztr 143 (ztr 141 (fun _ => zm_X6_load) (ztr 142 (fun _ => zm_X6_farOf) (fun _ => zm_X6_findReps))) (ztr 144 (fun _ => zm_X6_haveWeights) (ztr 145 (fun _ => zm_X6_layPair) (fun _ => zm_X6_putAside)))))) (ztr 156 (ztr 151 (ztr 148 (ztr 147 (fun _ => zm_X6_takeBack) (fun _ => zm_X6_pair)) (ztr 149 (fun _ => zm_X6_term) (ztr 150 (fun _ => zm_X6_termOf) (fun _ => zm_X6_whole)))) (ztr 153 (ztr 152 (fun _ => zm_X6_valueAt) (fun _ => zm_X6_byRule)) (ztr 154 (fun _ => zm_X6_sheet) (ztr 155 (fun _ => zm_X6_lose) (fun _ => zm_X6_put))))) (ztr 161 (ztr 158 (ztr 157 (fun _ => zm_X6_at) (fun _ => zm_X6_begins)) (ztr 159 (fun _ => zm_X6_tell) (ztr 160 (fun _ => zm_X6_count) (fun _ => zm_X6_as)))) (ztr 164 (ztr 162 (fun _ => zm_X6_trace) (ztr 163 (fun _ => zm_X6_fault) (fun _ => zm_X6_told))) (ztr 165 (fun _ => zm_J7_fill_d0a16) (ztr 166 (fun _ => zm_J7_fill_53178) (fun _ => zm_L_law)))))))))
set_option maxRecDepth 100000 in
theorem zmok_X0_init : zmok zm_X0_init := ⟨List.mem_of_getElem? (i := 142) rfl, 55, 141, 0, by decide +kernel⟩
set_option maxRecDepth 100000 in
theorem zmok_X0_become : zmok zm_X0_become := ⟨List.mem_of_getElem? (i := 316) rfl, 55, 314, 315, by decide +kernel⟩
set_option maxRecDepth 100000 in
theorem zmok_X0_addTimes : zmok zm_X0_addTimes := ⟨List.mem_of_getElem? (i := 470) rfl, 55, 468, 469, by decide +kernel⟩
set_option maxRecDepth 100000 in
theorem zmok_X0_becomeMoment : zmok zm_X0_becomeMoment := ⟨List.mem_of_getElem? (i := 311) rfl, 55, 309, 310, by decide +kernel⟩
set_option maxRecDepth 100000 in
theorem zmok_X0_showing : zmok zm_X0_showing := ⟨List.mem_of_getElem? (i := 329) rfl, 55, 327, 328, by decide +kernel⟩
set_option maxRecDepth 100000 in
theorem zmok_X1_init : zmok zm_X1_init := ⟨List.mem_of_getElem? (i := 134) rfl, 54, 133, 0, by decide +kernel⟩
set_option maxRecDepth 100000 in
theorem zmok_X1_gather : zmok zm_X1_gather := ⟨List.mem_of_getElem? (i := 526) rfl, 54, 524, 525, by decide +kernel⟩
set_option maxRecDepth 100000 in
theorem zmok_X1_isLeastOfOrbit : zmok zm_X1_isLeastOfOrbit := ⟨List.mem_of_getElem? (i := 530) rfl, 54, 528, 529, by decide +kernel⟩
set_option maxRecDepth 100000 in
theorem zmok_X1_append : zmok zm_X1_append := ⟨List.mem_of_getElem? (i := 536) rfl, 54, 534, 535, by decide +kernel⟩
set_option maxRecDepth 100000 in
theorem zmok_X1_addPowers : zmok zm_X1_addPowers := ⟨List.mem_of_getElem? (i := 543) rfl, 54, 541, 542, by decide +kernel⟩
set_option maxRecDepth 100000 in
theorem zmok_X1_findFewest : zmok zm_X1_findFewest := ⟨List.mem_of_getElem? (i := 554) rfl, 54, 552, 553, by decide +kernel⟩
set_option maxRecDepth 100000 in
theorem zmok_X1_weigh : zmok zm_X1_weigh := ⟨List.mem_of_getElem? (i := 558) rfl, 54, 556, 557, by decide +kernel⟩
set_option maxRecDepth 100000 in
theorem zmok_X1_bringToOneLower : zmok zm_X1_bringToOneLower := ⟨List.mem_of_getElem? (i := 563) rfl, 54, 561, 562, by decide +kernel⟩
set_option maxRecDepth 100000 in
theorem zmok_X1_isRightUpTo : zmok zm_X1_isRightUpTo := ⟨List.mem_of_getElem? (i := 569) rfl, 54, 567, 568, by decide +kernel⟩
set_option maxRecDepth 100000 in
theorem zmok_X2_init : zmok zm_X2_init := ⟨List.mem_of_getElem? (i := 109) rfl, 53, 108, 0, by decide +kernel⟩
set_option maxRecDepth 100000 in
theorem zmok_X2_gather : zmok zm_X2_gather := ⟨List.mem_of_getElem? (i := 354) rfl, 53, 352, 353, by decide +kernel⟩
set_option maxRecDepth 100000 in
theorem zmok_X2_insertBothWays : zmok zm_X2_insertBothWays := ⟨List.mem_of_getElem? (i := 358) rfl, 53, 356, 357, by decide +kernel⟩
set_option maxRecDepth 100000 in
theorem zmok_X2_insert : zmok zm_X2_insert := ⟨List.mem_of_getElem? (i := 362) rfl, 53, 360, 361, by decide +kernel⟩
set_option maxRecDepth 100000 in
theorem zmok_X2_isAhead : zmok zm_X2_isAhead := ⟨List.mem_of_getElem? (i := 366) rfl, 53, 364, 365, by decide +kernel⟩
set_option maxRecDepth 100000 in
theorem zmok_X3_init : zmok zm_X3_init := ⟨List.mem_of_getElem? (i := 73) rfl, 52, 72, 0, by decide +kernel⟩
set_option maxRecDepth 100000 in
theorem zmok_X3_startAnew : zmok zm_X3_startAnew := ⟨List.mem_of_getElem? (i := 299) rfl, 52, 297, 298, by decide +kernel⟩
set_option maxRecDepth 100000 in
theorem zmok_X3_copyFrom : zmok zm_X3_copyFrom := ⟨List.mem_of_getElem? (i := 406) rfl, 52, 404, 405, by decide +kernel⟩
set_option maxRecDepth 100000 in
theorem zmok_X3_has : zmok zm_X3_has := ⟨List.mem_of_getElem? (i := 418) rfl, 52, 416, 417, by decide +kernel⟩
set_option maxRecDepth 100000 in
theorem zmok_X3_isWithin : zmok zm_X3_isWithin := ⟨List.mem_of_getElem? (i := 434) rfl, 52, 432, 433, by decide +kernel⟩
set_option maxRecDepth 100000 in
theorem zmok_X3_numberOf : zmok zm_X3_numberOf := ⟨List.mem_of_getElem? (i := 346) rfl, 52, 344, 345, by decide +kernel⟩
set_option maxRecDepth 100000 in
theorem zmok_X3_refusalOutside : zmok zm_X3_refusalOutside := ⟨List.mem_of_getElem? (i := 341) rfl, 52, 339, 340, by decide +kernel⟩
set_option maxRecDepth 100000 in
theorem zmok_X3_add : zmok zm_X3_add := ⟨List.mem_of_getElem? (i := 337) rfl, 52, 335, 336, by decide +kernel⟩
set_option maxRecDepth 100000 in
theorem zmok_X3_addAll : zmok zm_X3_addAll := ⟨List.mem_of_getElem? (i := 376) rfl, 52, 374, 375, by decide +kernel⟩
set_option maxRecDepth 100000 in
theorem zmok_X3_takeOut : zmok zm_X3_takeOut := ⟨List.mem_of_getElem? (i := 422) rfl, 52, 420, 421, by decide +kernel⟩
set_option maxRecDepth 100000 in
theorem zmok_X3_weighedPowers : zmok zm_X3_weighedPowers := ⟨List.mem_of_getElem? (i := 452) rfl, 52, 450, 451, by decide +kernel⟩
set_option maxRecDepth 100000 in
theorem zmok_X4_init : zmok zm_X4_init := ⟨List.mem_of_getElem? (i := 229) rfl, 56, 228, 0, by decide +kernel⟩
set_option maxRecDepth 100000 in
theorem zmok_X4_renew : zmok zm_X4_renew := ⟨List.mem_of_getElem? (i := 607) rfl, 56, 605, 606, by decide +kernel⟩
set_option maxRecDepth 100000 in
theorem zmok_X4_empty : zmok zm_X4_empty := ⟨List.mem_of_getElem? (i := 618) rfl, 56, 616, 617, by decide +kernel⟩
set_option maxRecDepth 100000 in
theorem zmok_X4_hasNothing : zmok zm_X4_hasNothing := ⟨List.mem_of_getElem? (i := 393) rfl, 56, 391, 392, by decide +kernel⟩
set_option maxRecDepth 100000 in
theorem zmok_X4_isOfOtherLane : zmok zm_X4_isOfOtherLane := ⟨List.mem_of_getElem? (i := 385) rfl, 56, 383, 384, by decide +kernel⟩
set_option maxRecDepth 100000 in
theorem zmok_X4_hasCells : zmok zm_X4_hasCells := ⟨List.mem_of_getElem? (i := 398) rfl, 56, 396, 397, by decide +kernel⟩
set_option maxRecDepth 100000 in
theorem zmok_X4_write : zmok zm_X4_write := ⟨List.mem_of_getElem? (i := 626) rfl, 56, 624, 625, by decide +kernel⟩
set_option maxRecDepth 100000 in
theorem zmok_X5_init : zmok zm_X5_init := ⟨List.mem_of_getElem? (i := 65) rfl, 51, 64, 0, by decide +kernel⟩
set_option maxRecDepth 100000 in
theorem zmok_X5_begin : zmok zm_X5_begin := ⟨List.mem_of_getElem? (i := 292) rfl, 51, 290, 291, by decide +kernel⟩
set_option maxRecDepth 100000 in
theorem zmok_X5_moment : zmok zm_X5_moment := ⟨List.mem_of_getElem? (i := 303) rfl, 51, 301, 302, by decide +kernel⟩
set_option maxRecDepth 100000 in
theorem zmok_X5_place : zmok zm_X5_place := ⟨List.mem_of_getElem? (i := 333) rfl, 51, 331, 332, by decide +kernel⟩
set_option maxRecDepth 100000 in
theorem zmok_X5_orbit : zmok zm_X5_orbit := ⟨List.mem_of_getElem? (i := 350) rfl, 51, 348, 349, by decide +kernel⟩
set_option maxRecDepth 100000 in
theorem zmok_X5_places : zmok zm_X5_places := ⟨List.mem_of_getElem? (i := 381) rfl, 51, 379, 380, by decide +kernel⟩
set_option maxRecDepth 100000 in
theorem zmok_X5_drop : zmok zm_X5_drop := ⟨List.mem_of_getElem? (i := 414) rfl, 51, 412, 413, by decide +kernel⟩
set_option maxRecDepth 100000 in
theorem zmok_X5_about : zmok zm_X5_about := ⟨List.mem_of_getElem? (i := 426) rfl, 51, 424, 425, by decide +kernel⟩
set_option maxRecDepth 100000 in
theorem zmok_X5_sum : zmok zm_X5_sum := ⟨List.mem_of_getElem? (i := 444) rfl, 51, 442, 443, by decide +kernel⟩
set_option maxRecDepth 100000 in
theorem zmok_X5_error : zmok zm_X5_error := ⟨List.mem_of_getElem? (i := 461) rfl, 51, 459, 460, by decide +kernel⟩
set_option maxRecDepth 100000 in
theorem zmok_X5_degree : zmok zm_X5_degree := ⟨List.mem_of_getElem? (i := 474) rfl, 51, 472, 473, by decide +kernel⟩
set_option maxRecDepth 100000 in
theorem zmok_X5_first : zmok zm_X5_first := ⟨List.mem_of_getElem? (i := 486) rfl, 51, 484, 485, by decide +kernel⟩
set_option maxRecDepth 100000 in
theorem zmok_X5_is : zmok zm_X5_is := ⟨List.mem_of_getElem? (i := 490) rfl, 51, 488, 489, by decide +kernel⟩
set_option maxRecDepth 100000 in
theorem zmok_X5_least : zmok zm_X5_least := ⟨List.mem_of_getElem? (i := 510) rfl, 51, 508, 509, by decide +kernel⟩
set_option maxRecDepth 100000 in
theorem zmok_X5_keep : zmok zm_X5_keep := ⟨List.mem_of_getElem? (i := 514) rfl, 51, 512, 513, by decide +kernel⟩
set_option maxRecDepth 100000 in
theorem zmok_X5_load : zmok zm_X5_load := ⟨List.mem_of_getElem? (i := 518) rfl, 51, 516, 517, by decide +kernel⟩
set_option maxRecDepth 100000 in
theorem zmok_X5_pair : zmok zm_X5_pair := ⟨List.mem_of_getElem? (i := 522) rfl, 51, 520, 521, by decide +kernel⟩
set_option maxRecDepth 100000 in
theorem zmok_X5_term : zmok zm_X5_term := ⟨List.mem_of_getElem? (i := 578) rfl, 51, 576, 577, by decide +kernel⟩
set_option maxRecDepth 100000 in
theorem zmok_X5_whole : zmok zm_X5_whole := ⟨List.mem_of_getElem? (i := 582) rfl, 51, 580, 581, by decide +kernel⟩
set_option maxRecDepth 100000 in
theorem zmok_X5_byRule : zmok zm_X5_byRule := ⟨List.mem_of_getElem? (i := 586) rfl, 51, 584, 585, by decide +kernel⟩
set_option maxRecDepth 100000 in
theorem zmok_X5_sheet : zmok zm_X5_sheet := ⟨List.mem_of_getElem? (i := 603) rfl, 51, 601, 602, by decide +kernel⟩
set_option maxRecDepth 100000 in
theorem zmok_X5_lose : zmok zm_X5_lose := ⟨List.mem_of_getElem? (i := 614) rfl, 51, 612, 613, by decide +kernel⟩
set_option maxRecDepth 100000 in
theorem zmok_X5_put : zmok zm_X5_put := ⟨List.mem_of_getElem? (i := 622) rfl, 51, 620, 621, by decide +kernel⟩
set_option maxRecDepth 100000 in
theorem zmok_X5_at : zmok zm_X5_at := ⟨List.mem_of_getElem? (i := 630) rfl, 51, 628, 629, by decide +kernel⟩
set_option maxRecDepth 100000 in
theorem zmok_X5_tell : zmok zm_X5_tell := ⟨List.mem_of_getElem? (i := 637) rfl, 51, 635, 636, by decide +kernel⟩
set_option maxRecDepth 100000 in
theorem zmok_X5_count : zmok zm_X5_count := ⟨List.mem_of_getElem? (i := 661) rfl, 51, 659, 660, by decide +kernel⟩
set_option maxRecDepth 100000 in
theorem zmok_X5_as : zmok zm_X5_as := ⟨List.mem_of_getElem? (i := 673) rfl, 51, 671, 672, by decide +kernel⟩
set_option maxRecDepth 100000 in
theorem zmok_X5_trace : zmok zm_X5_trace := ⟨List.mem_of_getElem? (i := 677) rfl, 51, 675, 676, by decide +kernel⟩
set_option maxRecDepth 100000 in
theorem zmok_X5_fault : zmok zm_X5_fault := ⟨List.mem_of_getElem? (i := 681) rfl, 51, 679, 680, by decide +kernel⟩
set_option maxRecDepth 100000 in
theorem zmok_X5_told : zmok zm_X5_told := ⟨List.mem_of_getElem? (i := 685) rfl, 51, 683, 684, by decide +kernel⟩
set_option maxRecDepth 100000 in
theorem zmok_X5_isFrom : zmok zm_X5_isFrom := ⟨List.mem_of_getElem? (i := 295) rfl, 51, 294, 0, by decide +kernel⟩
set_option maxRecDepth 100000 in
theorem zmok_X5_arePowers : zmok zm_X5_arePowers := ⟨List.mem_of_getElem? (i := 306) rfl, 51, 305, 0, by decide +kernel⟩
set_option maxRecDepth 100000 in
theorem zmok_X5_power : zmok zm_X5_power := ⟨List.mem_of_getElem? (i := 455) rfl, 51, 454, 0, by decide +kernel⟩
set_option maxRecDepth 100000 in
theorem zmok_X5_fillPowers : zmok zm_X5_fillPowers := ⟨List.mem_of_getElem? (i := 546) rfl, 51, 545, 0, by decide +kernel⟩
set_option maxRecDepth 100000 in
theorem zmok_X5_commonDivisor : zmok zm_X5_commonDivisor := ⟨List.mem_of_getElem? (i := 319) rfl, 51, 318, 0, by decide +kernel⟩
set_option maxRecDepth 100000 in
theorem zmok_X5_liesIn : zmok zm_X5_liesIn := ⟨List.mem_of_getElem? (i := 437) rfl, 51, 436, 0, by decide +kernel⟩
set_option maxRecDepth 100000 in
theorem zmok_X5_failed : zmok zm_X5_failed := ⟨List.mem_of_getElem? (i := 389) rfl, 51, 388, 1, by decide +kernel⟩
set_option maxRecDepth 100000 in
theorem zmok_X5_refusalOfOrbit : zmok zm_X5_refusalOfOrbit := ⟨List.mem_of_getElem? (i := 370) rfl, 51, 369, 0, by decide +kernel⟩
set_option maxRecDepth 100000 in
theorem zmok_X5_addFrom : zmok zm_X5_addFrom := ⟨List.mem_of_getElem? (i := 402) rfl, 51, 401, 2, by decide +kernel⟩
set_option maxRecDepth 100000 in
theorem zmok_X5_sizeOfOrbit : zmok zm_X5_sizeOfOrbit := ⟨List.mem_of_getElem? (i := 430) rfl, 51, 429, 3, by decide +kernel⟩
set_option maxRecDepth 100000 in
theorem zmok_X5_findSum : zmok zm_X5_findSum := ⟨List.mem_of_getElem? (i := 448) rfl, 51, 447, 4, by decide +kernel⟩
set_option maxRecDepth 100000 in
theorem zmok_X5_findError : zmok zm_X5_findError := ⟨List.mem_of_getElem? (i := 465) rfl, 51, 464, 5, by decide +kernel⟩
set_option maxRecDepth 100000 in
theorem zmok_X5_firstWrongTerm : zmok zm_X5_firstWrongTerm := ⟨List.mem_of_getElem? (i := 478) rfl, 51, 477, 6, by decide +kernel⟩
set_option maxRecDepth 100000 in
theorem zmok_X5_areAllWithin : zmok zm_X5_areAllWithin := ⟨List.mem_of_getElem? (i := 494) rfl, 51, 493, 7, by decide +kernel⟩
set_option maxRecDepth 100000 in
theorem zmok_X5_areAllAbove : zmok zm_X5_areAllAbove := ⟨List.mem_of_getElem? (i := 498) rfl, 51, 497, 8, by decide +kernel⟩
set_option maxRecDepth 100000 in
theorem zmok_X5_isEven : zmok zm_X5_isEven := ⟨List.mem_of_getElem? (i := 502) rfl, 51, 501, 9, by decide +kernel⟩
set_option maxRecDepth 100000 in
theorem zmok_X5_isOrbitOfWeight : zmok zm_X5_isOrbitOfWeight := ⟨List.mem_of_getElem? (i := 506) rfl, 51, 505, 10, by decide +kernel⟩
set_option maxRecDepth 100000 in
theorem zmok_X5_becomePair : zmok zm_X5_becomePair := ⟨List.mem_of_getElem? (i := 573) rfl, 51, 572, 11, by decide +kernel⟩
set_option maxRecDepth 100000 in
theorem zmok_X5_findSumOfCut : zmok zm_X5_findSumOfCut := ⟨List.mem_of_getElem? (i := 590) rfl, 51, 589, 12, by decide +kernel⟩
set_option maxRecDepth 100000 in
theorem zmok_X5_sumMoved : zmok zm_X5_sumMoved := ⟨List.mem_of_getElem? (i := 595) rfl, 51, 594, 13, by decide +kernel⟩
set_option maxRecDepth 100000 in
theorem zmok_X5_valueAt : zmok zm_X5_valueAt := ⟨List.mem_of_getElem? (i := 599) rfl, 51, 598, 14, by decide +kernel⟩
set_option maxRecDepth 100000 in
theorem zmok_X5_faultOfReading : zmok zm_X5_faultOfReading := ⟨List.mem_of_getElem? (i := 633) rfl, 51, 632, 0, by decide +kernel⟩
set_option maxRecDepth 100000 in
theorem zmok_X5_kindOf : zmok zm_X5_kindOf := ⟨List.mem_of_getElem? (i := 641) rfl, 51, 640, 15, by decide +kernel⟩
set_option maxRecDepth 100000 in
theorem zmok_X5_leaveTrace : zmok zm_X5_leaveTrace := ⟨List.mem_of_getElem? (i := 649) rfl, 51, 648, 17, by decide +kernel⟩
set_option maxRecDepth 100000 in
theorem zmok_X5_tellAlone : zmok zm_X5_tellAlone := ⟨List.mem_of_getElem? (i := 645) rfl, 51, 644, 16, by decide +kernel⟩
set_option maxRecDepth 100000 in
theorem zmok_X5_tellOfMany : zmok zm_X5_tellOfMany := ⟨List.mem_of_getElem? (i := 653) rfl, 51, 652, 18, by decide +kernel⟩
set_option maxRecDepth 100000 in
theorem zmok_X5_tellAstray : zmok zm_X5_tellAstray := ⟨List.mem_of_getElem? (i := 657) rfl, 51, 656, 19, by decide +kernel⟩
set_option maxRecDepth 100000 in
theorem zmok_X5_countLent : zmok zm_X5_countLent := ⟨List.mem_of_getElem? (i := 665) rfl, 51, 664, 20, by decide +kernel⟩
set_option maxRecDepth 100000 in
theorem zmok_X5_countAstray : zmok zm_X5_countAstray := ⟨List.mem_of_getElem? (i := 669) rfl, 51, 668, 21, by decide +kernel⟩
set_option maxRecDepth 100000 in
theorem zmok_X5_howManyKept : zmok zm_X5_howManyKept := ⟨List.mem_of_getElem? (i := 689) rfl, 51, 688, 22, by decide +kernel⟩
set_option maxRecDepth 100000 in
theorem zmok_X6_init : zmok zm_X6_init := ⟨List.mem_of_getElem? (i := 694) rfl, 57, 693, 0, by decide +kernel⟩
set_option maxRecDepth 100000 in
theorem zmok_X6_fails : zmok zm_X6_fails := ⟨List.mem_of_getElem? (i := 928) rfl, 57, 927, 34, by decide +kernel⟩
set_option maxRecDepth 100000 in
theorem zmok_X6_lost : zmok zm_X6_lost := ⟨List.mem_of_getElem? (i := 1057) rfl, 57, 1056, 48, by decide +kernel⟩
set_option maxRecDepth 100000 in
theorem zmok_X6_within : zmok zm_X6_within := ⟨List.mem_of_getElem? (i := 824) rfl, 57, 823, 0, by decide +kernel⟩
set_option maxRecDepth 100000 in
theorem zmok_X6_size : zmok zm_X6_size := ⟨List.mem_of_getElem? (i := 851) rfl, 57, 850, 0, by decide +kernel⟩
set_option maxRecDepth 100000 in
theorem zmok_X6_common : zmok zm_X6_common := ⟨List.mem_of_getElem? (i := 848) rfl, 57, 847, 0, by decide +kernel⟩
set_option maxRecDepth 100000 in
theorem zmok_X6_fraction : zmok zm_X6_fraction := ⟨List.mem_of_getElem? (i := 845) rfl, 57, 844, 24, by decide +kernel⟩
set_option maxRecDepth 100000 in
theorem zmok_X6_add : zmok zm_X6_add := ⟨List.mem_of_getElem? (i := 882) rfl, 57, 881, 28, by decide +kernel⟩
set_option maxRecDepth 100000 in
theorem zmok_X6_part : zmok zm_X6_part := ⟨List.mem_of_getElem? (i := 859) rfl, 57, 858, 25, by decide +kernel⟩
set_option maxRecDepth 100000 in
theorem zmok_X6_power : zmok zm_X6_power := ⟨List.mem_of_getElem? (i := 870) rfl, 57, 869, 0, by decide +kernel⟩
set_option maxRecDepth 100000 in
theorem zmok_X6_factorial : zmok zm_X6_factorial := ⟨List.mem_of_getElem? (i := 855) rfl, 57, 854, 0, by decide +kernel⟩
set_option maxRecDepth 100000 in
theorem zmok_X6_isPlace : zmok zm_X6_isPlace := ⟨List.mem_of_getElem? (i := 936) rfl, 57, 935, 35, by decide +kernel⟩
set_option maxRecDepth 100000 in
theorem zmok_X6_isPower : zmok zm_X6_isPower := ⟨List.mem_of_getElem? (i := 833) rfl, 57, 832, 0, by decide +kernel⟩
set_option maxRecDepth 100000 in
theorem zmok_X6_begin : zmok zm_X6_begin := ⟨List.mem_of_getElem? (i := 820) rfl, 57, 818, 819, by decide +kernel⟩
set_option maxRecDepth 100000 in
theorem zmok_X6_momentOf : zmok zm_X6_momentOf := ⟨List.mem_of_getElem? (i := 841) rfl, 57, 840, 23, by decide +kernel⟩
set_option maxRecDepth 100000 in
theorem zmok_X6_sumOf : zmok zm_X6_sumOf := ⟨List.mem_of_getElem? (i := 867) rfl, 57, 866, 26, by decide +kernel⟩
set_option maxRecDepth 100000 in
theorem zmok_X6_errorOf : zmok zm_X6_errorOf := ⟨List.mem_of_getElem? (i := 878) rfl, 57, 877, 27, by decide +kernel⟩
set_option maxRecDepth 100000 in
theorem zmok_X6_isWhich : zmok zm_X6_isWhich := ⟨List.mem_of_getElem? (i := 836) rfl, 57, 835, 0, by decide +kernel⟩
set_option maxRecDepth 100000 in
theorem zmok_X6_moment : zmok zm_X6_moment := ⟨List.mem_of_getElem? (i := 830) rfl, 57, 828, 829, by decide +kernel⟩
set_option maxRecDepth 100000 in
theorem zmok_X6_sum : zmok zm_X6_sum := ⟨List.mem_of_getElem? (i := 863) rfl, 57, 861, 862, by decide +kernel⟩
set_option maxRecDepth 100000 in
theorem zmok_X6_error : zmok zm_X6_error := ⟨List.mem_of_getElem? (i := 874) rfl, 57, 872, 873, by decide +kernel⟩
set_option maxRecDepth 100000 in
theorem zmok_X6_take : zmok zm_X6_take := ⟨List.mem_of_getElem? (i := 919) rfl, 57, 918, 33, by decide +kernel⟩
set_option maxRecDepth 100000 in
theorem zmok_X6_findOrbit : zmok zm_X6_findOrbit := ⟨List.mem_of_getElem? (i := 915) rfl, 57, 914, 32, by decide +kernel⟩
set_option maxRecDepth 100000 in
theorem zmok_X6_isIn : zmok zm_X6_isIn := ⟨List.mem_of_getElem? (i := 952) rfl, 57, 951, 38, by decide +kernel⟩
set_option maxRecDepth 100000 in
theorem zmok_X6_placeAt : zmok zm_X6_placeAt := ⟨List.mem_of_getElem? (i := 903) rfl, 57, 902, 30, by decide +kernel⟩
set_option maxRecDepth 100000 in
theorem zmok_X6_isGrid : zmok zm_X6_isGrid := ⟨List.mem_of_getElem? (i := 893) rfl, 57, 892, 0, by decide +kernel⟩
set_option maxRecDepth 100000 in
theorem zmok_X6_isWeight : zmok zm_X6_isWeight := ⟨List.mem_of_getElem? (i := 898) rfl, 57, 897, 0, by decide +kernel⟩
set_option maxRecDepth 100000 in
theorem zmok_X6_against : zmok zm_X6_against := ⟨List.mem_of_getElem? (i := 890) rfl, 57, 889, 29, by decide +kernel⟩
set_option maxRecDepth 100000 in
theorem zmok_X6_lay : zmok zm_X6_lay := ⟨List.mem_of_getElem? (i := 907) rfl, 57, 906, 31, by decide +kernel⟩
set_option maxRecDepth 100000 in
theorem zmok_X6_place : zmok zm_X6_place := ⟨List.mem_of_getElem? (i := 886) rfl, 57, 884, 885, by decide +kernel⟩
set_option maxRecDepth 100000 in
theorem zmok_X6_orbit : zmok zm_X6_orbit := ⟨List.mem_of_getElem? (i := 911) rfl, 57, 909, 910, by decide +kernel⟩
set_option maxRecDepth 100000 in
theorem zmok_X6_places : zmok zm_X6_places := ⟨List.mem_of_getElem? (i := 923) rfl, 57, 921, 922, by decide +kernel⟩
set_option maxRecDepth 100000 in
theorem zmok_X6_drop : zmok zm_X6_drop := ⟨List.mem_of_getElem? (i := 932) rfl, 57, 930, 931, by decide +kernel⟩
set_option maxRecDepth 100000 in
theorem zmok_X6_orbitSize : zmok zm_X6_orbitSize := ⟨List.mem_of_getElem? (i := 944) rfl, 57, 943, 36, by decide +kernel⟩
set_option maxRecDepth 100000 in
theorem zmok_X6_isInside : zmok zm_X6_isInside := ⟨List.mem_of_getElem? (i := 948) rfl, 57, 947, 37, by decide +kernel⟩
set_option maxRecDepth 100000 in
theorem zmok_X6_about : zmok zm_X6_about := ⟨List.mem_of_getElem? (i := 940) rfl, 57, 938, 939, by decide +kernel⟩
set_option maxRecDepth 100000 in
theorem zmok_X6_isRight : zmok zm_X6_isRight := ⟨List.mem_of_getElem? (i := 960) rfl, 57, 959, 39, by decide +kernel⟩
set_option maxRecDepth 100000 in
theorem zmok_X6_degree : zmok zm_X6_degree := ⟨List.mem_of_getElem? (i := 956) rfl, 57, 954, 955, by decide +kernel⟩
set_option maxRecDepth 100000 in
theorem zmok_X6_first : zmok zm_X6_first := ⟨List.mem_of_getElem? (i := 964) rfl, 57, 962, 963, by decide +kernel⟩
set_option maxRecDepth 100000 in
theorem zmok_X6_isEven : zmok zm_X6_isEven := ⟨List.mem_of_getElem? (i := 972) rfl, 57, 971, 40, by decide +kernel⟩
set_option maxRecDepth 100000 in
theorem zmok_X6_is : zmok zm_X6_is := ⟨List.mem_of_getElem? (i := 968) rfl, 57, 966, 967, by decide +kernel⟩
set_option maxRecDepth 100000 in
theorem zmok_X6_least : zmok zm_X6_least := ⟨List.mem_of_getElem? (i := 976) rfl, 57, 974, 975, by decide +kernel⟩
set_option maxRecDepth 100000 in
theorem zmok_X6_keep : zmok zm_X6_keep := ⟨List.mem_of_getElem? (i := 981) rfl, 57, 979, 980, by decide +kernel⟩
set_option maxRecDepth 100000 in
theorem zmok_X6_load : zmok zm_X6_load := ⟨List.mem_of_getElem? (i := 986) rfl, 57, 984, 985, by decide +kernel⟩
set_option maxRecDepth 100000 in
theorem zmok_X6_farOf : zmok zm_X6_farOf := ⟨List.mem_of_getElem? (i := 1002) rfl, 57, 1001, 43, by decide +kernel⟩
set_option maxRecDepth 100000 in
theorem zmok_X6_findReps : zmok zm_X6_findReps := ⟨List.mem_of_getElem? (i := 998) rfl, 57, 997, 42, by decide +kernel⟩
set_option maxRecDepth 100000 in
theorem zmok_X6_haveWeights : zmok zm_X6_haveWeights := ⟨List.mem_of_getElem? (i := 1006) rfl, 57, 1005, 44, by decide +kernel⟩
set_option maxRecDepth 100000 in
theorem zmok_X6_layPair : zmok zm_X6_layPair := ⟨List.mem_of_getElem? (i := 1011) rfl, 57, 1010, 45, by decide +kernel⟩
set_option maxRecDepth 100000 in
theorem zmok_X6_putAside : zmok zm_X6_putAside := ⟨List.mem_of_getElem? (i := 994) rfl, 57, 993, 41, by decide +kernel⟩
set_option maxRecDepth 100000 in
theorem zmok_X6_takeBack : zmok zm_X6_takeBack := ⟨List.mem_of_getElem? (i := 1015) rfl, 57, 1014, 46, by decide +kernel⟩
set_option maxRecDepth 100000 in
theorem zmok_X6_pair : zmok zm_X6_pair := ⟨List.mem_of_getElem? (i := 990) rfl, 57, 988, 989, by decide +kernel⟩
set_option maxRecDepth 100000 in
theorem zmok_X6_term : zmok zm_X6_term := ⟨List.mem_of_getElem? (i := 1019) rfl, 57, 1017, 1018, by decide +kernel⟩
set_option maxRecDepth 100000 in
theorem zmok_X6_termOf : zmok zm_X6_termOf := ⟨List.mem_of_getElem? (i := 1029) rfl, 57, 1028, 0, by decide +kernel⟩
set_option maxRecDepth 100000 in
theorem zmok_X6_whole : zmok zm_X6_whole := ⟨List.mem_of_getElem? (i := 1026) rfl, 57, 1024, 1025, by decide +kernel⟩
set_option maxRecDepth 100000 in
theorem zmok_X6_valueAt : zmok zm_X6_valueAt := ⟨List.mem_of_getElem? (i := 1037) rfl, 57, 1036, 47, by decide +kernel⟩
set_option maxRecDepth 100000 in
theorem zmok_X6_byRule : zmok zm_X6_byRule := ⟨List.mem_of_getElem? (i := 1033) rfl, 57, 1031, 1032, by decide +kernel⟩
set_option maxRecDepth 100000 in
theorem zmok_X6_sheet : zmok zm_X6_sheet := ⟨List.mem_of_getElem? (i := 1041) rfl, 57, 1039, 1040, by decide +kernel⟩
set_option maxRecDepth 100000 in
theorem zmok_X6_lose : zmok zm_X6_lose := ⟨List.mem_of_getElem? (i := 1045) rfl, 57, 1043, 1044, by decide +kernel⟩
set_option maxRecDepth 100000 in
theorem zmok_X6_put : zmok zm_X6_put := ⟨List.mem_of_getElem? (i := 1049) rfl, 57, 1047, 1048, by decide +kernel⟩
set_option maxRecDepth 100000 in
theorem zmok_X6_at : zmok zm_X6_at := ⟨List.mem_of_getElem? (i := 1053) rfl, 57, 1051, 1052, by decide +kernel⟩
set_option maxRecDepth 100000 in
theorem zmok_X6_begins : zmok zm_X6_begins := ⟨List.mem_of_getElem? (i := 1065) rfl, 57, 1064, 49, by decide +kernel⟩
set_option maxRecDepth 100000 in
theorem zmok_X6_tell : zmok zm_X6_tell := ⟨List.mem_of_getElem? (i := 1061) rfl, 57, 1059, 1060, by decide +kernel⟩
set_option maxRecDepth 100000 in
theorem zmok_X6_count : zmok zm_X6_count := ⟨List.mem_of_getElem? (i := 1069) rfl, 57, 1067, 1068, by decide +kernel⟩
set_option maxRecDepth 100000 in
theorem zmok_X6_as : zmok zm_X6_as := ⟨List.mem_of_getElem? (i := 1073) rfl, 57, 1071, 1072, by decide +kernel⟩
set_option maxRecDepth 100000 in
theorem zmok_X6_trace : zmok zm_X6_trace := ⟨List.mem_of_getElem? (i := 1077) rfl, 57, 1075, 1076, by decide +kernel⟩
set_option maxRecDepth 100000 in
theorem zmok_X6_fault : zmok zm_X6_fault := ⟨List.mem_of_getElem? (i := 1081) rfl, 57, 1079, 1080, by decide +kernel⟩
set_option maxRecDepth 100000 in
theorem zmok_X6_told : zmok zm_X6_told := ⟨List.mem_of_getElem? (i := 1085) rfl, 57, 1083, 1084, by decide +kernel⟩
set_option maxRecDepth 100000 in
theorem zmok_J7_fill_d0a16 : zmok zm_J7_fill_d0a16 := ⟨List.mem_of_getElem? (i := 539) rfl, 60, 538, 0, by decide +kernel⟩
set_option maxRecDepth 100000 in
theorem zmok_J7_fill_53178 : zmok zm_J7_fill_53178 := ⟨List.mem_of_getElem? (i := 610) rfl, 60, 609, 0, by decide +kernel⟩
