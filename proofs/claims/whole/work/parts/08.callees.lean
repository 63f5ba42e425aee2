theorem f_X_isNode : csF y_X_isNode b_X_isNode 1 (some .boolean) 1 := ⟨t_258, t_1, t_259, by decide +kernel⟩
theorem f_X_isWithin : csF y_X_isWithin b_X_isWithin 3 (some .boolean) 3 := ⟨t_261, t_1, t_262, by decide +kernel⟩
theorem f_J_fill0 : csF y_J_fill0 b_J_fill0 4 none 2 := ⟨t_210, t_6, t_211, by decide +kernel⟩
theorem f_P_lay : cvF y_P_lay "DeficitNet$Port" b_P_lay 6 none 5 := ⟨t_264, t_265, t_2, t_266, by decide +kernel⟩
theorem f_X_shortenOver : cvF y_X_shortenOver "DeficitNet" b_X_shortenOver 7 none 3 := ⟨t_270, s_0, t_1, t_271, by decide +kernel⟩
theorem f_X_link : cvF y_X_link "DeficitNet" b_X_link 7 (some .int) 5 := ⟨t_254, t_255, t_1, t_256, by decide +kernel⟩
theorem f_X_isPort : cvF y_X_isPort "DeficitNet" b_X_isPort 2 (some .boolean) 1 := ⟨t_278, s_1, t_1, t_279, by decide +kernel⟩
theorem f_X_shape : cvF y_X_shape "DeficitNet" b_X_shape 4 (some .boolean) 3 := ⟨t_273, t_274, t_1, t_275, by decide +kernel⟩
theorem f_F_found : cvF y_F_found "DeficitNet$Flow" b_F_found 5 none 4 := ⟨t_285, t_286, t_3, t_287, by decide +kernel⟩
theorem f_X_flow : cvF y_X_flow "DeficitNet" b_X_flow 6 (some .int) 4 := ⟨t_281, t_282, t_1, t_283, by decide +kernel⟩
theorem f_X_isFlow : cvF y_X_isFlow "DeficitNet" b_X_isFlow 2 (some .boolean) 1 := ⟨t_294, s_2, t_1, t_295, by decide +kernel⟩
theorem f_X_tune : cvF y_X_tune "DeficitNet" b_X_tune 5 (some .boolean) 4 := ⟨t_289, t_290, t_1, t_291, by decide +kernel⟩
theorem f_A_unsetAll : cvF y_A_unsetAll "DeficitNet$Agenda" b_A_unsetAll 1 none 0 := ⟨t_213, t_214, t_5, t_215, by decide +kernel⟩
theorem f_J_fill1 : csF y_J_fill1 b_J_fill1 5 none 2 := ⟨t_219, t_6, t_220, by decide +kernel⟩
theorem f_X_clear : cvF y_X_clear "DeficitNet" b_X_clear 2 none 0 := ⟨t_206, t_207, t_1, t_208, by decide +kernel⟩
theorem f_A_set : cvF y_A_set "DeficitNet$Agenda" b_A_set 4 none 3 := ⟨t_306, t_307, t_5, t_308, by decide +kernel⟩
theorem f_X_begin : cvF y_X_begin "DeficitNet" b_X_begin 2 none 0 := ⟨t_303, s_3, t_1, t_304, by decide +kernel⟩
theorem f_A_isBefore : cvF y_A_isBefore "DeficitNet$Agenda" b_A_isBefore 3 (some .boolean) 2 := ⟨t_318, t_319, t_5, t_320, by decide +kernel⟩
theorem f_A_firstSlot : cvF y_A_firstSlot "DeficitNet$Agenda" b_A_firstSlot 3 (some .int) 0 := ⟨t_314, t_315, t_5, t_316, by decide +kernel⟩
theorem f_A_unset : cvF y_A_unset "DeficitNet$Agenda" b_A_unset 2 none 1 := ⟨t_322, t_323, t_5, t_324, by decide +kernel⟩
theorem f_X_remember : cvF y_X_remember "DeficitNet" b_X_remember 4 none 3 := ⟨t_331, s_6, t_1, t_332, by decide +kernel⟩
theorem f_M_min : csF y_M_min b_M_min 2 (some .int) 2 := ⟨t_343, t_9, t_344, by decide +kernel⟩
theorem f_X_hasTimer : cvF y_X_hasTimer "DeficitNet" b_X_hasTimer 2 (some .boolean) 1 := ⟨t_347, s_8, t_1, t_348, by decide +kernel⟩
theorem f_K_enter : cvF y_K_enter "DeficitNet$Packet" b_K_enter 5 none 4 := ⟨t_358, t_359, t_4, t_360, by decide +kernel⟩
theorem f_X_make : cvF y_X_make "DeficitNet" b_X_make 5 (some .int) 3 := ⟨t_355, s_10, t_1, t_356, by decide +kernel⟩
theorem f_X_way : cvF y_X_way "DeficitNet" b_X_way 5 (some .int) 2 := ⟨t_366, t_367, t_1, t_368, by decide +kernel⟩
theorem f_X_queuedOf : cvF y_X_queuedOf "DeficitNet" b_X_queuedOf 5 (some .int) 2 := ⟨t_371, s_12, t_1, t_372, by decide +kernel⟩
theorem f_P_serveFirst : cvF y_P_serveFirst "DeficitNet$Port" b_P_serveFirst 1 none 0 := ⟨t_382, t_383, t_2, t_384, by decide +kernel⟩
theorem f_X_firstPlaceOf : cvF y_X_firstPlaceOf "DeficitNet" b_X_firstPlaceOf 4 (some .int) 2 := ⟨t_387, s_14, t_1, t_388, by decide +kernel⟩
theorem f_P_dropFirst : cvF y_P_dropFirst "DeficitNet$Port" b_P_dropFirst 1 none 0 := ⟨t_395, t_396, t_2, t_397, by decide +kernel⟩
theorem f_P_append : cvF y_P_append "DeficitNet$Port" b_P_append 2 none 1 := ⟨t_374, t_375, t_2, t_376, by decide +kernel⟩
theorem f_P_takeFrom : cvF y_P_takeFrom "DeficitNet$Port" b_P_takeFrom 3 (some .int) 1 := ⟨t_390, t_391, t_2, t_392, by decide +kernel⟩
theorem f_X_choose : cvF y_X_choose "DeficitNet" b_X_choose 6 none 1 := ⟨t_379, s_13, t_1, t_380, by decide +kernel⟩
theorem f_X_put : cvF y_X_put "DeficitNet" b_X_put 6 none 2 := ⟨t_363, s_11, t_1, t_364, by decide +kernel⟩
theorem f_X_setTimer : cvF y_X_setTimer "DeficitNet" b_X_setTimer 2 none 1 := ⟨t_351, s_9, t_1, t_352, by decide +kernel⟩
theorem f_X_fill : cvF y_X_fill "DeficitNet" b_X_fill 5 none 1 := ⟨t_340, s_7, t_1, t_341, by decide +kernel⟩
theorem f_X_start : cvF y_X_start "DeficitNet" b_X_start 2 none 1 := ⟨t_327, s_5, t_1, t_328, by decide +kernel⟩
theorem f_K_label : cvF y_K_label "DeficitNet$Packet" b_K_label 1 (some .int) 0 := ⟨t_403, t_404, t_4, t_405, by decide +kernel⟩
theorem f_X_leave : cvF y_X_leave "DeficitNet" b_X_leave 4 none 1 := ⟨t_400, s_15, t_1, t_401, by decide +kernel⟩
theorem f_M_max : csF y_M_max b_M_max 2 (some .int) 2 := ⟨t_419, t_9, t_420, by decide +kernel⟩
theorem f_X_moveBase : cvF y_X_moveBase "DeficitNet" b_X_moveBase 4 none 2 := ⟨t_416, s_18, t_1, t_417, by decide +kernel⟩
theorem f_X_takeData : cvF y_X_takeData "DeficitNet" b_X_takeData 4 none 2 := ⟨t_412, s_17, t_1, t_413, by decide +kernel⟩
theorem f_X_arrive : cvF y_X_arrive "DeficitNet" b_X_arrive 4 none 1 := ⟨t_408, s_16, t_1, t_409, by decide +kernel⟩
theorem f_X_timeOut : cvF y_X_timeOut "DeficitNet" b_X_timeOut 3 none 1 := ⟨t_423, s_19, t_1, t_424, by decide +kernel⟩
theorem f_X_happen : cvF y_X_happen "DeficitNet" b_X_happen 3 (some .boolean) 0 := ⟨t_311, s_4, t_1, t_312, by decide +kernel⟩
theorem f_X_step : cvF y_X_step "DeficitNet" b_X_step 1 (some .boolean) 0 := ⟨t_298, t_299, t_1, t_300, by decide +kernel⟩
theorem f_X_run : cvF y_X_run "DeficitNet" b_X_run 3 (some .int) 1 := ⟨t_426, t_427, t_1, t_428, by decide +kernel⟩
theorem f_X_now : cvF y_X_now "DeficitNet" b_X_now 1 (some .int) 0 := ⟨t_430, t_431, t_1, t_432, by decide +kernel⟩
theorem f_X_trace : cvF y_X_trace "DeficitNet" b_X_trace 2 (some .long) 1 := ⟨t_434, t_435, t_1, t_436, by decide +kernel⟩
theorem f_X_distance : cvF y_X_distance "DeficitNet" b_X_distance 3 (some .int) 2 := ⟨t_438, t_439, t_1, t_440, by decide +kernel⟩
theorem f_X_waiting : cvF y_X_waiting "DeficitNet" b_X_waiting 3 (some .int) 2 := ⟨t_443, t_444, t_1, t_445, by decide +kernel⟩
theorem f_X_deficit : cvF y_X_deficit "DeficitNet" b_X_deficit 3 (some .int) 2 := ⟨t_447, t_448, t_1, t_449, by decide +kernel⟩
theorem f_X_onPort : cvF y_X_onPort "DeficitNet" b_X_onPort 3 (some .int) 1 := ⟨t_451, t_452, t_1, t_453, by decide +kernel⟩
theorem f_X_timer : cvF y_X_timer "DeficitNet" b_X_timer 2 (some .int) 1 := ⟨t_455, t_456, t_1, t_457, by decide +kernel⟩
theorem f_X_count : cvF y_X_count "DeficitNet" b_X_count 3 (some .int) 2 := ⟨t_459, t_460, t_1, t_461, by decide +kernel⟩
theorem f_Y_lesser : csF y_Y_lesser b_Y_lesser 2 (some .int) 2 := ⟨t_478, t_7, t_479, by decide +kernel⟩
theorem f_Y_measure : cvF y_Y_measure "DeficitNetModel" b_Y_measure 4 none 0 := ⟨t_474, s_20, t_7, t_475, by decide +kernel⟩
theorem f_Y_clear : cvF y_Y_clear "DeficitNetModel" b_Y_clear 2 none 0 := ⟨t_469, t_470, t_7, t_471, by decide +kernel⟩
theorem f_Y_node : csF y_Y_node b_Y_node 1 (some .boolean) 1 := ⟨t_608, t_7, t_609, by decide +kernel⟩
theorem f_Y_within : csF y_Y_within b_Y_within 3 (some .boolean) 3 := ⟨t_611, t_7, t_612, by decide +kernel⟩
theorem f_Y_link : cvF y_Y_link "DeficitNetModel" b_Y_link 7 (some .int) 5 := ⟨t_604, t_605, t_7, t_606, by decide +kernel⟩
theorem f_Y_isPort : cvF y_Y_isPort "DeficitNetModel" b_Y_isPort 2 (some .boolean) 1 := ⟨t_619, s_21, t_7, t_620, by decide +kernel⟩
theorem f_Y_isFlow : cvF y_Y_isFlow "DeficitNetModel" b_Y_isFlow 2 (some .boolean) 1 := ⟨t_631, s_22, t_7, t_632, by decide +kernel⟩
theorem f_Y_shape : cvF y_Y_shape "DeficitNetModel" b_Y_shape 4 (some .boolean) 3 := ⟨t_614, t_615, t_7, t_616, by decide +kernel⟩
theorem f_Y_flow : cvF y_Y_flow "DeficitNetModel" b_Y_flow 6 (some .int) 4 := ⟨t_622, t_623, t_7, t_624, by decide +kernel⟩
theorem f_Y_tune : cvF y_Y_tune "DeficitNetModel" b_Y_tune 5 (some .boolean) 4 := ⟨t_626, t_627, t_7, t_628, by decide +kernel⟩
theorem f_Y_distance : cvF y_Y_distance "DeficitNetModel" b_Y_distance 3 (some .int) 2 := ⟨t_634, t_635, t_7, t_636, by decide +kernel⟩
theorem f_Y_at : cvF y_Y_at "DeficitNetModel" b_Y_at 2 (some .int) 1 := ⟨t_644, s_23, t_7, t_645, by decide +kernel⟩
theorem f_Y_leads : cvF y_Y_leads "DeficitNetModel" b_Y_leads 2 (some .int) 1 := ⟨t_648, s_24, t_7, t_649, by decide +kernel⟩
theorem f_Y_way : cvF y_Y_way "DeficitNetModel" b_Y_way 4 (some .int) 2 := ⟨t_638, t_639, t_7, t_640, by decide +kernel⟩
theorem f_Y_sizeOf : cvF y_Y_sizeOf "DeficitNetModel" b_Y_sizeOf 2 (some .int) 1 := ⟨t_720, s_39, t_7, t_721, by decide +kernel⟩
theorem f_Y_endOf : cvF y_Y_endOf "DeficitNetModel" b_Y_endOf 2 (some .int) 1 := ⟨t_691, s_32, t_7, t_692, by decide +kernel⟩
theorem f_Y_queued : cvF y_Y_queued "DeficitNetModel" b_Y_queued 5 (some .int) 2 := ⟨t_696, s_33, t_7, t_697, by decide +kernel⟩
theorem f_Y_on : cvF y_Y_on "DeficitNetModel" b_Y_on 4 (some .int) 1 := ⟨t_704, s_35, t_7, t_705, by decide +kernel⟩
theorem f_Y_lose : cvF y_Y_lose "DeficitNetModel" b_Y_lose 2 none 1 := ⟨t_700, s_34, t_7, t_701, by decide +kernel⟩
theorem f_Y_leader : cvF y_Y_leader "DeficitNetModel" b_Y_leader 4 (some .int) 1 := ⟨t_712, s_37, t_7, t_713, by decide +kernel⟩
theorem f_Y_head : cvF y_Y_head "DeficitNetModel" b_Y_head 5 (some .int) 2 := ⟨t_716, s_38, t_7, t_717, by decide +kernel⟩
theorem f_Y_choose : cvF y_Y_choose "DeficitNetModel" b_Y_choose 6 none 1 := ⟨t_708, s_36, t_7, t_709, by decide +kernel⟩
theorem f_Y_put : cvF y_Y_put "DeficitNetModel" b_Y_put 5 none 2 := ⟨t_687, s_31, t_7, t_688, by decide +kernel⟩
theorem f_Y_make : cvF y_Y_make "DeficitNetModel" b_Y_make 6 none 4 := ⟨t_683, s_30, t_7, t_684, by decide +kernel⟩
theorem f_Y_setTimeout : cvF y_Y_setTimeout "DeficitNetModel" b_Y_setTimeout 2 none 1 := ⟨t_679, s_29, t_7, t_680, by decide +kernel⟩
theorem f_Y_fill : cvF y_Y_fill "DeficitNetModel" b_Y_fill 3 none 1 := ⟨t_675, s_28, t_7, t_676, by decide +kernel⟩
theorem f_Y_arrive : cvF y_Y_arrive "DeficitNetModel" b_Y_arrive 5 none 1 := ⟨t_728, s_41, t_7, t_729, by decide +kernel⟩
theorem f_Y_begin : cvF y_Y_begin "DeficitNetModel" b_Y_begin 2 none 0 := ⟨t_656, s_25, t_7, t_657, by decide +kernel⟩
theorem f_Y_note : cvF y_Y_note "DeficitNetModel" b_Y_note 4 none 3 := ⟨t_668, s_27, t_7, t_669, by decide +kernel⟩
theorem f_Y_sooner : csF y_Y_sooner b_Y_sooner 6 (some .long) 3 := ⟨t_663, t_7, t_664, by decide +kernel⟩
theorem f_Y_soonest : cvF y_Y_soonest "DeficitNetModel" b_Y_soonest 4 (some .long) 0 := ⟨t_660, s_26, t_7, t_661, by decide +kernel⟩
theorem f_Y_moved : cvF y_Y_moved "DeficitNetModel" b_Y_moved 4 none 1 := ⟨t_724, s_40, t_7, t_725, by decide +kernel⟩
theorem f_Y_step : cvF y_Y_step "DeficitNetModel" b_Y_step 5 (some .boolean) 0 := ⟨t_651, t_652, t_7, t_653, by decide +kernel⟩
theorem f_Y_run : cvF y_Y_run "DeficitNetModel" b_Y_run 3 (some .int) 1 := ⟨t_731, t_732, t_7, t_733, by decide +kernel⟩
theorem f_Y_now : cvF y_Y_now "DeficitNetModel" b_Y_now 1 (some .int) 0 := ⟨t_736, t_737, t_7, t_738, by decide +kernel⟩
theorem f_Y_trace : cvF y_Y_trace "DeficitNetModel" b_Y_trace 2 (some .long) 1 := ⟨t_740, t_741, t_7, t_742, by decide +kernel⟩
theorem f_Y_waiting : cvF y_Y_waiting "DeficitNetModel" b_Y_waiting 3 (some .int) 2 := ⟨t_745, t_746, t_7, t_747, by decide +kernel⟩
theorem f_Y_deficit : cvF y_Y_deficit "DeficitNetModel" b_Y_deficit 3 (some .int) 2 := ⟨t_749, t_750, t_7, t_751, by decide +kernel⟩
theorem f_Y_onPort : cvF y_Y_onPort "DeficitNetModel" b_Y_onPort 3 (some .int) 1 := ⟨t_753, t_754, t_7, t_755, by decide +kernel⟩
theorem f_Y_timer : cvF y_Y_timer "DeficitNetModel" b_Y_timer 2 (some .int) 1 := ⟨t_757, t_758, t_7, t_759, by decide +kernel⟩
theorem f_Y_count : cvF y_Y_count "DeficitNetModel" b_Y_count 3 (some .int) 2 := ⟨t_761, t_762, t_7, t_763, by decide +kernel⟩
theorem acw : Cond.native arraycopyName ∈ wT ∧ Cond.static arraycopyName ∈ wT ∧ Cond.initialized "java/lang/System" ∈ wT := ⟨t_335, t_334, t_8⟩
theorem sw_out0_6 {x : Int32} (h0 : ¬ x = (0 : Int32)) (h1 : ¬ x = (1 : Int32)) (h2 : ¬ x = (2 : Int32)) (h3 : ¬ x = (3 : Int32)) (h4 : ¬ x = (4 : Int32)) (h5 : ¬ x = (5 : Int32)) (h6 : ¬ x = (6 : Int32)) : x.toInt < 0 ∨ 6 < x.toInt := by
  rcases Int.lt_or_le x.toInt 0 with h | h
  · exact Or.inl h
  rcases Int.lt_or_le 6 x.toInt with h9 | h9
  · exact Or.inr h9
  exfalso
  have hh : x.toInt = 0 ∨ x.toInt = 1 ∨ x.toInt = 2 ∨ x.toInt = 3 ∨ x.toInt = 4 ∨ x.toInt = 5 ∨ x.toInt = 6 := by omega
  rcases hh with e | e | e | e | e | e | e
  · exact h0 (Int32.toInt_inj.mp (e.trans (by decide)))
  · exact h1 (Int32.toInt_inj.mp (e.trans (by decide)))
  · exact h2 (Int32.toInt_inj.mp (e.trans (by decide)))
  · exact h3 (Int32.toInt_inj.mp (e.trans (by decide)))
  · exact h4 (Int32.toInt_inj.mp (e.trans (by decide)))
  · exact h5 (Int32.toInt_inj.mp (e.trans (by decide)))
  · exact h6 (Int32.toInt_inj.mp (e.trans (by decide)))
theorem sw_out1_3 {x : Int32} (h1 : ¬ x = (1 : Int32)) (h2 : ¬ x = (2 : Int32)) (h3 : ¬ x = (3 : Int32)) : x.toInt < 1 ∨ 3 < x.toInt := by
  rcases Int.lt_or_le x.toInt 1 with h | h
  · exact Or.inl h
  rcases Int.lt_or_le 3 x.toInt with h9 | h9
  · exact Or.inr h9
  exfalso
  have hh : x.toInt = 1 ∨ x.toInt = 2 ∨ x.toInt = 3 := by omega
  rcases hh with e | e | e
  · exact h1 (Int32.toInt_inj.mp (e.trans (by decide)))
  · exact h2 (Int32.toInt_inj.mp (e.trans (by decide)))
  · exact h3 (Int32.toInt_inj.mp (e.trans (by decide)))
