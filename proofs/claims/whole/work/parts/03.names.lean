/-! names: the words of the tables by their places, the classes and their fields, the methods, their code -/
def gdw (w : Cond) : Bool := (w.onTables && w.keeps) || (match w with | .arrayClass _ => true | _ => false)
def wd : List Cond := lw_tbl.filter gdw
theorem wd_in {i : Nat} {w : Cond} (h : tables_1[i]? = some w) (hg : gdw w = true) : w ∈ wd := List.mem_filter.mpr ⟨List.mem_append_right _ (List.mem_of_getElem? h), hg⟩
theorem wd_sel {i : Nat} {w : Cond} (h : (k2_sels lw_privs)[i]? = some w) (hg : gdw w = true) : w ∈ wd := List.mem_filter.mpr ⟨List.mem_append_left _ (List.mem_of_getElem? h), hg⟩
abbrev y_X_init : MethodName := ⟨"ShockTube", "<init>", "()V"⟩
abbrev b_X_init : ByteArray := prog_1_method_1_code
abbrev y_X_shape : MethodName := ⟨"ShockTube", "shape", "(III)V"⟩
abbrev b_X_shape : ByteArray := prog_1_method_2_code
abbrev y_X_gas : MethodName := ⟨"ShockTube", "gas", "(I)V"⟩
abbrev b_X_gas : ByteArray := prog_1_method_3_code
abbrev y_X_cell : MethodName := ⟨"ShockTube", "cell", "(IIIII)V"⟩
abbrev b_X_cell : ByteArray := prog_1_method_4_code
abbrev y_X_ignition : MethodName := ⟨"ShockTube", "ignition", "(III)V"⟩
abbrev b_X_ignition : ByteArray := prog_1_method_5_code
abbrev y_X_step : MethodName := ⟨"ShockTube", "step", "(II)I"⟩
abbrev b_X_step : ByteArray := prog_1_method_6_code
abbrev y_X_tube : MethodName := ⟨"ShockTube", "tube", "(II)I"⟩
abbrev b_X_tube : ByteArray := prog_1_method_7_code
abbrev y_X_anew : MethodName := ⟨"ShockTube", "anew", "(II)I"⟩
abbrev b_X_anew : ByteArray := prog_1_method_8_code
abbrev y_X_probe : MethodName := ⟨"ShockTube", "probe", "(II)I"⟩
abbrev b_X_probe : ByteArray := prog_1_method_9_code
abbrev y_X_came : MethodName := ⟨"ShockTube", "came", "(I)J"⟩
abbrev b_X_came : ByteArray := prog_1_method_10_code
abbrev y_X_isKept : MethodName := ⟨"ShockTube", "isKept", "(I)Z"⟩
abbrev b_X_isKept : ByteArray := prog_1_method_11_code
abbrev y_X_many : MethodName := ⟨"ShockTube", "many", "()I"⟩
abbrev b_X_many : ByteArray := prog_1_method_12_code
abbrev y_X_steps : MethodName := ⟨"ShockTube", "steps", "()I"⟩
abbrev b_X_steps : ByteArray := prog_1_method_13_code
abbrev y_X_front : MethodName := ⟨"ShockTube", "front", "(IIII)I"⟩
abbrev b_X_front : ByteArray := prog_1_method_14_code
abbrev y_X_tick : MethodName := ⟨"ShockTube", "tick", "(I)I"⟩
abbrev b_X_tick : ByteArray := prog_1_method_15_code
abbrev y_X_fronts : MethodName := ⟨"ShockTube", "fronts", "()I"⟩
abbrev b_X_fronts : ByteArray := prog_1_method_16_code
abbrev y_X_ofFront : MethodName := ⟨"ShockTube", "ofFront", "(II)I"⟩
abbrev b_X_ofFront : ByteArray := prog_1_method_17_code
abbrev y_X_pipe : MethodName := ⟨"ShockTube", "pipe", "(IIIIII)V"⟩
abbrev b_X_pipe : ByteArray := prog_1_method_18_code
abbrev y_X_valve : MethodName := ⟨"ShockTube", "valve", "(I)I"⟩
abbrev b_X_valve : ByteArray := prog_1_method_19_code
abbrev y_X_reservoir : MethodName := ⟨"ShockTube", "reservoir", "(I)I"⟩
abbrev b_X_reservoir : ByteArray := prog_1_method_20_code
abbrev y_X_flow : MethodName := ⟨"ShockTube", "flow", "(I)I"⟩
abbrev b_X_flow : ByteArray := prog_1_method_21_code
abbrev y_X_node : MethodName := ⟨"ShockTube", "node", "(II)I"⟩
abbrev b_X_node : ByteArray := prog_1_method_22_code
abbrev y_X_keep : MethodName := ⟨"ShockTube", "keep", "(I)V"⟩
abbrev b_X_keep : ByteArray := prog_1_method_23_code
abbrev y_X_goBack : MethodName := ⟨"ShockTube", "goBack", "(I)V"⟩
abbrev b_X_goBack : ByteArray := prog_1_method_24_code
abbrev y_X_refuseCell : MethodName := ⟨"ShockTube", "refuseCell", "(I)V"⟩
abbrev b_X_refuseCell : ByteArray := prog_1_method_25_code
abbrev y_X_refuseWhat : MethodName := ⟨"ShockTube", "refuseWhat", "(II)V"⟩
abbrev b_X_refuseWhat : ByteArray := prog_1_method_26_code
abbrev y_X_refuseTicks : MethodName := ⟨"ShockTube", "refuseTicks", "(I)V"⟩
abbrev b_X_refuseTicks : ByteArray := prog_1_method_27_code
abbrev y_X_refuseNoPipe : MethodName := ⟨"ShockTube", "refuseNoPipe", "()V"⟩
abbrev b_X_refuseNoPipe : ByteArray := prog_1_method_28_code
abbrev y_X_refuseSlot : MethodName := ⟨"ShockTube", "refuseSlot", "(I)V"⟩
abbrev b_X_refuseSlot : ByteArray := prog_1_method_29_code
abbrev y_X_isFrom : MethodName := ⟨"ShockTube", "isFrom", "(III)Z"⟩
abbrev b_X_isFrom : ByteArray := prog_1_method_30_code
abbrev y_X_toInt : MethodName := ⟨"ShockTube", "toInt", "(J)I"⟩
abbrev b_X_toInt : ByteArray := prog_1_method_31_code
abbrev y_X_copyRow_1 : MethodName := ⟨"ShockTube", "copyRow", "([J[J)V"⟩
abbrev b_X_copyRow_1 : ByteArray := prog_1_method_32_code
abbrev y_X_copyRow_0 : MethodName := ⟨"ShockTube", "copyRow", "([I[I)V"⟩
abbrev b_X_copyRow_0 : ByteArray := prog_1_method_33_code
abbrev y_M_init : MethodName := ⟨"ShockTubeModel", "<init>", "()V"⟩
abbrev b_M_init : ByteArray := prog_10_method_1_code
abbrev y_M_thrown : MethodName := ⟨"ShockTubeModel", "thrown", "()I"⟩
abbrev b_M_thrown : ByteArray := prog_10_method_2_code
abbrev y_M_in : MethodName := ⟨"ShockTubeModel", "in", "(JJJ)Z"⟩
abbrev b_M_in : ByteArray := prog_10_method_3_code
abbrev y_M_down : MethodName := ⟨"ShockTubeModel", "down", "(JJ)J"⟩
abbrev b_M_down : ByteArray := prog_10_method_4_code
abbrev y_M_size : MethodName := ⟨"ShockTubeModel", "size", "(J)J"⟩
abbrev b_M_size : ByteArray := prog_10_method_5_code
abbrev y_M_root : MethodName := ⟨"ShockTubeModel", "root", "(J)J"⟩
abbrev b_M_root : ByteArray := prog_10_method_6_code
abbrev y_M_shapes : MethodName := ⟨"ShockTubeModel", "shapes", "(III)V"⟩
abbrev b_M_shapes : ByteArray := prog_10_method_7_code
abbrev y_M_shape : MethodName := ⟨"ShockTubeModel", "shape", "(III)V"⟩
abbrev b_M_shape : ByteArray := prog_10_method_8_code
abbrev y_M_gas : MethodName := ⟨"ShockTubeModel", "gas", "(I)V"⟩
abbrev b_M_gas : ByteArray := prog_10_method_9_code
abbrev y_M_within : MethodName := ⟨"ShockTubeModel", "within", "(JJJ)J"⟩
abbrev b_M_within : ByteArray := prog_10_method_10_code
abbrev y_M_pressure : MethodName := ⟨"ShockTubeModel", "pressure", "(JJJ)J"⟩
abbrev b_M_pressure : ByteArray := prog_10_method_11_code
abbrev y_M_isCell : MethodName := ⟨"ShockTubeModel", "isCell", "(I)Z"⟩
abbrev b_M_isCell : ByteArray := prog_10_method_12_code
abbrev y_M_cell : MethodName := ⟨"ShockTubeModel", "cell", "(IIIII)V"⟩
abbrev b_M_cell : ByteArray := prog_10_method_13_code
abbrev y_M_tells : MethodName := ⟨"ShockTubeModel", "tells", "(IIJ)V"⟩
abbrev b_M_tells : ByteArray := prog_10_method_14_code
abbrev y_M_ignition : MethodName := ⟨"ShockTubeModel", "ignition", "(III)V"⟩
abbrev b_M_ignition : ByteArray := prog_10_method_15_code
abbrev y_M_speedOf : MethodName := ⟨"ShockTubeModel", "speedOf", "(I)J"⟩
abbrev b_M_speedOf : ByteArray := prog_10_method_16_code
abbrev y_M_pressureOf : MethodName := ⟨"ShockTubeModel", "pressureOf", "(I)J"⟩
abbrev b_M_pressureOf : ByteArray := prog_10_method_17_code
abbrev y_M_soundOf : MethodName := ⟨"ShockTubeModel", "soundOf", "(I)J"⟩
abbrev b_M_soundOf : ByteArray := prog_10_method_18_code
abbrev y_M_fastOf : MethodName := ⟨"ShockTubeModel", "fastOf", "(I)J"⟩
abbrev b_M_fastOf : ByteArray := prog_10_method_19_code
abbrev y_M_over : MethodName := ⟨"ShockTubeModel", "over", "(JJJJ)J"⟩
abbrev b_M_over : ByteArray := prog_10_method_20_code
abbrev y_M_momentumQ : MethodName := ⟨"ShockTubeModel", "momentumQ", "(I)J"⟩
abbrev b_M_momentumQ : ByteArray := prog_10_method_21_code
abbrev y_M_energyQ : MethodName := ⟨"ShockTubeModel", "energyQ", "(I)J"⟩
abbrev b_M_energyQ : ByteArray := prog_10_method_22_code
abbrev y_M_fuelOver : MethodName := ⟨"ShockTubeModel", "fuelOver", "(JII)J"⟩
abbrev b_M_fuelOver : ByteArray := prog_10_method_23_code
abbrev y_M_crosses : MethodName := ⟨"ShockTubeModel", "crosses", "(JI)Z"⟩
abbrev b_M_crosses : ByteArray := prog_10_method_24_code
abbrev y_M_isGood : MethodName := ⟨"ShockTubeModel", "isGood", "(I)Z"⟩
abbrev b_M_isGood : ByteArray := prog_10_method_25_code
abbrev y_M_stepped : MethodName := ⟨"ShockTubeModel", "stepped", "(J)Z"⟩
abbrev b_M_stepped : ByteArray := prog_10_method_26_code
abbrev y_M_takesStep : MethodName := ⟨"ShockTubeModel", "takesStep", "()V"⟩
abbrev b_M_takesStep : ByteArray := prog_10_method_27_code
abbrev y_M_step : MethodName := ⟨"ShockTubeModel", "step", "(II)I"⟩
abbrev b_M_step : ByteArray := prog_10_method_28_code
abbrev y_M_greatest : MethodName := ⟨"ShockTubeModel", "greatest", "(J)I"⟩
abbrev b_M_greatest : ByteArray := prog_10_method_29_code
abbrev y_M_tube : MethodName := ⟨"ShockTubeModel", "tube", "(II)I"⟩
abbrev b_M_tube : ByteArray := prog_10_method_30_code
abbrev y_M_anew : MethodName := ⟨"ShockTubeModel", "anew", "(II)I"⟩
abbrev b_M_anew : ByteArray := prog_10_method_31_code
abbrev y_M_probe : MethodName := ⟨"ShockTubeModel", "probe", "(II)I"⟩
abbrev b_M_probe : ByteArray := prog_10_method_32_code
abbrev y_M_came : MethodName := ⟨"ShockTubeModel", "came", "(I)J"⟩
abbrev b_M_came : ByteArray := prog_10_method_33_code
abbrev y_M_isKept : MethodName := ⟨"ShockTubeModel", "isKept", "(I)Z"⟩
abbrev b_M_isKept : ByteArray := prog_10_method_34_code
abbrev y_M_many : MethodName := ⟨"ShockTubeModel", "many", "()I"⟩
abbrev b_M_many : ByteArray := prog_10_method_35_code
abbrev y_M_steps : MethodName := ⟨"ShockTubeModel", "steps", "()I"⟩
abbrev b_M_steps : ByteArray := prog_10_method_36_code
abbrev y_M_opens : MethodName := ⟨"ShockTubeModel", "opens", "(I)V"⟩
abbrev b_M_opens : ByteArray := prog_10_method_37_code
abbrev y_M_copies : MethodName := ⟨"ShockTubeModel", "copies", "(II)V"⟩
abbrev b_M_copies : ByteArray := prog_10_method_38_code
abbrev y_M_removes : MethodName := ⟨"ShockTubeModel", "removes", "(I)V"⟩
abbrev b_M_removes : ByteArray := prog_10_method_39_code
abbrev y_M_sets : MethodName := ⟨"ShockTubeModel", "sets", "(IJJJJ)V"⟩
abbrev b_M_sets : ByteArray := prog_10_method_40_code
abbrev y_M_front : MethodName := ⟨"ShockTubeModel", "front", "(IIII)I"⟩
abbrev b_M_front : ByteArray := prog_10_method_41_code
abbrev y_M_moves : MethodName := ⟨"ShockTubeModel", "moves", "()V"⟩
abbrev b_M_moves : ByteArray := prog_10_method_42_code
abbrev y_M_held : MethodName := ⟨"ShockTubeModel", "held", "(J)J"⟩
abbrev b_M_held : ByteArray := prog_10_method_43_code
abbrev y_M_doMeet : MethodName := ⟨"ShockTubeModel", "doMeet", "(I)Z"⟩
abbrev b_M_doMeet : ByteArray := prog_10_method_44_code
abbrev y_M_turns : MethodName := ⟨"ShockTubeModel", "turns", "(I)V"⟩
abbrev b_M_turns : ByteArray := prog_10_method_45_code
abbrev y_M_goThrough : MethodName := ⟨"ShockTubeModel", "goThrough", "(JJ)Z"⟩
abbrev b_M_goThrough : ByteArray := prog_10_method_46_code
abbrev y_M_shocksMeet : MethodName := ⟨"ShockTubeModel", "shocksMeet", "(IJ)I"⟩
abbrev b_M_shocksMeet : ByteArray := prog_10_method_47_code
abbrev y_M_passes : MethodName := ⟨"ShockTubeModel", "passes", "(I)I"⟩
abbrev b_M_passes : ByteArray := prog_10_method_48_code
abbrev y_M_meets : MethodName := ⟨"ShockTubeModel", "meets", "(I)I"⟩
abbrev b_M_meets : ByteArray := prog_10_method_49_code
abbrev y_M_tick : MethodName := ⟨"ShockTubeModel", "tick", "(I)I"⟩
abbrev b_M_tick : ByteArray := prog_10_method_50_code
abbrev y_M_fronts : MethodName := ⟨"ShockTubeModel", "fronts", "()I"⟩
abbrev b_M_fronts : ByteArray := prog_10_method_51_code
abbrev y_M_ofFront : MethodName := ⟨"ShockTubeModel", "ofFront", "(II)I"⟩
abbrev b_M_ofFront : ByteArray := prog_10_method_52_code
abbrev y_M_pipe : MethodName := ⟨"ShockTubeModel", "pipe", "(IIIIII)V"⟩
abbrev b_M_pipe : ByteArray := prog_10_method_53_code
abbrev y_M_valve : MethodName := ⟨"ShockTubeModel", "valve", "(I)I"⟩
abbrev b_M_valve : ByteArray := prog_10_method_54_code
abbrev y_M_reservoir : MethodName := ⟨"ShockTubeModel", "reservoir", "(I)I"⟩
abbrev b_M_reservoir : ByteArray := prog_10_method_55_code
abbrev y_M_rubs : MethodName := ⟨"ShockTubeModel", "rubs", "(I)J"⟩
abbrev b_M_rubs : ByteArray := prog_10_method_56_code
abbrev y_M_fromLeft : MethodName := ⟨"ShockTubeModel", "fromLeft", "(I)J"⟩
abbrev b_M_fromLeft : ByteArray := prog_10_method_57_code
abbrev y_M_fromRight : MethodName := ⟨"ShockTubeModel", "fromRight", "(I)J"⟩
abbrev b_M_fromRight : ByteArray := prog_10_method_58_code
abbrev y_M_finds : MethodName := ⟨"ShockTubeModel", "finds", "(I)V"⟩
abbrev b_M_finds : ByteArray := prog_10_method_59_code
abbrev y_M_flowed : MethodName := ⟨"ShockTubeModel", "flowed", "()Z"⟩
abbrev b_M_flowed : ByteArray := prog_10_method_60_code
abbrev y_M_flow : MethodName := ⟨"ShockTubeModel", "flow", "(I)I"⟩
abbrev b_M_flow : ByteArray := prog_10_method_61_code
abbrev y_M_node : MethodName := ⟨"ShockTubeModel", "node", "(II)I"⟩
abbrev b_M_node : ByteArray := prog_10_method_62_code
abbrev y_M_keep : MethodName := ⟨"ShockTubeModel", "keep", "(I)V"⟩
abbrev b_M_keep : ByteArray := prog_10_method_63_code
abbrev y_M_goBack : MethodName := ⟨"ShockTubeModel", "goBack", "(I)V"⟩
abbrev b_M_goBack : ByteArray := prog_10_method_64_code
abbrev y_Laws_init : MethodName := ⟨"ShockTube$Laws", "<init>", "()V"⟩
abbrev b_Laws_init : ByteArray := prog_2_method_1_code
abbrev y_Laws_ignite : MethodName := ⟨"ShockTube$Laws", "ignite", "(III)V"⟩
abbrev b_Laws_ignite : ByteArray := prog_2_method_2_code
abbrev y_Laws_copyFrom : MethodName := ⟨"ShockTube$Laws", "copyFrom", "(LShockTube$Laws;)V"⟩
abbrev b_Laws_copyFrom : ByteArray := prog_2_method_3_code
abbrev y_Laws_within : MethodName := ⟨"ShockTube$Laws", "within", "(JJJ)J"⟩
abbrev b_Laws_within : ByteArray := prog_2_method_4_code
abbrev y_Laws_speed : MethodName := ⟨"ShockTube$Laws", "speed", "(JJ)J"⟩
abbrev b_Laws_speed : ByteArray := prog_2_method_5_code
abbrev y_Laws_temperature : MethodName := ⟨"ShockTube$Laws", "temperature", "(JJ)J"⟩
abbrev b_Laws_temperature : ByteArray := prog_2_method_6_code
abbrev y_Laws_pressure : MethodName := ⟨"ShockTube$Laws", "pressure", "(J)J"⟩
abbrev b_Laws_pressure : ByteArray := prog_2_method_7_code
abbrev y_Laws_sound : MethodName := ⟨"ShockTube$Laws", "sound", "(JJ)J"⟩
abbrev b_Laws_sound : ByteArray := prog_2_method_8_code
abbrev y_Laws_root : MethodName := ⟨"ShockTube$Laws", "root", "(J)J"⟩
abbrev b_Laws_root : ByteArray := prog_2_method_9_code
abbrev y_Laws_burns : MethodName := ⟨"ShockTube$Laws", "burns", "(JJJ)J"⟩
abbrev b_Laws_burns : ByteArray := prog_2_method_10_code
abbrev y_Pipe_init : MethodName := ⟨"ShockTube$Pipe", "<init>", "()V"⟩
abbrev b_Pipe_init : ByteArray := prog_3_method_1_code
abbrev y_Pipe_begin : MethodName := ⟨"ShockTube$Pipe", "begin", "(III)V"⟩
abbrev b_Pipe_begin : ByteArray := prog_3_method_2_code
abbrev y_Pipe_isTicked : MethodName := ⟨"ShockTube$Pipe", "isTicked", "()Z"⟩
abbrev b_Pipe_isTicked : ByteArray := prog_3_method_3_code
abbrev y_Pipe_fromLeft : MethodName := ⟨"ShockTube$Pipe", "fromLeft", "(I)J"⟩
abbrev b_Pipe_fromLeft : ByteArray := prog_3_method_4_code
abbrev y_Pipe_fromRight : MethodName := ⟨"ShockTube$Pipe", "fromRight", "(I)J"⟩
abbrev b_Pipe_fromRight : ByteArray := prog_3_method_5_code
abbrev y_Pipe_rubbed : MethodName := ⟨"ShockTube$Pipe", "rubbed", "(I)J"⟩
abbrev b_Pipe_rubbed : ByteArray := prog_3_method_6_code
abbrev y_Pipe_findReservoir : MethodName := ⟨"ShockTube$Pipe", "findReservoir", "()V"⟩
abbrev b_Pipe_findReservoir : ByteArray := prog_3_method_7_code
abbrev y_Pipe_findBetween : MethodName := ⟨"ShockTube$Pipe", "findBetween", "(I)V"⟩
abbrev b_Pipe_findBetween : ByteArray := prog_3_method_8_code
abbrev y_Pipe_findValve : MethodName := ⟨"ShockTube$Pipe", "findValve", "()V"⟩
abbrev b_Pipe_findValve : ByteArray := prog_3_method_9_code
abbrev y_Pipe_findCavity : MethodName := ⟨"ShockTube$Pipe", "findCavity", "(IJJ)V"⟩
abbrev b_Pipe_findCavity : ByteArray := prog_3_method_10_code
abbrev y_Pipe_isAllowed : MethodName := ⟨"ShockTube$Pipe", "isAllowed", "(I)Z"⟩
abbrev b_Pipe_isAllowed : ByteArray := prog_3_method_11_code
abbrev y_Pipe_take : MethodName := ⟨"ShockTube$Pipe", "take", "()V"⟩
abbrev b_Pipe_take : ByteArray := prog_3_method_12_code
abbrev y_Pipe_tells : MethodName := ⟨"ShockTube$Pipe", "tells", "(II)J"⟩
abbrev b_Pipe_tells : ByteArray := prog_3_method_13_code
abbrev y_Pipe_copyFrom : MethodName := ⟨"ShockTube$Pipe", "copyFrom", "(LShockTube$Pipe;)V"⟩
abbrev b_Pipe_copyFrom : ByteArray := prog_3_method_14_code
abbrev y_Row_init : MethodName := ⟨"ShockTube$Row", "<init>", "()V"⟩
abbrev b_Row_init : ByteArray := prog_4_method_1_code
abbrev y_Row_placeFor : MethodName := ⟨"ShockTube$Row", "placeFor", "(I)I"⟩
abbrev b_Row_placeFor : ByteArray := prog_4_method_2_code
abbrev y_Row_putIn : MethodName := ⟨"ShockTube$Row", "putIn", "(IIIII)V"⟩
abbrev b_Row_putIn : ByteArray := prog_4_method_3_code
abbrev y_Row_takeOut : MethodName := ⟨"ShockTube$Row", "takeOut", "(I)V"⟩
abbrev b_Row_takeOut : ByteArray := prog_4_method_4_code
abbrev y_Row_copyFront : MethodName := ⟨"ShockTube$Row", "copyFront", "(II)V"⟩
abbrev b_Row_copyFront : ByteArray := prog_4_method_5_code
abbrev y_Row_move : MethodName := ⟨"ShockTube$Row", "move", "()V"⟩
abbrev b_Row_move : ByteArray := prog_4_method_6_code
abbrev y_Row_turn : MethodName := ⟨"ShockTube$Row", "turn", "(I)V"⟩
abbrev b_Row_turn : ByteArray := prog_4_method_7_code
abbrev y_Row_meetAll : MethodName := ⟨"ShockTube$Row", "meetAll", "()V"⟩
abbrev b_Row_meetAll : ByteArray := prog_4_method_8_code
abbrev y_Row_isMeeting : MethodName := ⟨"ShockTube$Row", "isMeeting", "(I)Z"⟩
abbrev b_Row_isMeeting : ByteArray := prog_4_method_9_code
abbrev y_Row_meet : MethodName := ⟨"ShockTube$Row", "meet", "(I)I"⟩
abbrev b_Row_meet : ByteArray := prog_4_method_10_code
abbrev y_Row_setPlace : MethodName := ⟨"ShockTube$Row", "setPlace", "(II)V"⟩
abbrev b_Row_setPlace : ByteArray := prog_4_method_11_code
abbrev y_Row_meetShocks : MethodName := ⟨"ShockTube$Row", "meetShocks", "(I)I"⟩
abbrev b_Row_meetShocks : ByteArray := prog_4_method_12_code
abbrev y_Row_merge : MethodName := ⟨"ShockTube$Row", "merge", "(I)V"⟩
abbrev b_Row_merge : ByteArray := prog_4_method_13_code
abbrev y_Row_goThroughOther : MethodName := ⟨"ShockTube$Row", "goThroughOther", "(I)I"⟩
abbrev b_Row_goThroughOther : ByteArray := prog_4_method_14_code
abbrev y_Row_held : MethodName := ⟨"ShockTube$Row", "held", "(I)I"⟩
abbrev b_Row_held : ByteArray := prog_4_method_15_code
abbrev y_Row_changePlaces : MethodName := ⟨"ShockTube$Row", "changePlaces", "(I)V"⟩
abbrev b_Row_changePlaces : ByteArray := prog_4_method_16_code
abbrev y_Row_tells : MethodName := ⟨"ShockTube$Row", "tells", "(II)I"⟩
abbrev b_Row_tells : ByteArray := prog_4_method_17_code
abbrev y_Row_copyFrom : MethodName := ⟨"ShockTube$Row", "copyFrom", "(LShockTube$Row;)V"⟩
abbrev b_Row_copyFrom : ByteArray := prog_4_method_18_code
abbrev y_State_init : MethodName := ⟨"ShockTube$State", "<init>", "()V"⟩
abbrev b_State_init : ByteArray := prog_5_method_1_code
abbrev y_State_copyFrom : MethodName := ⟨"ShockTube$State", "copyFrom", "(LShockTube$State;)V"⟩
abbrev b_State_copyFrom : ByteArray := prog_5_method_2_code
abbrev y_Step_init : MethodName := ⟨"ShockTube$Step", "<init>", "()V"⟩
abbrev b_Step_init : ByteArray := prog_6_method_1_code
abbrev y_Step_isDone : MethodName := ⟨"ShockTube$Step", "isDone", "(LShockTube$Tube;I)Z"⟩
abbrev b_Step_isDone : ByteArray := prog_6_method_2_code
abbrev y_Step_lookAtCells : MethodName := ⟨"ShockTube$Step", "lookAtCells", "(LShockTube$Tube;)V"⟩
abbrev b_Step_lookAtCells : ByteArray := prog_6_method_3_code
abbrev y_Step_isSlowEnough : MethodName := ⟨"ShockTube$Step", "isSlowEnough", "(LShockTube$Tube;I)Z"⟩
abbrev b_Step_isSlowEnough : ByteArray := prog_6_method_4_code
abbrev y_Step_paceAt : MethodName := ⟨"ShockTube$Step", "paceAt", "(LShockTube$Tube;I)J"⟩
abbrev b_Step_paceAt : ByteArray := prog_6_method_5_code
abbrev y_Step_leftOf : MethodName := ⟨"ShockTube$Step", "leftOf", "(I)I"⟩
abbrev b_Step_leftOf : ByteArray := prog_6_method_6_code
abbrev y_Step_rightOf : MethodName := ⟨"ShockTube$Step", "rightOf", "(LShockTube$Tube;I)I"⟩
abbrev b_Step_rightOf : ByteArray := prog_6_method_7_code
abbrev y_Step_findBorder : MethodName := ⟨"ShockTube$Step", "findBorder", "(LShockTube$Tube;II)V"⟩
abbrev b_Step_findBorder : ByteArray := prog_6_method_8_code
abbrev y_Step_findWall : MethodName := ⟨"ShockTube$Step", "findWall", "(LShockTube$Tube;II)V"⟩
abbrev b_Step_findWall : ByteArray := prog_6_method_9_code
abbrev y_Step_goes : MethodName := ⟨"ShockTube$Step", "goes", "(IIJJ)J"⟩
abbrev b_Step_goes : ByteArray := prog_6_method_10_code
abbrev y_Step_fuelGoes : MethodName := ⟨"ShockTube$Step", "fuelGoes", "(LShockTube$Tube;IIJ)J"⟩
abbrev b_Step_fuelGoes : ByteArray := prog_6_method_11_code
abbrev y_Step_fuelWith : MethodName := ⟨"ShockTube$Step", "fuelWith", "(LShockTube$Tube;IJ)J"⟩
abbrev b_Step_fuelWith : ByteArray := prog_6_method_12_code
abbrev y_Step_isFound : MethodName := ⟨"ShockTube$Step", "isFound", "(LShockTube$Tube;I)Z"⟩
abbrev b_Step_isFound : ByteArray := prog_6_method_13_code
abbrev y_Step_isAllowed : MethodName := ⟨"ShockTube$Step", "isAllowed", "(I)Z"⟩
abbrev b_Step_isAllowed : ByteArray := prog_6_method_14_code
abbrev y_Step_pressureNext : MethodName := ⟨"ShockTube$Step", "pressureNext", "(LShockTube$Tube;I)J"⟩
abbrev b_Step_pressureNext : ByteArray := prog_6_method_15_code
abbrev y_Step_take : MethodName := ⟨"ShockTube$Step", "take", "(LShockTube$Tube;)V"⟩
abbrev b_Step_take : ByteArray := prog_6_method_16_code
abbrev y_Story_init : MethodName := ⟨"ShockTube$Story", "<init>", "()V"⟩
abbrev b_Story_init : ByteArray := prog_7_method_1_code
abbrev y_Story_begin : MethodName := ⟨"ShockTube$Story", "begin", "(LShockTube$Tube;)V"⟩
abbrev b_Story_begin : ByteArray := prog_7_method_2_code
abbrev y_Story_note : MethodName := ⟨"ShockTube$Story", "note", "(IIIIII)V"⟩
abbrev b_Story_note : ByteArray := prog_7_method_3_code
abbrev y_Story_goOn : MethodName := ⟨"ShockTube$Story", "goOn", "(LShockTube$Step;)V"⟩
abbrev b_Story_goOn : ByteArray := prog_7_method_4_code
abbrev y_Story_goThrough : MethodName := ⟨"ShockTube$Story", "goThrough", "(ILShockTube$Step;)V"⟩
abbrev b_Story_goThrough : ByteArray := prog_7_method_5_code
abbrev y_Story_copyFrom : MethodName := ⟨"ShockTube$Story", "copyFrom", "(LShockTube$Story;)V"⟩
abbrev b_Story_copyFrom : ByteArray := prog_7_method_6_code
abbrev y_Tube_init : MethodName := ⟨"ShockTube$Tube", "<init>", "()V"⟩
abbrev b_Tube_init : ByteArray := prog_8_method_1_code
abbrev y_Tube_begin : MethodName := ⟨"ShockTube$Tube", "begin", "(III)V"⟩
abbrev b_Tube_begin : ByteArray := prog_8_method_2_code
abbrev y_Tube_clear : MethodName := ⟨"ShockTube$Tube", "clear", "(I)V"⟩
abbrev b_Tube_clear : ByteArray := prog_8_method_3_code
abbrev y_Tube_tell : MethodName := ⟨"ShockTube$Tube", "tell", "(IIIII)V"⟩
abbrev b_Tube_tell : ByteArray := prog_8_method_4_code
abbrev y_Tube_tellPart : MethodName := ⟨"ShockTube$Tube", "tellPart", "(IIJ)V"⟩
abbrev b_Tube_tellPart : ByteArray := prog_8_method_5_code
abbrev y_Tube_isWall : MethodName := ⟨"ShockTube$Tube", "isWall", "(I)Z"⟩
abbrev b_Tube_isWall : ByteArray := prog_8_method_6_code
abbrev y_Tube_pressure : MethodName := ⟨"ShockTube$Tube", "pressure", "(I)J"⟩
abbrev b_Tube_pressure : ByteArray := prog_8_method_7_code
abbrev y_Tube_tells : MethodName := ⟨"ShockTube$Tube", "tells", "(II)J"⟩
abbrev b_Tube_tells : ByteArray := prog_8_method_8_code
abbrev y_Tube_isBalanced : MethodName := ⟨"ShockTube$Tube", "isBalanced", "(I)Z"⟩
abbrev b_Tube_isBalanced : ByteArray := prog_8_method_9_code
abbrev y_Tube_noteProbe : MethodName := ⟨"ShockTube$Tube", "noteProbe", "(IJ)V"⟩
abbrev b_Tube_noteProbe : ByteArray := prog_8_method_10_code
abbrev y_Tube_copyFrom : MethodName := ⟨"ShockTube$Tube", "copyFrom", "(LShockTube$Tube;)V"⟩
abbrev b_Tube_copyFrom : ByteArray := prog_8_method_11_code
abbrev y_L_shape : MethodName := ⟨"ShockTubeLaw", "shape", "(LShockTube;III)I"⟩
abbrev b_L_shape : ByteArray := method_3_code
abbrev y_L_gas : MethodName := ⟨"ShockTubeLaw", "gas", "(LShockTube;I)I"⟩
abbrev b_L_gas : ByteArray := method_4_code
abbrev y_L_cell_0 : MethodName := ⟨"ShockTubeLaw", "cell", "(LShockTube;IIIII)I"⟩
abbrev b_L_cell_0 : ByteArray := method_5_code
abbrev y_L_ignition : MethodName := ⟨"ShockTubeLaw", "ignition", "(LShockTube;III)I"⟩
abbrev b_L_ignition : ByteArray := method_6_code
abbrev y_L_step : MethodName := ⟨"ShockTubeLaw", "step", "(LShockTube;II[J)I"⟩
abbrev b_L_step : ByteArray := method_7_code
abbrev y_L_tube : MethodName := ⟨"ShockTubeLaw", "tube", "(LShockTube;II[J)I"⟩
abbrev b_L_tube : ByteArray := method_8_code
abbrev y_L_anew : MethodName := ⟨"ShockTubeLaw", "anew", "(LShockTube;II[J)I"⟩
abbrev b_L_anew : ByteArray := method_9_code
abbrev y_L_probe : MethodName := ⟨"ShockTubeLaw", "probe", "(LShockTube;II[J)I"⟩
abbrev b_L_probe : ByteArray := method_10_code
abbrev y_L_came : MethodName := ⟨"ShockTubeLaw", "came", "(LShockTube;I[J)I"⟩
abbrev b_L_came : ByteArray := method_11_code
abbrev y_L_isKept : MethodName := ⟨"ShockTubeLaw", "isKept", "(LShockTube;I[J)I"⟩
abbrev b_L_isKept : ByteArray := method_12_code
abbrev y_L_front : MethodName := ⟨"ShockTubeLaw", "front", "(LShockTube;IIII[J)I"⟩
abbrev b_L_front : ByteArray := method_13_code
abbrev y_L_tick : MethodName := ⟨"ShockTubeLaw", "tick", "(LShockTube;I[J)I"⟩
abbrev b_L_tick : ByteArray := method_14_code
abbrev y_L_ofFront : MethodName := ⟨"ShockTubeLaw", "ofFront", "(LShockTube;II[J)I"⟩
abbrev b_L_ofFront : ByteArray := method_15_code
abbrev y_L_pipe : MethodName := ⟨"ShockTubeLaw", "pipe", "(LShockTube;IIIIII)I"⟩
abbrev b_L_pipe : ByteArray := method_16_code
abbrev y_L_valve : MethodName := ⟨"ShockTubeLaw", "valve", "(LShockTube;I[J)I"⟩
abbrev b_L_valve : ByteArray := method_17_code
abbrev y_L_reservoir : MethodName := ⟨"ShockTubeLaw", "reservoir", "(LShockTube;I[J)I"⟩
abbrev b_L_reservoir : ByteArray := method_18_code
abbrev y_L_flow : MethodName := ⟨"ShockTubeLaw", "flow", "(LShockTube;I[J)I"⟩
abbrev b_L_flow : ByteArray := method_19_code
abbrev y_L_node : MethodName := ⟨"ShockTubeLaw", "node", "(LShockTube;II[J)I"⟩
abbrev b_L_node : ByteArray := method_20_code
abbrev y_L_keep : MethodName := ⟨"ShockTubeLaw", "keep", "(LShockTube;I)I"⟩
abbrev b_L_keep : ByteArray := method_21_code
abbrev y_L_goBack : MethodName := ⟨"ShockTubeLaw", "goBack", "(LShockTube;I)I"⟩
abbrev b_L_goBack : ByteArray := method_22_code
abbrev y_Exception_init : MethodName := ⟨"java/lang/Exception", "<init>", "(Ljava/lang/String;)V"⟩
abbrev b_Exception_init : ByteArray := prog_11_method_2_code
abbrev y_IllegalArgumentException_init : MethodName := ⟨"java/lang/IllegalArgumentException", "<init>", "(Ljava/lang/String;)V"⟩
abbrev b_IllegalArgumentException_init : ByteArray := prog_12_method_2_code
abbrev y_IllegalStateException_init : MethodName := ⟨"java/lang/IllegalStateException", "<init>", "(Ljava/lang/String;)V"⟩
abbrev b_IllegalStateException_init : ByteArray := prog_13_method_2_code
abbrev y_IndexOutOfBoundsException_init : MethodName := ⟨"java/lang/IndexOutOfBoundsException", "<init>", "(Ljava/lang/String;)V"⟩
abbrev b_IndexOutOfBoundsException_init : ByteArray := prog_14_method_2_code
abbrev y_Math_abs_0 : MethodName := ⟨"java/lang/Math", "abs", "(I)I"⟩
abbrev b_Math_abs_0 : ByteArray := prog_15_method_59_code
abbrev y_Math_abs_1 : MethodName := ⟨"java/lang/Math", "abs", "(J)J"⟩
abbrev b_Math_abs_1 : ByteArray := prog_15_method_61_code
abbrev y_Math_floorDiv : MethodName := ⟨"java/lang/Math", "floorDiv", "(JJ)J"⟩
abbrev b_Math_floorDiv : ByteArray := prog_15_method_49_code
abbrev y_Math_max_0 : MethodName := ⟨"java/lang/Math", "max", "(II)I"⟩
abbrev b_Math_max_0 : ByteArray := prog_15_method_65_code
abbrev y_Math_max_1 : MethodName := ⟨"java/lang/Math", "max", "(JJ)J"⟩
abbrev b_Math_max_1 : ByteArray := prog_15_method_66_code
abbrev y_Math_min_0 : MethodName := ⟨"java/lang/Math", "min", "(II)I"⟩
abbrev b_Math_min_0 : ByteArray := prog_15_method_69_code
abbrev y_Math_min_1 : MethodName := ⟨"java/lang/Math", "min", "(JJ)J"⟩
abbrev b_Math_min_1 : ByteArray := prog_15_method_70_code
abbrev y_RuntimeException_init : MethodName := ⟨"java/lang/RuntimeException", "<init>", "(Ljava/lang/String;)V"⟩
abbrev b_RuntimeException_init : ByteArray := prog_16_method_2_code
abbrev y_System_arraycopy : MethodName := ⟨"java/lang/System", "arraycopy", "(Ljava/lang/Object;ILjava/lang/Object;II)V"⟩
abbrev y_Throwable_init : MethodName := ⟨"java/lang/Throwable", "<init>", "(Ljava/lang/String;)V"⟩
abbrev b_Throwable_init : ByteArray := prog_19_method_2_code
theorem x_0 : Jvm.Cond.initialized "ShockTubeLaw" ∈ wd := wd_in (i := 0) (by decide +kernel) (by decide +kernel)
theorem x_1 : Jvm.Cond.initialized "ShockTube" ∈ wd := wd_in (i := 1) (by decide +kernel) (by decide +kernel)
theorem x_2 : Jvm.Cond.initialized "ShockTube$State" ∈ wd := wd_in (i := 2) (by decide +kernel) (by decide +kernel)
theorem x_3 : Jvm.Cond.initialized "ShockTube$Tube" ∈ wd := wd_in (i := 3) (by decide +kernel) (by decide +kernel)
theorem x_4 : Jvm.Cond.initialized "ShockTube$Laws" ∈ wd := wd_in (i := 4) (by decide +kernel) (by decide +kernel)
theorem x_5 : Jvm.Cond.initialized "ShockTube$Story" ∈ wd := wd_in (i := 5) (by decide +kernel) (by decide +kernel)
theorem x_6 : Jvm.Cond.initialized "ShockTube$Row" ∈ wd := wd_in (i := 6) (by decide +kernel) (by decide +kernel)
theorem x_7 : Jvm.Cond.initialized "ShockTube$Pipe" ∈ wd := wd_in (i := 7) (by decide +kernel) (by decide +kernel)
theorem x_8 : Jvm.Cond.initialized "ShockTube$Step" ∈ wd := wd_in (i := 8) (by decide +kernel) (by decide +kernel)
theorem x_9 : Jvm.Cond.initialized "ShockTubeModel" ∈ wd := wd_in (i := 9) (by decide +kernel) (by decide +kernel)
theorem x_10 : Jvm.Cond.initialized "java/lang/Throwable" ∈ wd := wd_in (i := 10) (by decide +kernel) (by decide +kernel)
theorem x_11 : Jvm.Cond.initialized "java/lang/Exception" ∈ wd := wd_in (i := 11) (by decide +kernel) (by decide +kernel)
theorem x_12 : Jvm.Cond.initialized "java/lang/RuntimeException" ∈ wd := wd_in (i := 12) (by decide +kernel) (by decide +kernel)
theorem x_13 : Jvm.Cond.initialized "java/lang/IllegalArgumentException" ∈ wd := wd_in (i := 13) (by decide +kernel) (by decide +kernel)
theorem x_14 : Jvm.Cond.initialized "java/lang/Math" ∈ wd := wd_in (i := 14) (by decide +kernel) (by decide +kernel)
theorem x_15 : Jvm.Cond.initialized "java/lang/System" ∈ wd := wd_in (i := 15) (by decide +kernel) (by decide +kernel)
theorem x_16 : Jvm.Cond.initialized "java/lang/IndexOutOfBoundsException" ∈ wd := wd_in (i := 16) (by decide +kernel) (by decide +kernel)
theorem x_17 : Jvm.Cond.initialized "java/lang/IllegalStateException" ∈ wd := wd_in (i := 17) (by decide +kernel) (by decide +kernel)
theorem x_18 : Jvm.Cond.classLink "ShockTubeLaw" 8 "ShockTube" ∈ wd := wd_in (i := 18) (by decide +kernel) (by decide +kernel)
theorem x_19 : Jvm.Cond.instantiable "ShockTube" 3 ∈ wd := wd_in (i := 19) (by decide +kernel) (by decide +kernel)
theorem x_20 : Jvm.Cond.methodLink "ShockTubeLaw" 84 y_X_init ∈ wd := wd_in (i := 20) (by decide +kernel) (by decide +kernel)
theorem x_21 : Jvm.Cond.instanceMethod y_X_init ∈ wd := wd_in (i := 21) (by decide +kernel) (by decide +kernel)
theorem x_22 : Jvm.Cond.code y_X_init prog_1_method_1_code 1 (Option.none : Option Jvm.ClassFile.FieldType) ∈ wd := wd_in (i := 22) (by decide +kernel) (by decide +kernel)
theorem x_23 : Jvm.Cond.methodLink "ShockTube" 1 ⟨"java/lang/Object", "<init>", "()V"⟩ ∈ wd := wd_in (i := 23) (by decide +kernel) (by decide +kernel)
theorem x_24 : Jvm.Cond.instanceMethod ⟨"java/lang/Object", "<init>", "()V"⟩ ∈ wd := wd_in (i := 24) (by decide +kernel) (by decide +kernel)
theorem x_25 : Jvm.Cond.code ⟨"java/lang/Object", "<init>", "()V"⟩ object_method_1_code 1 (Option.none : Option Jvm.ClassFile.FieldType) ∈ wd := wd_in (i := 25) (by decide +kernel) (by decide +kernel)
theorem x_26 : Jvm.Cond.classLink "ShockTube" 7 "ShockTube$State" ∈ wd := wd_in (i := 26) (by decide +kernel) (by decide +kernel)
theorem x_27 : Jvm.Cond.instantiable "ShockTube$State" 4 ∈ wd := wd_in (i := 27) (by decide +kernel) (by decide +kernel)
theorem x_29 : Jvm.Cond.instanceMethod y_State_init ∈ wd := wd_in (i := 29) (by decide +kernel) (by decide +kernel)
theorem x_30 : Jvm.Cond.code y_State_init prog_5_method_1_code 1 (Option.none : Option Jvm.ClassFile.FieldType) ∈ wd := wd_in (i := 30) (by decide +kernel) (by decide +kernel)
theorem x_31 : Jvm.Cond.methodLink "ShockTube$State" 1 ⟨"java/lang/Object", "<init>", "()V"⟩ ∈ wd := wd_in (i := 31) (by decide +kernel) (by decide +kernel)
theorem x_32 : Jvm.Cond.classLink "ShockTube$State" 7 "ShockTube$Tube" ∈ wd := wd_in (i := 32) (by decide +kernel) (by decide +kernel)
theorem x_33 : Jvm.Cond.instantiable "ShockTube$Tube" 10 ∈ wd := wd_in (i := 33) (by decide +kernel) (by decide +kernel)
theorem x_34 : Jvm.Cond.methodLink "ShockTube$State" 9 y_Tube_init ∈ wd := wd_in (i := 34) (by decide +kernel) (by decide +kernel)
theorem x_35 : Jvm.Cond.instanceMethod y_Tube_init ∈ wd := wd_in (i := 35) (by decide +kernel) (by decide +kernel)
theorem x_36 : Jvm.Cond.code y_Tube_init prog_8_method_1_code 1 (Option.none : Option Jvm.ClassFile.FieldType) ∈ wd := wd_in (i := 36) (by decide +kernel) (by decide +kernel)
theorem x_37 : Jvm.Cond.methodLink "ShockTube$Tube" 3 ⟨"java/lang/Object", "<init>", "()V"⟩ ∈ wd := wd_in (i := 37) (by decide +kernel) (by decide +kernel)
theorem x_38 : Jvm.Cond.classLink "ShockTube$Tube" 9 "ShockTube$Laws" ∈ wd := wd_in (i := 38) (by decide +kernel) (by decide +kernel)
theorem x_39 : Jvm.Cond.instantiable "ShockTube$Laws" 4 ∈ wd := wd_in (i := 39) (by decide +kernel) (by decide +kernel)
theorem x_41 : Jvm.Cond.instanceMethod y_Laws_init ∈ wd := wd_in (i := 41) (by decide +kernel) (by decide +kernel)
theorem x_42 : Jvm.Cond.code y_Laws_init prog_2_method_1_code 1 (Option.none : Option Jvm.ClassFile.FieldType) ∈ wd := wd_in (i := 42) (by decide +kernel) (by decide +kernel)
theorem x_43 : Jvm.Cond.methodLink "ShockTube$Laws" 3 ⟨"java/lang/Object", "<init>", "()V"⟩ ∈ wd := wd_in (i := 43) (by decide +kernel) (by decide +kernel)
theorem x_44 : Jvm.Cond.constant "ShockTube$Laws" 15 (100000 : Int32) ∈ wd := wd_in (i := 44) (by decide +kernel) (by decide +kernel)
theorem x_45 : Jvm.Cond.fieldLink "ShockTube$Laws" 9 "ShockTube$Laws" "gas" "I" ∈ wd := wd_in (i := 45) (by decide +kernel) (by decide +kernel)
theorem x_46 : Jvm.Cond.fieldLink "ShockTube" 63 "ShockTube$Laws" "gas" "I" ∈ wd := wd_in (i := 46) (by decide +kernel) (by decide +kernel)
theorem x_47 : Jvm.Cond.fieldLink "ShockTube$Story" 45 "ShockTube$Laws" "gas" "I" ∈ wd := wd_in (i := 47) (by decide +kernel) (by decide +kernel)
theorem x_48 : Jvm.Cond.fieldLink "ShockTube$Laws" 16 "ShockTube$Laws" "ignition" "I" ∈ wd := wd_in (i := 48) (by decide +kernel) (by decide +kernel)
theorem x_49 : Jvm.Cond.fieldLink "ShockTube$Laws" 19 "ShockTube$Laws" "part" "I" ∈ wd := wd_in (i := 49) (by decide +kernel) (by decide +kernel)
theorem x_50 : Jvm.Cond.fieldLink "ShockTube$Laws" 22 "ShockTube$Laws" "heat" "I" ∈ wd := wd_in (i := 50) (by decide +kernel) (by decide +kernel)
theorem x_51 : Jvm.Cond.fieldLink "ShockTube$Step" 150 "ShockTube$Laws" "heat" "I" ∈ wd := wd_in (i := 51) (by decide +kernel) (by decide +kernel)
theorem x_60 : Jvm.Cond.superclass "ShockTube$Laws" "java/lang/Object" ∈ wd := wd_in (i := 60) (by decide +kernel) (by decide +kernel)
theorem x_61 : Jvm.Cond.classLink "ShockTube$Tube" 18 "[[J" ∈ wd := wd_in (i := 61) (by decide +kernel) (by decide +kernel)
theorem x_63 : Jvm.Cond.methodLink "ShockTube$Tube" 37 y_Tube_begin ∈ wd := wd_in (i := 63) (by decide +kernel) (by decide +kernel)
theorem x_64 : Jvm.Cond.instanceMethod y_Tube_begin ∈ wd := wd_in (i := 64) (by decide +kernel) (by decide +kernel)
theorem x_65 : Jvm.Cond.selects "ShockTube$Tube" y_Tube_begin y_Tube_begin ∈ wd := wd_in (i := 65) (by decide +kernel) (by decide +kernel)
theorem x_66 : Jvm.Cond.code y_Tube_begin prog_8_method_2_code 5 (Option.none : Option Jvm.ClassFile.FieldType) ∈ wd := wd_in (i := 66) (by decide +kernel) (by decide +kernel)
theorem x_67 : Jvm.Cond.methodLink "ShockTube$Tube" 54 y_Tube_clear ∈ wd := wd_in (i := 67) (by decide +kernel) (by decide +kernel)
theorem x_68 : Jvm.Cond.instanceMethod y_Tube_clear ∈ wd := wd_in (i := 68) (by decide +kernel) (by decide +kernel)
theorem x_69 : Jvm.Cond.selects "ShockTube$Tube" y_Tube_clear y_Tube_clear ∈ wd := wd_in (i := 69) (by decide +kernel) (by decide +kernel)
theorem x_70 : Jvm.Cond.code y_Tube_clear prog_8_method_3_code 3 (Option.none : Option Jvm.ClassFile.FieldType) ∈ wd := wd_in (i := 70) (by decide +kernel) (by decide +kernel)
theorem x_71 : Jvm.Cond.methodLink "ShockTube$Tube" 58 y_Tube_tell ∈ wd := wd_in (i := 71) (by decide +kernel) (by decide +kernel)
theorem x_72 : Jvm.Cond.instanceMethod y_Tube_tell ∈ wd := wd_in (i := 72) (by decide +kernel) (by decide +kernel)
theorem x_73 : Jvm.Cond.selects "ShockTube$Tube" y_Tube_tell y_Tube_tell ∈ wd := wd_in (i := 73) (by decide +kernel) (by decide +kernel)
theorem x_74 : Jvm.Cond.code y_Tube_tell prog_8_method_4_code 6 (Option.none : Option Jvm.ClassFile.FieldType) ∈ wd := wd_in (i := 74) (by decide +kernel) (by decide +kernel)
theorem x_75 : Jvm.Cond.methodLink "ShockTube$Tube" 62 y_Tube_tellPart ∈ wd := wd_in (i := 75) (by decide +kernel) (by decide +kernel)
theorem x_76 : Jvm.Cond.instanceMethod y_Tube_tellPart ∈ wd := wd_in (i := 76) (by decide +kernel) (by decide +kernel)
theorem x_77 : Jvm.Cond.selects "ShockTube$Tube" y_Tube_tellPart y_Tube_tellPart ∈ wd := wd_in (i := 77) (by decide +kernel) (by decide +kernel)
theorem x_78 : Jvm.Cond.code y_Tube_tellPart prog_8_method_5_code 5 (Option.none : Option Jvm.ClassFile.FieldType) ∈ wd := wd_in (i := 78) (by decide +kernel) (by decide +kernel)
theorem x_79 : Jvm.Cond.fieldLink "ShockTube$Tube" 12 "ShockTube$Tube" "laws" "LShockTube$Laws;" ∈ wd := wd_in (i := 79) (by decide +kernel) (by decide +kernel)
theorem x_80 : Jvm.Cond.fieldLink "ShockTube" 59 "ShockTube$Tube" "laws" "LShockTube$Laws;" ∈ wd := wd_in (i := 80) (by decide +kernel) (by decide +kernel)
theorem x_81 : Jvm.Cond.fieldLink "ShockTube$Step" 75 "ShockTube$Tube" "laws" "LShockTube$Laws;" ∈ wd := wd_in (i := 81) (by decide +kernel) (by decide +kernel)
theorem x_82 : Jvm.Cond.fieldLink "ShockTube$Story" 41 "ShockTube$Tube" "laws" "LShockTube$Laws;" ∈ wd := wd_in (i := 82) (by decide +kernel) (by decide +kernel)
theorem x_83 : Jvm.Cond.fieldLink "ShockTube$Tube" 41 "ShockTube$Tube" "many" "I" ∈ wd := wd_in (i := 83) (by decide +kernel) (by decide +kernel)
theorem x_84 : Jvm.Cond.fieldLink "ShockTube$Step" 43 "ShockTube$Tube" "many" "I" ∈ wd := wd_in (i := 84) (by decide +kernel) (by decide +kernel)
theorem x_85 : Jvm.Cond.fieldLink "ShockTube" 151 "ShockTube$Tube" "many" "I" ∈ wd := wd_in (i := 85) (by decide +kernel) (by decide +kernel)
theorem x_86 : Jvm.Cond.fieldLink "ShockTube$Tube" 45 "ShockTube$Tube" "leftEnd" "I" ∈ wd := wd_in (i := 86) (by decide +kernel) (by decide +kernel)
theorem x_87 : Jvm.Cond.fieldLink "ShockTube$Tube" 48 "ShockTube$Tube" "rightEnd" "I" ∈ wd := wd_in (i := 87) (by decide +kernel) (by decide +kernel)
theorem x_88 : Jvm.Cond.fieldLink "ShockTube$Tube" 51 "ShockTube$Tube" "steps" "I" ∈ wd := wd_in (i := 88) (by decide +kernel) (by decide +kernel)
theorem x_89 : Jvm.Cond.fieldLink "ShockTube" 104 "ShockTube$Tube" "steps" "I" ∈ wd := wd_in (i := 89) (by decide +kernel) (by decide +kernel)
theorem x_90 : Jvm.Cond.fieldLink "ShockTube$Step" 162 "ShockTube$Tube" "steps" "I" ∈ wd := wd_in (i := 90) (by decide +kernel) (by decide +kernel)
theorem x_91 : Jvm.Cond.fieldLink "ShockTube$Tube" 20 "ShockTube$Tube" "has" "[[J" ∈ wd := wd_in (i := 91) (by decide +kernel) (by decide +kernel)
theorem x_92 : Jvm.Cond.fieldLink "ShockTube$Step" 63 "ShockTube$Tube" "has" "[[J" ∈ wd := wd_in (i := 92) (by decide +kernel) (by decide +kernel)
theorem x_93 : Jvm.Cond.fieldLink "ShockTube" 132 "ShockTube$Tube" "has" "[[J" ∈ wd := wd_in (i := 93) (by decide +kernel) (by decide +kernel)
theorem x_94 : Jvm.Cond.fieldLink "ShockTube$Tube" 23 "ShockTube$Tube" "told" "[J" ∈ wd := wd_in (i := 94) (by decide +kernel) (by decide +kernel)
theorem x_95 : Jvm.Cond.fieldLink "ShockTube$Tube" 27 "ShockTube$Tube" "came" "[J" ∈ wd := wd_in (i := 95) (by decide +kernel) (by decide +kernel)
theorem x_96 : Jvm.Cond.fieldLink "ShockTube" 144 "ShockTube$Tube" "came" "[J" ∈ wd := wd_in (i := 96) (by decide +kernel) (by decide +kernel)
theorem x_97 : Jvm.Cond.fieldLink "ShockTube$Step" 169 "ShockTube$Tube" "came" "[J" ∈ wd := wd_in (i := 97) (by decide +kernel) (by decide +kernel)
theorem x_98 : Jvm.Cond.fieldLink "ShockTube$Tube" 30 "ShockTube$Tube" "greatest" "[J" ∈ wd := wd_in (i := 98) (by decide +kernel) (by decide +kernel)
theorem x_99 : Jvm.Cond.fieldLink "ShockTube" 136 "ShockTube$Tube" "greatest" "[J" ∈ wd := wd_in (i := 99) (by decide +kernel) (by decide +kernel)
theorem x_100 : Jvm.Cond.fieldLink "ShockTube$Tube" 33 "ShockTube$Tube" "greatestStep" "[I" ∈ wd := wd_in (i := 100) (by decide +kernel) (by decide +kernel)
theorem x_101 : Jvm.Cond.fieldLink "ShockTube" 140 "ShockTube$Tube" "greatestStep" "[I" ∈ wd := wd_in (i := 101) (by decide +kernel) (by decide +kernel)
theorem x_122 : Jvm.Cond.superclass "ShockTube$Tube" "java/lang/Object" ∈ wd := wd_in (i := 122) (by decide +kernel) (by decide +kernel)
theorem x_123 : Jvm.Cond.arrayClass Jvm.ClassFile.FieldType.long ∈ wd := wd_in (i := 123) (by decide +kernel) (by decide +kernel)
theorem x_124 : Jvm.Cond.arrayClass Jvm.ClassFile.FieldType.int ∈ wd := wd_in (i := 124) (by decide +kernel) (by decide +kernel)
theorem x_125 : Jvm.Cond.classLink "ShockTube$State" 16 "ShockTube$Story" ∈ wd := wd_in (i := 125) (by decide +kernel) (by decide +kernel)
theorem x_126 : Jvm.Cond.instantiable "ShockTube$Story" 4 ∈ wd := wd_in (i := 126) (by decide +kernel) (by decide +kernel)
theorem x_128 : Jvm.Cond.instanceMethod y_Story_init ∈ wd := wd_in (i := 128) (by decide +kernel) (by decide +kernel)
theorem x_129 : Jvm.Cond.code y_Story_init prog_7_method_1_code 1 (Option.none : Option Jvm.ClassFile.FieldType) ∈ wd := wd_in (i := 129) (by decide +kernel) (by decide +kernel)
theorem x_130 : Jvm.Cond.methodLink "ShockTube$Story" 3 ⟨"java/lang/Object", "<init>", "()V"⟩ ∈ wd := wd_in (i := 130) (by decide +kernel) (by decide +kernel)
theorem x_131 : Jvm.Cond.classLink "ShockTube$Story" 15 "ShockTube$Tube" ∈ wd := wd_in (i := 131) (by decide +kernel) (by decide +kernel)
theorem x_132 : Jvm.Cond.methodLink "ShockTube$Story" 17 y_Tube_init ∈ wd := wd_in (i := 132) (by decide +kernel) (by decide +kernel)
theorem x_133 : Jvm.Cond.fieldLink "ShockTube$Story" 11 "ShockTube$Story" "notes" "[I" ∈ wd := wd_in (i := 133) (by decide +kernel) (by decide +kernel)
theorem x_134 : Jvm.Cond.fieldLink "ShockTube$Story" 22 "ShockTube$Story" "count" "I" ∈ wd := wd_in (i := 134) (by decide +kernel) (by decide +kernel)
theorem x_135 : Jvm.Cond.fieldLink "ShockTube$Story" 26 "ShockTube$Story" "gone" "I" ∈ wd := wd_in (i := 135) (by decide +kernel) (by decide +kernel)
theorem x_136 : Jvm.Cond.fieldLink "ShockTube$Story" 18 "ShockTube$Story" "anew" "LShockTube$Tube;" ∈ wd := wd_in (i := 136) (by decide +kernel) (by decide +kernel)
theorem x_137 : Jvm.Cond.fieldLink "ShockTube" 129 "ShockTube$Story" "anew" "LShockTube$Tube;" ∈ wd := wd_in (i := 137) (by decide +kernel) (by decide +kernel)
theorem x_146 : Jvm.Cond.superclass "ShockTube$Story" "java/lang/Object" ∈ wd := wd_in (i := 146) (by decide +kernel) (by decide +kernel)
theorem x_147 : Jvm.Cond.classLink "ShockTube$State" 23 "ShockTube$Row" ∈ wd := wd_in (i := 147) (by decide +kernel) (by decide +kernel)
theorem x_148 : Jvm.Cond.instantiable "ShockTube$Row" 6 ∈ wd := wd_in (i := 148) (by decide +kernel) (by decide +kernel)
theorem x_150 : Jvm.Cond.instanceMethod y_Row_init ∈ wd := wd_in (i := 150) (by decide +kernel) (by decide +kernel)
theorem x_151 : Jvm.Cond.code y_Row_init prog_4_method_1_code 1 (Option.none : Option Jvm.ClassFile.FieldType) ∈ wd := wd_in (i := 151) (by decide +kernel) (by decide +kernel)
theorem x_152 : Jvm.Cond.methodLink "ShockTube$Row" 3 ⟨"java/lang/Object", "<init>", "()V"⟩ ∈ wd := wd_in (i := 152) (by decide +kernel) (by decide +kernel)
theorem x_153 : Jvm.Cond.fieldLink "ShockTube$Row" 27 "ShockTube$Row" "count" "I" ∈ wd := wd_in (i := 153) (by decide +kernel) (by decide +kernel)
theorem x_154 : Jvm.Cond.fieldLink "ShockTube" 160 "ShockTube$Row" "count" "I" ∈ wd := wd_in (i := 154) (by decide +kernel) (by decide +kernel)
theorem x_155 : Jvm.Cond.fieldLink "ShockTube$Row" 9 "ShockTube$Row" "kind" "[I" ∈ wd := wd_in (i := 155) (by decide +kernel) (by decide +kernel)
theorem x_156 : Jvm.Cond.fieldLink "ShockTube$Row" 15 "ShockTube$Row" "place" "[I" ∈ wd := wd_in (i := 156) (by decide +kernel) (by decide +kernel)
theorem x_157 : Jvm.Cond.fieldLink "ShockTube$Row" 18 "ShockTube$Row" "ahead" "[I" ∈ wd := wd_in (i := 157) (by decide +kernel) (by decide +kernel)
theorem x_158 : Jvm.Cond.fieldLink "ShockTube$Row" 21 "ShockTube$Row" "speed" "[I" ∈ wd := wd_in (i := 158) (by decide +kernel) (by decide +kernel)
theorem x_159 : Jvm.Cond.fieldLink "ShockTube$Row" 24 "ShockTube$Row" "strength" "[I" ∈ wd := wd_in (i := 159) (by decide +kernel) (by decide +kernel)
theorem x_172 : Jvm.Cond.superclass "ShockTube$Row" "java/lang/Object" ∈ wd := wd_in (i := 172) (by decide +kernel) (by decide +kernel)
theorem x_173 : Jvm.Cond.classLink "ShockTube$State" 30 "ShockTube$Pipe" ∈ wd := wd_in (i := 173) (by decide +kernel) (by decide +kernel)
theorem x_174 : Jvm.Cond.instantiable "ShockTube$Pipe" 13 ∈ wd := wd_in (i := 174) (by decide +kernel) (by decide +kernel)
theorem x_176 : Jvm.Cond.instanceMethod y_Pipe_init ∈ wd := wd_in (i := 176) (by decide +kernel) (by decide +kernel)
theorem x_177 : Jvm.Cond.code y_Pipe_init prog_3_method_1_code 1 (Option.none : Option Jvm.ClassFile.FieldType) ∈ wd := wd_in (i := 177) (by decide +kernel) (by decide +kernel)
theorem x_178 : Jvm.Cond.methodLink "ShockTube$Pipe" 3 ⟨"java/lang/Object", "<init>", "()V"⟩ ∈ wd := wd_in (i := 178) (by decide +kernel) (by decide +kernel)
theorem x_179 : Jvm.Cond.fieldLink "ShockTube$Pipe" 40 "ShockTube$Pipe" "nodes" "I" ∈ wd := wd_in (i := 179) (by decide +kernel) (by decide +kernel)
theorem x_180 : Jvm.Cond.fieldLink "ShockTube" 226 "ShockTube$Pipe" "nodes" "I" ∈ wd := wd_in (i := 180) (by decide +kernel) (by decide +kernel)
theorem x_181 : Jvm.Cond.fieldLink "ShockTube$Pipe" 9 "ShockTube$Pipe" "impedance" "I" ∈ wd := wd_in (i := 181) (by decide +kernel) (by decide +kernel)
theorem x_182 : Jvm.Cond.fieldLink "ShockTube" 197 "ShockTube$Pipe" "impedance" "I" ∈ wd := wd_in (i := 182) (by decide +kernel) (by decide +kernel)
theorem x_183 : Jvm.Cond.fieldLink "ShockTube$Pipe" 70 "ShockTube$Pipe" "friction" "I" ∈ wd := wd_in (i := 183) (by decide +kernel) (by decide +kernel)
theorem x_184 : Jvm.Cond.fieldLink "ShockTube" 202 "ShockTube$Pipe" "friction" "I" ∈ wd := wd_in (i := 184) (by decide +kernel) (by decide +kernel)
theorem x_185 : Jvm.Cond.fieldLink "ShockTube$Pipe" 15 "ShockTube$Pipe" "loss" "I" ∈ wd := wd_in (i := 185) (by decide +kernel) (by decide +kernel)
theorem x_186 : Jvm.Cond.fieldLink "ShockTube" 205 "ShockTube$Pipe" "loss" "I" ∈ wd := wd_in (i := 186) (by decide +kernel) (by decide +kernel)
theorem x_187 : Jvm.Cond.fieldLink "ShockTube$Pipe" 43 "ShockTube$Pipe" "opening" "I" ∈ wd := wd_in (i := 187) (by decide +kernel) (by decide +kernel)
theorem x_188 : Jvm.Cond.fieldLink "ShockTube" 214 "ShockTube$Pipe" "opening" "I" ∈ wd := wd_in (i := 188) (by decide +kernel) (by decide +kernel)
theorem x_189 : Jvm.Cond.fieldLink "ShockTube$Pipe" 46 "ShockTube$Pipe" "reservoirHead" "I" ∈ wd := wd_in (i := 189) (by decide +kernel) (by decide +kernel)
theorem x_190 : Jvm.Cond.fieldLink "ShockTube" 219 "ShockTube$Pipe" "reservoirHead" "I" ∈ wd := wd_in (i := 190) (by decide +kernel) (by decide +kernel)
theorem x_191 : Jvm.Cond.fieldLink "ShockTube$Pipe" 18 "ShockTube$Pipe" "head" "[J" ∈ wd := wd_in (i := 191) (by decide +kernel) (by decide +kernel)
theorem x_192 : Jvm.Cond.fieldLink "ShockTube$Pipe" 22 "ShockTube$Pipe" "flow" "[J" ∈ wd := wd_in (i := 192) (by decide +kernel) (by decide +kernel)
theorem x_193 : Jvm.Cond.fieldLink "ShockTube$Pipe" 25 "ShockTube$Pipe" "cavity" "[J" ∈ wd := wd_in (i := 193) (by decide +kernel) (by decide +kernel)
theorem x_194 : Jvm.Cond.fieldLink "ShockTube$Pipe" 28 "ShockTube$Pipe" "greatest" "[J" ∈ wd := wd_in (i := 194) (by decide +kernel) (by decide +kernel)
theorem x_195 : Jvm.Cond.fieldLink "ShockTube$Pipe" 31 "ShockTube$Pipe" "nextHead" "[J" ∈ wd := wd_in (i := 195) (by decide +kernel) (by decide +kernel)
theorem x_196 : Jvm.Cond.fieldLink "ShockTube$Pipe" 34 "ShockTube$Pipe" "nextFlow" "[J" ∈ wd := wd_in (i := 196) (by decide +kernel) (by decide +kernel)
theorem x_197 : Jvm.Cond.fieldLink "ShockTube$Pipe" 37 "ShockTube$Pipe" "nextCavity" "[J" ∈ wd := wd_in (i := 197) (by decide +kernel) (by decide +kernel)
theorem x_224 : Jvm.Cond.superclass "ShockTube$Pipe" "java/lang/Object" ∈ wd := wd_in (i := 224) (by decide +kernel) (by decide +kernel)
theorem x_225 : Jvm.Cond.fieldLink "ShockTube$State" 10 "ShockTube$State" "tube" "LShockTube$Tube;" ∈ wd := wd_in (i := 225) (by decide +kernel) (by decide +kernel)
theorem x_226 : Jvm.Cond.fieldLink "ShockTube" 38 "ShockTube$State" "tube" "LShockTube$Tube;" ∈ wd := wd_in (i := 226) (by decide +kernel) (by decide +kernel)
theorem x_227 : Jvm.Cond.fieldLink "ShockTube$State" 19 "ShockTube$State" "story" "LShockTube$Story;" ∈ wd := wd_in (i := 227) (by decide +kernel) (by decide +kernel)
theorem x_228 : Jvm.Cond.fieldLink "ShockTube" 48 "ShockTube$State" "story" "LShockTube$Story;" ∈ wd := wd_in (i := 228) (by decide +kernel) (by decide +kernel)
theorem x_229 : Jvm.Cond.fieldLink "ShockTube$State" 26 "ShockTube$State" "row" "LShockTube$Row;" ∈ wd := wd_in (i := 229) (by decide +kernel) (by decide +kernel)
theorem x_230 : Jvm.Cond.fieldLink "ShockTube" 156 "ShockTube$State" "row" "LShockTube$Row;" ∈ wd := wd_in (i := 230) (by decide +kernel) (by decide +kernel)
theorem x_231 : Jvm.Cond.fieldLink "ShockTube$State" 33 "ShockTube$State" "pipe" "LShockTube$Pipe;" ∈ wd := wd_in (i := 231) (by decide +kernel) (by decide +kernel)
theorem x_232 : Jvm.Cond.fieldLink "ShockTube" 193 "ShockTube$State" "pipe" "LShockTube$Pipe;" ∈ wd := wd_in (i := 232) (by decide +kernel) (by decide +kernel)
theorem x_241 : Jvm.Cond.superclass "ShockTube$State" "java/lang/Object" ∈ wd := wd_in (i := 241) (by decide +kernel) (by decide +kernel)
theorem x_242 : Jvm.Cond.classLink "ShockTube" 16 "ShockTube$Step" ∈ wd := wd_in (i := 242) (by decide +kernel) (by decide +kernel)
theorem x_243 : Jvm.Cond.instantiable "ShockTube$Step" 8 ∈ wd := wd_in (i := 243) (by decide +kernel) (by decide +kernel)
theorem x_245 : Jvm.Cond.instanceMethod y_Step_init ∈ wd := wd_in (i := 245) (by decide +kernel) (by decide +kernel)
theorem x_246 : Jvm.Cond.code y_Step_init prog_6_method_1_code 1 (Option.none : Option Jvm.ClassFile.FieldType) ∈ wd := wd_in (i := 246) (by decide +kernel) (by decide +kernel)
theorem x_247 : Jvm.Cond.methodLink "ShockTube$Step" 3 ⟨"java/lang/Object", "<init>", "()V"⟩ ∈ wd := wd_in (i := 247) (by decide +kernel) (by decide +kernel)
theorem x_248 : Jvm.Cond.classLink "ShockTube$Step" 18 "[[J" ∈ wd := wd_in (i := 248) (by decide +kernel) (by decide +kernel)
theorem x_249 : Jvm.Cond.fieldLink "ShockTube$Step" 9 "ShockTube$Step" "speed" "[J" ∈ wd := wd_in (i := 249) (by decide +kernel) (by decide +kernel)
theorem x_250 : Jvm.Cond.fieldLink "ShockTube$Step" 15 "ShockTube$Step" "sound" "[J" ∈ wd := wd_in (i := 250) (by decide +kernel) (by decide +kernel)
theorem x_251 : Jvm.Cond.fieldLink "ShockTube$Step" 20 "ShockTube$Step" "carries" "[[J" ∈ wd := wd_in (i := 251) (by decide +kernel) (by decide +kernel)
theorem x_252 : Jvm.Cond.fieldLink "ShockTube$Step" 23 "ShockTube$Step" "pace" "[J" ∈ wd := wd_in (i := 252) (by decide +kernel) (by decide +kernel)
theorem x_253 : Jvm.Cond.fieldLink "ShockTube$Step" 26 "ShockTube$Step" "over" "[[J" ∈ wd := wd_in (i := 253) (by decide +kernel) (by decide +kernel)
theorem x_254 : Jvm.Cond.fieldLink "ShockTube$Step" 29 "ShockTube$Step" "next" "[[J" ∈ wd := wd_in (i := 254) (by decide +kernel) (by decide +kernel)
theorem x_255 : Jvm.Cond.fieldLink "ShockTube$Step" 32 "ShockTube$Step" "pressureBehind" "[J" ∈ wd := wd_in (i := 255) (by decide +kernel) (by decide +kernel)
theorem x_256 : Jvm.Cond.fieldLink "ShockTube$Step" 53 "ShockTube$Step" "burnt" "J" ∈ wd := wd_in (i := 256) (by decide +kernel) (by decide +kernel)
theorem x_273 : Jvm.Cond.superclass "ShockTube$Step" "java/lang/Object" ∈ wd := wd_in (i := 273) (by decide +kernel) (by decide +kernel)
theorem x_275 : Jvm.Cond.fieldLink "ShockTube" 10 "ShockTube" "now" "LShockTube$State;" ∈ wd := wd_in (i := 275) (by decide +kernel) (by decide +kernel)
theorem x_276 : Jvm.Cond.fieldLink "ShockTube" 19 "ShockTube" "step" "LShockTube$Step;" ∈ wd := wd_in (i := 276) (by decide +kernel) (by decide +kernel)
theorem x_277 : Jvm.Cond.fieldLink "ShockTube" 23 "ShockTube" "kept" "[LShockTube$State;" ∈ wd := wd_in (i := 277) (by decide +kernel) (by decide +kernel)
theorem x_284 : Jvm.Cond.superclass "ShockTube" "java/lang/Object" ∈ wd := wd_in (i := 284) (by decide +kernel) (by decide +kernel)
theorem x_285 : Jvm.Cond.methodLink "ShockTubeLaw" 129 y_X_many ∈ wd := wd_in (i := 285) (by decide +kernel) (by decide +kernel)
theorem x_286 : Jvm.Cond.instanceMethod y_X_many ∈ wd := wd_in (i := 286) (by decide +kernel) (by decide +kernel)
theorem x_287 : Jvm.Cond.selects "ShockTube" y_X_many y_X_many ∈ wd := wd_in (i := 287) (by decide +kernel) (by decide +kernel)
theorem x_288 : Jvm.Cond.code y_X_many prog_1_method_12_code 1 (Option.some Jvm.ClassFile.FieldType.int) ∈ wd := wd_in (i := 288) (by decide +kernel) (by decide +kernel)
theorem x_289 : Jvm.Cond.methodLink "ShockTubeLaw" 133 y_X_steps ∈ wd := wd_in (i := 289) (by decide +kernel) (by decide +kernel)
theorem x_290 : Jvm.Cond.instanceMethod y_X_steps ∈ wd := wd_in (i := 290) (by decide +kernel) (by decide +kernel)
theorem x_291 : Jvm.Cond.selects "ShockTube" y_X_steps y_X_steps ∈ wd := wd_in (i := 291) (by decide +kernel) (by decide +kernel)
theorem x_292 : Jvm.Cond.code y_X_steps prog_1_method_13_code 1 (Option.some Jvm.ClassFile.FieldType.int) ∈ wd := wd_in (i := 292) (by decide +kernel) (by decide +kernel)
theorem x_293 : Jvm.Cond.methodLink "ShockTubeLaw" 144 y_X_fronts ∈ wd := wd_in (i := 293) (by decide +kernel) (by decide +kernel)
theorem x_294 : Jvm.Cond.instanceMethod y_X_fronts ∈ wd := wd_in (i := 294) (by decide +kernel) (by decide +kernel)
theorem x_295 : Jvm.Cond.selects "ShockTube" y_X_fronts y_X_fronts ∈ wd := wd_in (i := 295) (by decide +kernel) (by decide +kernel)
theorem x_296 : Jvm.Cond.code y_X_fronts prog_1_method_16_code 1 (Option.some Jvm.ClassFile.FieldType.int) ∈ wd := wd_in (i := 296) (by decide +kernel) (by decide +kernel)
theorem x_297 : Jvm.Cond.methodLink "ShockTubeLaw" 88 y_L_shape ∈ wd := wd_in (i := 297) (by decide +kernel) (by decide +kernel)
theorem x_298 : Jvm.Cond.static y_L_shape ∈ wd := wd_in (i := 298) (by decide +kernel) (by decide +kernel)
theorem x_299 : Jvm.Cond.codeWith y_L_shape method_3_code 5 (Option.some Jvm.ClassFile.FieldType.int) [(0, 7, 10, 13)] ∈ wd := wd_in (i := 299) (by decide +kernel) (by decide +kernel)
theorem x_300 : Jvm.Cond.classLink "ShockTubeLaw" 13 "java/lang/IllegalArgumentException" ∈ wd := wd_in (i := 300) (by decide +kernel) (by decide +kernel)
theorem x_301 : Jvm.Cond.methodLink "ShockTubeLaw" 7 y_X_shape ∈ wd := wd_in (i := 301) (by decide +kernel) (by decide +kernel)
theorem x_302 : Jvm.Cond.instanceMethod y_X_shape ∈ wd := wd_in (i := 302) (by decide +kernel) (by decide +kernel)
theorem x_303 : Jvm.Cond.selects "ShockTube" y_X_shape y_X_shape ∈ wd := wd_in (i := 303) (by decide +kernel) (by decide +kernel)
theorem x_304 : Jvm.Cond.code y_X_shape prog_1_method_2_code 4 (Option.none : Option Jvm.ClassFile.FieldType) ∈ wd := wd_in (i := 304) (by decide +kernel) (by decide +kernel)
theorem x_305 : Jvm.Cond.methodLink "ShockTube" 27 y_X_isFrom ∈ wd := wd_in (i := 305) (by decide +kernel) (by decide +kernel)
theorem x_306 : Jvm.Cond.static y_X_isFrom ∈ wd := wd_in (i := 306) (by decide +kernel) (by decide +kernel)
theorem x_307 : Jvm.Cond.code y_X_isFrom prog_1_method_30_code 3 (Option.some Jvm.ClassFile.FieldType.boolean) ∈ wd := wd_in (i := 307) (by decide +kernel) (by decide +kernel)
theorem x_308 : Jvm.Cond.classLink "ShockTube" 31 "java/lang/IllegalArgumentException" ∈ wd := wd_in (i := 308) (by decide +kernel) (by decide +kernel)
theorem x_309 : Jvm.Cond.instantiable "java/lang/IllegalArgumentException" 6 ∈ wd := wd_in (i := 309) (by decide +kernel) (by decide +kernel)
theorem x_317 : Jvm.Cond.selects "java/lang/IllegalArgumentException" ⟨"java/lang/Throwable", "fillInStackTrace", "(I)Ljava/lang/Throwable;"⟩ ⟨"java/lang/Throwable", "fillInStackTrace", "(I)Ljava/lang/Throwable;"⟩ ∈ wd := wd_in (i := 317) (by decide +kernel) (by decide +kernel)
theorem x_318 : Jvm.Cond.selects "java/lang/IllegalArgumentException" ⟨"java/lang/Throwable", "fillInStackTrace", "()Ljava/lang/Throwable;"⟩ ⟨"java/lang/Throwable", "fillInStackTrace", "()Ljava/lang/Throwable;"⟩ ∈ wd := wd_in (i := 318) (by decide +kernel) (by decide +kernel)
theorem x_329 : Jvm.Cond.fieldLink "java/lang/Throwable" 198 "java/lang/Throwable" "backtrace" "Ljava/lang/Object;" ∈ wd := wd_in (i := 329) (by decide +kernel) (by decide +kernel)
theorem x_330 : Jvm.Cond.superclass "java/lang/Throwable" "java/lang/Object" ∈ wd := wd_in (i := 330) (by decide +kernel) (by decide +kernel)
theorem x_331 : Jvm.Cond.instanceMethod ⟨"java/lang/Throwable", "<init>", "()V"⟩ ∈ wd := wd_in (i := 331) (by decide +kernel) (by decide +kernel)
theorem x_332 : Jvm.Cond.code ⟨"java/lang/Throwable", "<init>", "()V"⟩ prog_19_method_1_code 1 (Option.none : Option Jvm.ClassFile.FieldType) ∈ wd := wd_in (i := 332) (by decide +kernel) (by decide +kernel)
theorem x_333 : Jvm.Cond.methodLink "java/lang/Throwable" 1 ⟨"java/lang/Object", "<init>", "()V"⟩ ∈ wd := wd_in (i := 333) (by decide +kernel) (by decide +kernel)
theorem x_334 : Jvm.Cond.fieldLink "java/lang/Throwable" 13 "java/lang/Throwable" "UNASSIGNED_STACK" "[Ljava/lang/StackTraceElement;" ∈ wd := wd_in (i := 334) (by decide +kernel) (by decide +kernel)
theorem x_336 : Jvm.Cond.fieldLink "java/lang/Throwable" 20 "java/lang/Throwable" "SUPPRESSED_SENTINEL" "Ljava/util/List;" ∈ wd := wd_in (i := 336) (by decide +kernel) (by decide +kernel)
theorem x_338 : Jvm.Cond.methodLink "java/lang/Throwable" 27 ⟨"java/lang/Throwable", "fillInStackTrace", "()Ljava/lang/Throwable;"⟩ ∈ wd := wd_in (i := 338) (by decide +kernel) (by decide +kernel)
theorem x_339 : Jvm.Cond.instanceMethod ⟨"java/lang/Throwable", "fillInStackTrace", "()Ljava/lang/Throwable;"⟩ ∈ wd := wd_in (i := 339) (by decide +kernel) (by decide +kernel)
theorem x_340 : Jvm.Cond.sameMethod "java/lang/Throwable" "java/lang/Throwable" "fillInStackTrace" "()Ljava/lang/Throwable;" ∈ wd := wd_in (i := 340) (by decide +kernel) (by decide +kernel)
theorem x_341 : Jvm.Cond.selects "java/lang/IllegalStateException" ⟨"java/lang/Throwable", "fillInStackTrace", "()Ljava/lang/Throwable;"⟩ ⟨"java/lang/Throwable", "fillInStackTrace", "()Ljava/lang/Throwable;"⟩ ∈ wd := wd_in (i := 341) (by decide +kernel) (by decide +kernel)
theorem x_342 : Jvm.Cond.selects "java/lang/IndexOutOfBoundsException" ⟨"java/lang/Throwable", "fillInStackTrace", "()Ljava/lang/Throwable;"⟩ ⟨"java/lang/Throwable", "fillInStackTrace", "()Ljava/lang/Throwable;"⟩ ∈ wd := wd_in (i := 342) (by decide +kernel) (by decide +kernel)
theorem x_344 : Jvm.Cond.methodLink "java/lang/Throwable" 202 ⟨"java/lang/Throwable", "fillInStackTrace", "(I)Ljava/lang/Throwable;"⟩ ∈ wd := wd_in (i := 344) (by decide +kernel) (by decide +kernel)
theorem x_346 : Jvm.Cond.instanceMethod ⟨"java/lang/Throwable", "fillInStackTrace", "(I)Ljava/lang/Throwable;"⟩ ∈ wd := wd_in (i := 346) (by decide +kernel) (by decide +kernel)
theorem x_347 : Jvm.Cond.instantiable "java/lang/Throwable" 6 ∈ wd := wd_in (i := 347) (by decide +kernel) (by decide +kernel)
theorem x_348 : Jvm.Cond.native ⟨"java/lang/Throwable", "fillInStackTrace", "(I)Ljava/lang/Throwable;"⟩ ∈ wd := wd_in (i := 348) (by decide +kernel) (by decide +kernel)
theorem x_350 : Jvm.Cond.methodLink "ShockTube" 35 y_IllegalArgumentException_init ∈ wd := wd_in (i := 350) (by decide +kernel) (by decide +kernel)
theorem x_351 : Jvm.Cond.instanceMethod y_IllegalArgumentException_init ∈ wd := wd_in (i := 351) (by decide +kernel) (by decide +kernel)
theorem x_352 : Jvm.Cond.code y_IllegalArgumentException_init prog_12_method_2_code 2 (Option.none : Option Jvm.ClassFile.FieldType) ∈ wd := wd_in (i := 352) (by decide +kernel) (by decide +kernel)
theorem x_353 : Jvm.Cond.methodLink "java/lang/IllegalArgumentException" 7 y_RuntimeException_init ∈ wd := wd_in (i := 353) (by decide +kernel) (by decide +kernel)
theorem x_354 : Jvm.Cond.instanceMethod y_RuntimeException_init ∈ wd := wd_in (i := 354) (by decide +kernel) (by decide +kernel)
theorem x_355 : Jvm.Cond.code y_RuntimeException_init prog_16_method_2_code 2 (Option.none : Option Jvm.ClassFile.FieldType) ∈ wd := wd_in (i := 355) (by decide +kernel) (by decide +kernel)
theorem x_356 : Jvm.Cond.methodLink "java/lang/RuntimeException" 7 y_Exception_init ∈ wd := wd_in (i := 356) (by decide +kernel) (by decide +kernel)
theorem x_357 : Jvm.Cond.instanceMethod y_Exception_init ∈ wd := wd_in (i := 357) (by decide +kernel) (by decide +kernel)
theorem x_358 : Jvm.Cond.code y_Exception_init prog_11_method_2_code 2 (Option.none : Option Jvm.ClassFile.FieldType) ∈ wd := wd_in (i := 358) (by decide +kernel) (by decide +kernel)
theorem x_359 : Jvm.Cond.methodLink "java/lang/Exception" 7 y_Throwable_init ∈ wd := wd_in (i := 359) (by decide +kernel) (by decide +kernel)
theorem x_360 : Jvm.Cond.instanceMethod y_Throwable_init ∈ wd := wd_in (i := 360) (by decide +kernel) (by decide +kernel)
theorem x_361 : Jvm.Cond.code y_Throwable_init prog_19_method_2_code 2 (Option.none : Option Jvm.ClassFile.FieldType) ∈ wd := wd_in (i := 361) (by decide +kernel) (by decide +kernel)
theorem x_362 : Jvm.Cond.fieldLink "java/lang/Throwable" 198 "java/lang/Throwable" "backtrace" "Ljava/lang/Object;" ∈ wd := wd_in (i := 362) (by decide +kernel) (by decide +kernel)
theorem x_363 : Jvm.Cond.fieldLink "java/lang/Throwable" 31 "java/lang/Throwable" "detailMessage" "Ljava/lang/String;" ∈ wd := wd_in (i := 363) (by decide +kernel) (by decide +kernel)
theorem x_364 : Jvm.Cond.fieldLink "java/lang/Throwable" 7 "java/lang/Throwable" "cause" "Ljava/lang/Throwable;" ∈ wd := wd_in (i := 364) (by decide +kernel) (by decide +kernel)
theorem x_365 : Jvm.Cond.fieldLink "java/lang/Throwable" 17 "java/lang/Throwable" "stackTrace" "[Ljava/lang/StackTraceElement;" ∈ wd := wd_in (i := 365) (by decide +kernel) (by decide +kernel)
theorem x_366 : Jvm.Cond.fieldLink "java/lang/Throwable" 24 "java/lang/Throwable" "suppressedExceptions" "Ljava/util/List;" ∈ wd := wd_in (i := 366) (by decide +kernel) (by decide +kernel)
theorem x_374 : Jvm.Cond.superclass "java/lang/IllegalArgumentException" "java/lang/RuntimeException" ∈ wd := wd_in (i := 374) (by decide +kernel) (by decide +kernel)
theorem x_375 : Jvm.Cond.arrayClass Jvm.ClassFile.FieldType.byte ∈ wd := wd_in (i := 375) (by decide +kernel) (by decide +kernel)
theorem x_376 : Jvm.Cond.methodLink "ShockTube" 42 y_Tube_begin ∈ wd := wd_in (i := 376) (by decide +kernel) (by decide +kernel)
theorem x_377 : Jvm.Cond.methodLink "ShockTube" 52 y_Story_begin ∈ wd := wd_in (i := 377) (by decide +kernel) (by decide +kernel)
theorem x_378 : Jvm.Cond.instanceMethod y_Story_begin ∈ wd := wd_in (i := 378) (by decide +kernel) (by decide +kernel)
theorem x_379 : Jvm.Cond.selects "ShockTube$Story" y_Story_begin y_Story_begin ∈ wd := wd_in (i := 379) (by decide +kernel) (by decide +kernel)
theorem x_380 : Jvm.Cond.code y_Story_begin prog_7_method_2_code 2 (Option.none : Option Jvm.ClassFile.FieldType) ∈ wd := wd_in (i := 380) (by decide +kernel) (by decide +kernel)
theorem x_381 : Jvm.Cond.methodLink "ShockTube$Story" 29 y_Tube_copyFrom ∈ wd := wd_in (i := 381) (by decide +kernel) (by decide +kernel)
theorem x_382 : Jvm.Cond.instanceMethod y_Tube_copyFrom ∈ wd := wd_in (i := 382) (by decide +kernel) (by decide +kernel)
theorem x_383 : Jvm.Cond.selects "ShockTube$Tube" y_Tube_copyFrom y_Tube_copyFrom ∈ wd := wd_in (i := 383) (by decide +kernel) (by decide +kernel)
theorem x_384 : Jvm.Cond.code y_Tube_copyFrom prog_8_method_11_code 3 (Option.none : Option Jvm.ClassFile.FieldType) ∈ wd := wd_in (i := 384) (by decide +kernel) (by decide +kernel)
theorem x_385 : Jvm.Cond.methodLink "ShockTube$Tube" 87 y_Laws_copyFrom ∈ wd := wd_in (i := 385) (by decide +kernel) (by decide +kernel)
theorem x_386 : Jvm.Cond.instanceMethod y_Laws_copyFrom ∈ wd := wd_in (i := 386) (by decide +kernel) (by decide +kernel)
theorem x_387 : Jvm.Cond.selects "ShockTube$Laws" y_Laws_copyFrom y_Laws_copyFrom ∈ wd := wd_in (i := 387) (by decide +kernel) (by decide +kernel)
theorem x_388 : Jvm.Cond.code y_Laws_copyFrom prog_2_method_3_code 2 (Option.none : Option Jvm.ClassFile.FieldType) ∈ wd := wd_in (i := 388) (by decide +kernel) (by decide +kernel)
theorem x_389 : Jvm.Cond.methodLink "ShockTube$Laws" 25 y_Laws_ignite ∈ wd := wd_in (i := 389) (by decide +kernel) (by decide +kernel)
theorem x_390 : Jvm.Cond.instanceMethod y_Laws_ignite ∈ wd := wd_in (i := 390) (by decide +kernel) (by decide +kernel)
theorem x_391 : Jvm.Cond.selects "ShockTube$Laws" y_Laws_ignite y_Laws_ignite ∈ wd := wd_in (i := 391) (by decide +kernel) (by decide +kernel)
theorem x_392 : Jvm.Cond.code y_Laws_ignite prog_2_method_2_code 4 (Option.none : Option Jvm.ClassFile.FieldType) ∈ wd := wd_in (i := 392) (by decide +kernel) (by decide +kernel)
theorem x_394 : Jvm.Cond.static y_X_copyRow_1 ∈ wd := wd_in (i := 394) (by decide +kernel) (by decide +kernel)
theorem x_395 : Jvm.Cond.code y_X_copyRow_1 prog_1_method_32_code 2 (Option.none : Option Jvm.ClassFile.FieldType) ∈ wd := wd_in (i := 395) (by decide +kernel) (by decide +kernel)
theorem x_396 : Jvm.Cond.methodLink "ShockTube" 259 y_Math_min_0 ∈ wd := wd_in (i := 396) (by decide +kernel) (by decide +kernel)
theorem x_397 : Jvm.Cond.static y_Math_min_0 ∈ wd := wd_in (i := 397) (by decide +kernel) (by decide +kernel)
theorem x_398 : Jvm.Cond.code y_Math_min_0 prog_15_method_69_code 2 (Option.some Jvm.ClassFile.FieldType.int) ∈ wd := wd_in (i := 398) (by decide +kernel) (by decide +kernel)
theorem x_399 : Jvm.Cond.methodLink "ShockTube" 261 y_System_arraycopy ∈ wd := wd_in (i := 399) (by decide +kernel) (by decide +kernel)
theorem x_400 : Jvm.Cond.static y_System_arraycopy ∈ wd := wd_in (i := 400) (by decide +kernel) (by decide +kernel)
theorem x_401 : Jvm.Cond.native y_System_arraycopy ∈ wd := wd_in (i := 401) (by decide +kernel) (by decide +kernel)
theorem x_403 : Jvm.Cond.static y_X_copyRow_0 ∈ wd := wd_in (i := 403) (by decide +kernel) (by decide +kernel)
theorem x_404 : Jvm.Cond.code y_X_copyRow_0 prog_1_method_33_code 2 (Option.none : Option Jvm.ClassFile.FieldType) ∈ wd := wd_in (i := 404) (by decide +kernel) (by decide +kernel)
theorem x_405 : Jvm.Cond.methodLink "ShockTubeLaw" 98 y_L_gas ∈ wd := wd_in (i := 405) (by decide +kernel) (by decide +kernel)
theorem x_406 : Jvm.Cond.static y_L_gas ∈ wd := wd_in (i := 406) (by decide +kernel) (by decide +kernel)
theorem x_407 : Jvm.Cond.codeWith y_L_gas method_4_code 3 (Option.some Jvm.ClassFile.FieldType.int) [(0, 5, 8, 13)] ∈ wd := wd_in (i := 407) (by decide +kernel) (by decide +kernel)
theorem x_408 : Jvm.Cond.methodLink "ShockTubeLaw" 15 y_X_gas ∈ wd := wd_in (i := 408) (by decide +kernel) (by decide +kernel)
theorem x_409 : Jvm.Cond.instanceMethod y_X_gas ∈ wd := wd_in (i := 409) (by decide +kernel) (by decide +kernel)
theorem x_410 : Jvm.Cond.selects "ShockTube" y_X_gas y_X_gas ∈ wd := wd_in (i := 410) (by decide +kernel) (by decide +kernel)
theorem x_411 : Jvm.Cond.code y_X_gas prog_1_method_3_code 2 (Option.none : Option Jvm.ClassFile.FieldType) ∈ wd := wd_in (i := 411) (by decide +kernel) (by decide +kernel)
theorem x_413 : Jvm.Cond.methodLink "ShockTube" 69 y_Story_note ∈ wd := wd_in (i := 413) (by decide +kernel) (by decide +kernel)
theorem x_414 : Jvm.Cond.instanceMethod y_Story_note ∈ wd := wd_in (i := 414) (by decide +kernel) (by decide +kernel)
theorem x_415 : Jvm.Cond.selects "ShockTube$Story" y_Story_note y_Story_note ∈ wd := wd_in (i := 415) (by decide +kernel) (by decide +kernel)
theorem x_416 : Jvm.Cond.code y_Story_note prog_7_method_3_code 8 (Option.none : Option Jvm.ClassFile.FieldType) ∈ wd := wd_in (i := 416) (by decide +kernel) (by decide +kernel)
theorem x_417 : Jvm.Cond.methodLink "ShockTubeLaw" 102 y_L_cell_0 ∈ wd := wd_in (i := 417) (by decide +kernel) (by decide +kernel)
theorem x_418 : Jvm.Cond.static y_L_cell_0 ∈ wd := wd_in (i := 418) (by decide +kernel) (by decide +kernel)
theorem x_419 : Jvm.Cond.codeWith y_L_cell_0 method_5_code 7 (Option.some Jvm.ClassFile.FieldType.int) [(0, 11, 14, 23), (0, 11, 18, 13), (0, 11, 22, 25)] ∈ wd := wd_in (i := 419) (by decide +kernel) (by decide +kernel)
theorem x_420 : Jvm.Cond.classLink "ShockTubeLaw" 23 "java/lang/IndexOutOfBoundsException" ∈ wd := wd_in (i := 420) (by decide +kernel) (by decide +kernel)
theorem x_421 : Jvm.Cond.classLink "ShockTubeLaw" 25 "java/lang/IllegalStateException" ∈ wd := wd_in (i := 421) (by decide +kernel) (by decide +kernel)
theorem x_422 : Jvm.Cond.methodLink "ShockTubeLaw" 19 y_X_cell ∈ wd := wd_in (i := 422) (by decide +kernel) (by decide +kernel)
theorem x_423 : Jvm.Cond.instanceMethod y_X_cell ∈ wd := wd_in (i := 423) (by decide +kernel) (by decide +kernel)
theorem x_424 : Jvm.Cond.selects "ShockTube" y_X_cell y_X_cell ∈ wd := wd_in (i := 424) (by decide +kernel) (by decide +kernel)
theorem x_425 : Jvm.Cond.code y_X_cell prog_1_method_4_code 6 (Option.none : Option Jvm.ClassFile.FieldType) ∈ wd := wd_in (i := 425) (by decide +kernel) (by decide +kernel)
theorem x_426 : Jvm.Cond.methodLink "ShockTube" 73 y_X_refuseCell ∈ wd := wd_in (i := 426) (by decide +kernel) (by decide +kernel)
theorem x_428 : Jvm.Cond.instanceMethod y_X_refuseCell ∈ wd := wd_in (i := 428) (by decide +kernel) (by decide +kernel)
theorem x_429 : Jvm.Cond.code y_X_refuseCell prog_1_method_25_code 2 (Option.none : Option Jvm.ClassFile.FieldType) ∈ wd := wd_in (i := 429) (by decide +kernel) (by decide +kernel)
theorem x_430 : Jvm.Cond.classLink "ShockTube" 183 "java/lang/IndexOutOfBoundsException" ∈ wd := wd_in (i := 430) (by decide +kernel) (by decide +kernel)
theorem x_431 : Jvm.Cond.instantiable "java/lang/IndexOutOfBoundsException" 6 ∈ wd := wd_in (i := 431) (by decide +kernel) (by decide +kernel)
theorem x_433 : Jvm.Cond.selects "java/lang/IndexOutOfBoundsException" ⟨"java/lang/Throwable", "fillInStackTrace", "(I)Ljava/lang/Throwable;"⟩ ⟨"java/lang/Throwable", "fillInStackTrace", "(I)Ljava/lang/Throwable;"⟩ ∈ wd := wd_in (i := 433) (by decide +kernel) (by decide +kernel)
theorem x_440 : Jvm.Cond.methodLink "ShockTube" 187 y_IndexOutOfBoundsException_init ∈ wd := wd_in (i := 440) (by decide +kernel) (by decide +kernel)
theorem x_441 : Jvm.Cond.instanceMethod y_IndexOutOfBoundsException_init ∈ wd := wd_in (i := 441) (by decide +kernel) (by decide +kernel)
theorem x_442 : Jvm.Cond.code y_IndexOutOfBoundsException_init prog_14_method_2_code 2 (Option.none : Option Jvm.ClassFile.FieldType) ∈ wd := wd_in (i := 442) (by decide +kernel) (by decide +kernel)
theorem x_443 : Jvm.Cond.methodLink "java/lang/IndexOutOfBoundsException" 7 y_RuntimeException_init ∈ wd := wd_in (i := 443) (by decide +kernel) (by decide +kernel)
theorem x_445 : Jvm.Cond.superclass "java/lang/IndexOutOfBoundsException" "java/lang/RuntimeException" ∈ wd := wd_in (i := 445) (by decide +kernel) (by decide +kernel)
theorem x_446 : Jvm.Cond.constant "ShockTube" 77 (1000000 : Int32) ∈ wd := wd_in (i := 446) (by decide +kernel) (by decide +kernel)
theorem x_447 : Jvm.Cond.constant "ShockTube" 78 (-10000000 : Int32) ∈ wd := wd_in (i := 447) (by decide +kernel) (by decide +kernel)
theorem x_448 : Jvm.Cond.constant "ShockTube" 79 (10000000 : Int32) ∈ wd := wd_in (i := 448) (by decide +kernel) (by decide +kernel)
theorem x_449 : Jvm.Cond.constant "ShockTube" 80 (1000000000 : Int32) ∈ wd := wd_in (i := 449) (by decide +kernel) (by decide +kernel)
theorem x_451 : Jvm.Cond.methodLink "ShockTube" 83 y_Laws_within ∈ wd := wd_in (i := 451) (by decide +kernel) (by decide +kernel)
theorem x_452 : Jvm.Cond.static y_Laws_within ∈ wd := wd_in (i := 452) (by decide +kernel) (by decide +kernel)
theorem x_453 : Jvm.Cond.code y_Laws_within prog_2_method_4_code 6 (Option.some Jvm.ClassFile.FieldType.long) ∈ wd := wd_in (i := 453) (by decide +kernel) (by decide +kernel)
theorem x_454 : Jvm.Cond.constantLong "ShockTube$Laws" 29 (2 : Int64) ∈ wd := wd_in (i := 454) (by decide +kernel) (by decide +kernel)
theorem x_455 : Jvm.Cond.methodLink "ShockTube$Laws" 31 y_Math_floorDiv ∈ wd := wd_in (i := 455) (by decide +kernel) (by decide +kernel)
theorem x_456 : Jvm.Cond.static y_Math_floorDiv ∈ wd := wd_in (i := 456) (by decide +kernel) (by decide +kernel)
theorem x_457 : Jvm.Cond.code y_Math_floorDiv prog_15_method_49_code 6 (Option.some Jvm.ClassFile.FieldType.long) ∈ wd := wd_in (i := 457) (by decide +kernel) (by decide +kernel)
theorem x_458 : Jvm.Cond.classLink "ShockTube" 87 "java/lang/IllegalStateException" ∈ wd := wd_in (i := 458) (by decide +kernel) (by decide +kernel)
theorem x_459 : Jvm.Cond.instantiable "java/lang/IllegalStateException" 6 ∈ wd := wd_in (i := 459) (by decide +kernel) (by decide +kernel)
theorem x_461 : Jvm.Cond.selects "java/lang/IllegalStateException" ⟨"java/lang/Throwable", "fillInStackTrace", "(I)Ljava/lang/Throwable;"⟩ ⟨"java/lang/Throwable", "fillInStackTrace", "(I)Ljava/lang/Throwable;"⟩ ∈ wd := wd_in (i := 461) (by decide +kernel) (by decide +kernel)
theorem x_468 : Jvm.Cond.methodLink "ShockTube" 91 y_IllegalStateException_init ∈ wd := wd_in (i := 468) (by decide +kernel) (by decide +kernel)
theorem x_469 : Jvm.Cond.instanceMethod y_IllegalStateException_init ∈ wd := wd_in (i := 469) (by decide +kernel) (by decide +kernel)
theorem x_470 : Jvm.Cond.code y_IllegalStateException_init prog_13_method_2_code 2 (Option.none : Option Jvm.ClassFile.FieldType) ∈ wd := wd_in (i := 470) (by decide +kernel) (by decide +kernel)
theorem x_471 : Jvm.Cond.methodLink "java/lang/IllegalStateException" 7 y_RuntimeException_init ∈ wd := wd_in (i := 471) (by decide +kernel) (by decide +kernel)
theorem x_473 : Jvm.Cond.superclass "java/lang/IllegalStateException" "java/lang/RuntimeException" ∈ wd := wd_in (i := 473) (by decide +kernel) (by decide +kernel)
theorem x_474 : Jvm.Cond.methodLink "ShockTube" 92 y_Tube_tell ∈ wd := wd_in (i := 474) (by decide +kernel) (by decide +kernel)
theorem x_475 : Jvm.Cond.methodLink "ShockTubeLaw" 106 y_L_ignition ∈ wd := wd_in (i := 475) (by decide +kernel) (by decide +kernel)
theorem x_476 : Jvm.Cond.static y_L_ignition ∈ wd := wd_in (i := 476) (by decide +kernel) (by decide +kernel)
theorem x_477 : Jvm.Cond.codeWith y_L_ignition method_6_code 5 (Option.some Jvm.ClassFile.FieldType.int) [(0, 7, 10, 13)] ∈ wd := wd_in (i := 477) (by decide +kernel) (by decide +kernel)
theorem x_478 : Jvm.Cond.methodLink "ShockTubeLaw" 27 y_X_ignition ∈ wd := wd_in (i := 478) (by decide +kernel) (by decide +kernel)
theorem x_479 : Jvm.Cond.instanceMethod y_X_ignition ∈ wd := wd_in (i := 479) (by decide +kernel) (by decide +kernel)
theorem x_480 : Jvm.Cond.selects "ShockTube" y_X_ignition y_X_ignition ∈ wd := wd_in (i := 480) (by decide +kernel) (by decide +kernel)
theorem x_481 : Jvm.Cond.code y_X_ignition prog_1_method_5_code 4 (Option.none : Option Jvm.ClassFile.FieldType) ∈ wd := wd_in (i := 481) (by decide +kernel) (by decide +kernel)
theorem x_482 : Jvm.Cond.constant "ShockTube" 96 (100000 : Int32) ∈ wd := wd_in (i := 482) (by decide +kernel) (by decide +kernel)
theorem x_484 : Jvm.Cond.methodLink "ShockTube" 99 y_Laws_ignite ∈ wd := wd_in (i := 484) (by decide +kernel) (by decide +kernel)
theorem x_485 : Jvm.Cond.methodLink "ShockTubeLaw" 109 y_L_step ∈ wd := wd_in (i := 485) (by decide +kernel) (by decide +kernel)
theorem x_486 : Jvm.Cond.static y_L_step ∈ wd := wd_in (i := 486) (by decide +kernel) (by decide +kernel)
theorem x_487 : Jvm.Cond.codeWith y_L_step method_7_code 5 (Option.some Jvm.ClassFile.FieldType.int) [(0, 10, 13, 13), (0, 10, 17, 25)] ∈ wd := wd_in (i := 487) (by decide +kernel) (by decide +kernel)
theorem x_488 : Jvm.Cond.methodLink "ShockTubeLaw" 30 y_X_step ∈ wd := wd_in (i := 488) (by decide +kernel) (by decide +kernel)
theorem x_489 : Jvm.Cond.instanceMethod y_X_step ∈ wd := wd_in (i := 489) (by decide +kernel) (by decide +kernel)
theorem x_490 : Jvm.Cond.selects "ShockTube" y_X_step y_X_step ∈ wd := wd_in (i := 490) (by decide +kernel) (by decide +kernel)
theorem x_491 : Jvm.Cond.code y_X_step prog_1_method_6_code 4 (Option.some Jvm.ClassFile.FieldType.int) ∈ wd := wd_in (i := 491) (by decide +kernel) (by decide +kernel)
theorem x_494 : Jvm.Cond.methodLink "ShockTube" 109 y_Step_isDone ∈ wd := wd_in (i := 494) (by decide +kernel) (by decide +kernel)
theorem x_495 : Jvm.Cond.instanceMethod y_Step_isDone ∈ wd := wd_in (i := 495) (by decide +kernel) (by decide +kernel)
theorem x_496 : Jvm.Cond.selects "ShockTube$Step" y_Step_isDone y_Step_isDone ∈ wd := wd_in (i := 496) (by decide +kernel) (by decide +kernel)
theorem x_497 : Jvm.Cond.code y_Step_isDone prog_6_method_2_code 4 (Option.some Jvm.ClassFile.FieldType.boolean) ∈ wd := wd_in (i := 497) (by decide +kernel) (by decide +kernel)
theorem x_498 : Jvm.Cond.methodLink "ShockTube$Step" 35 y_Step_lookAtCells ∈ wd := wd_in (i := 498) (by decide +kernel) (by decide +kernel)
theorem x_499 : Jvm.Cond.instanceMethod y_Step_lookAtCells ∈ wd := wd_in (i := 499) (by decide +kernel) (by decide +kernel)
theorem x_500 : Jvm.Cond.selects "ShockTube$Step" y_Step_lookAtCells y_Step_lookAtCells ∈ wd := wd_in (i := 500) (by decide +kernel) (by decide +kernel)
theorem x_501 : Jvm.Cond.code y_Step_lookAtCells prog_6_method_3_code 9 (Option.none : Option Jvm.ClassFile.FieldType) ∈ wd := wd_in (i := 501) (by decide +kernel) (by decide +kernel)
theorem x_502 : Jvm.Cond.methodLink "ShockTube$Step" 66 y_Tube_pressure ∈ wd := wd_in (i := 502) (by decide +kernel) (by decide +kernel)
theorem x_503 : Jvm.Cond.instanceMethod y_Tube_pressure ∈ wd := wd_in (i := 503) (by decide +kernel) (by decide +kernel)
theorem x_504 : Jvm.Cond.selects "ShockTube$Tube" y_Tube_pressure y_Tube_pressure ∈ wd := wd_in (i := 504) (by decide +kernel) (by decide +kernel)
theorem x_505 : Jvm.Cond.code y_Tube_pressure prog_8_method_7_code 2 (Option.some Jvm.ClassFile.FieldType.long) ∈ wd := wd_in (i := 505) (by decide +kernel) (by decide +kernel)
theorem x_506 : Jvm.Cond.methodLink "ShockTube$Tube" 66 y_Laws_within ∈ wd := wd_in (i := 506) (by decide +kernel) (by decide +kernel)
theorem x_507 : Jvm.Cond.methodLink "ShockTube$Tube" 70 y_Laws_pressure ∈ wd := wd_in (i := 507) (by decide +kernel) (by decide +kernel)
theorem x_508 : Jvm.Cond.instanceMethod y_Laws_pressure ∈ wd := wd_in (i := 508) (by decide +kernel) (by decide +kernel)
theorem x_509 : Jvm.Cond.selects "ShockTube$Laws" y_Laws_pressure y_Laws_pressure ∈ wd := wd_in (i := 509) (by decide +kernel) (by decide +kernel)
theorem x_510 : Jvm.Cond.code y_Laws_pressure prog_2_method_7_code 3 (Option.some Jvm.ClassFile.FieldType.long) ∈ wd := wd_in (i := 510) (by decide +kernel) (by decide +kernel)
theorem x_515 : Jvm.Cond.methodLink "ShockTube$Step" 70 y_Laws_speed ∈ wd := wd_in (i := 515) (by decide +kernel) (by decide +kernel)
theorem x_516 : Jvm.Cond.static y_Laws_speed ∈ wd := wd_in (i := 516) (by decide +kernel) (by decide +kernel)
theorem x_517 : Jvm.Cond.code y_Laws_speed prog_2_method_5_code 4 (Option.some Jvm.ClassFile.FieldType.long) ∈ wd := wd_in (i := 517) (by decide +kernel) (by decide +kernel)
theorem x_518 : Jvm.Cond.constantLong "ShockTube$Laws" 37 (1000 : Int64) ∈ wd := wd_in (i := 518) (by decide +kernel) (by decide +kernel)
theorem x_519 : Jvm.Cond.methodLink "ShockTube$Step" 79 y_Laws_sound ∈ wd := wd_in (i := 519) (by decide +kernel) (by decide +kernel)
theorem x_520 : Jvm.Cond.instanceMethod y_Laws_sound ∈ wd := wd_in (i := 520) (by decide +kernel) (by decide +kernel)
theorem x_521 : Jvm.Cond.selects "ShockTube$Laws" y_Laws_sound y_Laws_sound ∈ wd := wd_in (i := 521) (by decide +kernel) (by decide +kernel)
theorem x_522 : Jvm.Cond.code y_Laws_sound prog_2_method_8_code 7 (Option.some Jvm.ClassFile.FieldType.long) ∈ wd := wd_in (i := 522) (by decide +kernel) (by decide +kernel)
theorem x_525 : Jvm.Cond.constantLong "ShockTube$Laws" 51 (1000000 : Int64) ∈ wd := wd_in (i := 525) (by decide +kernel) (by decide +kernel)
theorem x_528 : Jvm.Cond.methodLink "ShockTube$Laws" 56 y_Laws_root ∈ wd := wd_in (i := 528) (by decide +kernel) (by decide +kernel)
theorem x_529 : Jvm.Cond.static y_Laws_root ∈ wd := wd_in (i := 529) (by decide +kernel) (by decide +kernel)
theorem x_530 : Jvm.Cond.code y_Laws_root prog_2_method_9_code 8 (Option.some Jvm.ClassFile.FieldType.long) ∈ wd := wd_in (i := 530) (by decide +kernel) (by decide +kernel)
theorem x_531 : Jvm.Cond.constantLong "ShockTube$Laws" 60 (67108864 : Int64) ∈ wd := wd_in (i := 531) (by decide +kernel) (by decide +kernel)
theorem x_532 : Jvm.Cond.methodLink "ShockTube$Step" 81 y_Math_floorDiv ∈ wd := wd_in (i := 532) (by decide +kernel) (by decide +kernel)
theorem x_533 : Jvm.Cond.methodLink "ShockTube$Step" 39 y_Step_isSlowEnough ∈ wd := wd_in (i := 533) (by decide +kernel) (by decide +kernel)
theorem x_534 : Jvm.Cond.instanceMethod y_Step_isSlowEnough ∈ wd := wd_in (i := 534) (by decide +kernel) (by decide +kernel)
theorem x_535 : Jvm.Cond.selects "ShockTube$Step" y_Step_isSlowEnough y_Step_isSlowEnough ∈ wd := wd_in (i := 535) (by decide +kernel) (by decide +kernel)
theorem x_536 : Jvm.Cond.code y_Step_isSlowEnough prog_6_method_4_code 5 (Option.some Jvm.ClassFile.FieldType.boolean) ∈ wd := wd_in (i := 536) (by decide +kernel) (by decide +kernel)
theorem x_537 : Jvm.Cond.methodLink "ShockTube$Step" 86 y_Step_paceAt ∈ wd := wd_in (i := 537) (by decide +kernel) (by decide +kernel)
theorem x_538 : Jvm.Cond.instanceMethod y_Step_paceAt ∈ wd := wd_in (i := 538) (by decide +kernel) (by decide +kernel)
theorem x_539 : Jvm.Cond.selects "ShockTube$Step" y_Step_paceAt y_Step_paceAt ∈ wd := wd_in (i := 539) (by decide +kernel) (by decide +kernel)
theorem x_540 : Jvm.Cond.code y_Step_paceAt prog_6_method_5_code 9 (Option.some Jvm.ClassFile.FieldType.long) ∈ wd := wd_in (i := 540) (by decide +kernel) (by decide +kernel)
theorem x_541 : Jvm.Cond.methodLink "ShockTube$Step" 92 y_Step_leftOf ∈ wd := wd_in (i := 541) (by decide +kernel) (by decide +kernel)
theorem x_542 : Jvm.Cond.static y_Step_leftOf ∈ wd := wd_in (i := 542) (by decide +kernel) (by decide +kernel)
theorem x_543 : Jvm.Cond.code y_Step_leftOf prog_6_method_6_code 1 (Option.some Jvm.ClassFile.FieldType.int) ∈ wd := wd_in (i := 543) (by decide +kernel) (by decide +kernel)
theorem x_544 : Jvm.Cond.methodLink "ShockTube$Step" 111 y_Math_max_0 ∈ wd := wd_in (i := 544) (by decide +kernel) (by decide +kernel)
theorem x_545 : Jvm.Cond.static y_Math_max_0 ∈ wd := wd_in (i := 545) (by decide +kernel) (by decide +kernel)
theorem x_546 : Jvm.Cond.code y_Math_max_0 prog_15_method_65_code 2 (Option.some Jvm.ClassFile.FieldType.int) ∈ wd := wd_in (i := 546) (by decide +kernel) (by decide +kernel)
theorem x_547 : Jvm.Cond.methodLink "ShockTube$Step" 96 y_Step_rightOf ∈ wd := wd_in (i := 547) (by decide +kernel) (by decide +kernel)
theorem x_548 : Jvm.Cond.static y_Step_rightOf ∈ wd := wd_in (i := 548) (by decide +kernel) (by decide +kernel)
theorem x_549 : Jvm.Cond.code y_Step_rightOf prog_6_method_7_code 2 (Option.some Jvm.ClassFile.FieldType.int) ∈ wd := wd_in (i := 549) (by decide +kernel) (by decide +kernel)
theorem x_550 : Jvm.Cond.methodLink "ShockTube$Step" 114 y_Math_min_0 ∈ wd := wd_in (i := 550) (by decide +kernel) (by decide +kernel)
theorem x_551 : Jvm.Cond.methodLink "ShockTube$Step" 100 y_Math_abs_1 ∈ wd := wd_in (i := 551) (by decide +kernel) (by decide +kernel)
theorem x_552 : Jvm.Cond.static y_Math_abs_1 ∈ wd := wd_in (i := 552) (by decide +kernel) (by decide +kernel)
theorem x_553 : Jvm.Cond.code y_Math_abs_1 prog_15_method_61_code 2 (Option.some Jvm.ClassFile.FieldType.long) ∈ wd := wd_in (i := 553) (by decide +kernel) (by decide +kernel)
theorem x_554 : Jvm.Cond.methodLink "ShockTube$Step" 104 y_Tube_isWall ∈ wd := wd_in (i := 554) (by decide +kernel) (by decide +kernel)
theorem x_555 : Jvm.Cond.instanceMethod y_Tube_isWall ∈ wd := wd_in (i := 555) (by decide +kernel) (by decide +kernel)
theorem x_556 : Jvm.Cond.selects "ShockTube$Tube" y_Tube_isWall y_Tube_isWall ∈ wd := wd_in (i := 556) (by decide +kernel) (by decide +kernel)
theorem x_557 : Jvm.Cond.code y_Tube_isWall prog_8_method_6_code 2 (Option.some Jvm.ClassFile.FieldType.boolean) ∈ wd := wd_in (i := 557) (by decide +kernel) (by decide +kernel)
theorem x_558 : Jvm.Cond.methodLink "ShockTube$Step" 108 y_Math_max_1 ∈ wd := wd_in (i := 558) (by decide +kernel) (by decide +kernel)
theorem x_559 : Jvm.Cond.static y_Math_max_1 ∈ wd := wd_in (i := 559) (by decide +kernel) (by decide +kernel)
theorem x_560 : Jvm.Cond.code y_Math_max_1 prog_15_method_66_code 4 (Option.some Jvm.ClassFile.FieldType.long) ∈ wd := wd_in (i := 560) (by decide +kernel) (by decide +kernel)
theorem x_561 : Jvm.Cond.constantLong "ShockTube$Step" 90 (500000 : Int64) ∈ wd := wd_in (i := 561) (by decide +kernel) (by decide +kernel)
theorem x_562 : Jvm.Cond.methodLink "ShockTube$Step" 49 y_Step_findBorder ∈ wd := wd_in (i := 562) (by decide +kernel) (by decide +kernel)
theorem x_563 : Jvm.Cond.instanceMethod y_Step_findBorder ∈ wd := wd_in (i := 563) (by decide +kernel) (by decide +kernel)
theorem x_564 : Jvm.Cond.selects "ShockTube$Step" y_Step_findBorder y_Step_findBorder ∈ wd := wd_in (i := 564) (by decide +kernel) (by decide +kernel)
theorem x_565 : Jvm.Cond.code y_Step_findBorder prog_6_method_8_code 11 (Option.none : Option Jvm.ClassFile.FieldType) ∈ wd := wd_in (i := 565) (by decide +kernel) (by decide +kernel)
theorem x_566 : Jvm.Cond.methodLink "ShockTube$Step" 117 y_Step_findWall ∈ wd := wd_in (i := 566) (by decide +kernel) (by decide +kernel)
theorem x_567 : Jvm.Cond.instanceMethod y_Step_findWall ∈ wd := wd_in (i := 567) (by decide +kernel) (by decide +kernel)
theorem x_568 : Jvm.Cond.selects "ShockTube$Step" y_Step_findWall y_Step_findWall ∈ wd := wd_in (i := 568) (by decide +kernel) (by decide +kernel)
theorem x_569 : Jvm.Cond.code y_Step_findWall prog_6_method_9_code 7 (Option.none : Option Jvm.ClassFile.FieldType) ∈ wd := wd_in (i := 569) (by decide +kernel) (by decide +kernel)
theorem x_570 : Jvm.Cond.constantLong "ShockTube$Step" 128 (2 : Int64) ∈ wd := wd_in (i := 570) (by decide +kernel) (by decide +kernel)
theorem x_571 : Jvm.Cond.methodLink "ShockTube$Step" 120 y_Step_goes ∈ wd := wd_in (i := 571) (by decide +kernel) (by decide +kernel)
theorem x_572 : Jvm.Cond.instanceMethod y_Step_goes ∈ wd := wd_in (i := 572) (by decide +kernel) (by decide +kernel)
theorem x_573 : Jvm.Cond.selects "ShockTube$Step" y_Step_goes y_Step_goes ∈ wd := wd_in (i := 573) (by decide +kernel) (by decide +kernel)
theorem x_574 : Jvm.Cond.code y_Step_goes prog_6_method_10_code 7 (Option.some Jvm.ClassFile.FieldType.long) ∈ wd := wd_in (i := 574) (by decide +kernel) (by decide +kernel)
theorem x_575 : Jvm.Cond.constantLong "ShockTube$Step" 130 (1000 : Int64) ∈ wd := wd_in (i := 575) (by decide +kernel) (by decide +kernel)
theorem x_576 : Jvm.Cond.constantLong "ShockTube$Step" 132 (2000000 : Int64) ∈ wd := wd_in (i := 576) (by decide +kernel) (by decide +kernel)
theorem x_577 : Jvm.Cond.methodLink "ShockTube$Step" 124 y_Step_fuelGoes ∈ wd := wd_in (i := 577) (by decide +kernel) (by decide +kernel)
theorem x_578 : Jvm.Cond.static y_Step_fuelGoes ∈ wd := wd_in (i := 578) (by decide +kernel) (by decide +kernel)
theorem x_579 : Jvm.Cond.code y_Step_fuelGoes prog_6_method_11_code 5 (Option.some Jvm.ClassFile.FieldType.long) ∈ wd := wd_in (i := 579) (by decide +kernel) (by decide +kernel)
theorem x_580 : Jvm.Cond.methodLink "ShockTube$Step" 134 y_Step_fuelWith ∈ wd := wd_in (i := 580) (by decide +kernel) (by decide +kernel)
theorem x_581 : Jvm.Cond.static y_Step_fuelWith ∈ wd := wd_in (i := 581) (by decide +kernel) (by decide +kernel)
theorem x_582 : Jvm.Cond.code y_Step_fuelWith prog_6_method_12_code 6 (Option.some Jvm.ClassFile.FieldType.long) ∈ wd := wd_in (i := 582) (by decide +kernel) (by decide +kernel)
theorem x_583 : Jvm.Cond.methodLink "ShockTube$Step" 138 y_Math_min_1 ∈ wd := wd_in (i := 583) (by decide +kernel) (by decide +kernel)
theorem x_584 : Jvm.Cond.static y_Math_min_1 ∈ wd := wd_in (i := 584) (by decide +kernel) (by decide +kernel)
theorem x_585 : Jvm.Cond.code y_Math_min_1 prog_15_method_70_code 4 (Option.some Jvm.ClassFile.FieldType.long) ∈ wd := wd_in (i := 585) (by decide +kernel) (by decide +kernel)
theorem x_586 : Jvm.Cond.methodLink "ShockTube$Step" 57 y_Step_isFound ∈ wd := wd_in (i := 586) (by decide +kernel) (by decide +kernel)
theorem x_587 : Jvm.Cond.instanceMethod y_Step_isFound ∈ wd := wd_in (i := 587) (by decide +kernel) (by decide +kernel)
theorem x_588 : Jvm.Cond.selects "ShockTube$Step" y_Step_isFound y_Step_isFound ∈ wd := wd_in (i := 588) (by decide +kernel) (by decide +kernel)
theorem x_589 : Jvm.Cond.code y_Step_isFound prog_6_method_13_code 7 (Option.some Jvm.ClassFile.FieldType.boolean) ∈ wd := wd_in (i := 589) (by decide +kernel) (by decide +kernel)
theorem x_590 : Jvm.Cond.methodLink "ShockTube$Step" 140 y_Step_isAllowed ∈ wd := wd_in (i := 590) (by decide +kernel) (by decide +kernel)
theorem x_591 : Jvm.Cond.instanceMethod y_Step_isAllowed ∈ wd := wd_in (i := 591) (by decide +kernel) (by decide +kernel)
theorem x_592 : Jvm.Cond.selects "ShockTube$Step" y_Step_isAllowed y_Step_isAllowed ∈ wd := wd_in (i := 592) (by decide +kernel) (by decide +kernel)
theorem x_593 : Jvm.Cond.code y_Step_isAllowed prog_6_method_14_code 8 (Option.some Jvm.ClassFile.FieldType.boolean) ∈ wd := wd_in (i := 593) (by decide +kernel) (by decide +kernel)
theorem x_594 : Jvm.Cond.constantLong "ShockTube$Step" 153 (1000000 : Int64) ∈ wd := wd_in (i := 594) (by decide +kernel) (by decide +kernel)
theorem x_595 : Jvm.Cond.constantLong "ShockTube$Step" 155 (1000000000 : Int64) ∈ wd := wd_in (i := 595) (by decide +kernel) (by decide +kernel)
theorem x_596 : Jvm.Cond.methodLink "ShockTube$Step" 157 y_Laws_within ∈ wd := wd_in (i := 596) (by decide +kernel) (by decide +kernel)
theorem x_597 : Jvm.Cond.methodLink "ShockTube$Step" 143 y_Step_pressureNext ∈ wd := wd_in (i := 597) (by decide +kernel) (by decide +kernel)
theorem x_598 : Jvm.Cond.instanceMethod y_Step_pressureNext ∈ wd := wd_in (i := 598) (by decide +kernel) (by decide +kernel)
theorem x_599 : Jvm.Cond.selects "ShockTube$Step" y_Step_pressureNext y_Step_pressureNext ∈ wd := wd_in (i := 599) (by decide +kernel) (by decide +kernel)
theorem x_600 : Jvm.Cond.code y_Step_pressureNext prog_6_method_15_code 3 (Option.some Jvm.ClassFile.FieldType.long) ∈ wd := wd_in (i := 600) (by decide +kernel) (by decide +kernel)
theorem x_601 : Jvm.Cond.methodLink "ShockTube$Step" 160 y_Laws_pressure ∈ wd := wd_in (i := 601) (by decide +kernel) (by decide +kernel)
theorem x_602 : Jvm.Cond.methodLink "ShockTube$Step" 146 y_Laws_burns ∈ wd := wd_in (i := 602) (by decide +kernel) (by decide +kernel)
theorem x_603 : Jvm.Cond.instanceMethod y_Laws_burns ∈ wd := wd_in (i := 603) (by decide +kernel) (by decide +kernel)
theorem x_604 : Jvm.Cond.selects "ShockTube$Laws" y_Laws_burns y_Laws_burns ∈ wd := wd_in (i := 604) (by decide +kernel) (by decide +kernel)
theorem x_605 : Jvm.Cond.code y_Laws_burns prog_2_method_10_code 7 (Option.some Jvm.ClassFile.FieldType.long) ∈ wd := wd_in (i := 605) (by decide +kernel) (by decide +kernel)
theorem x_606 : Jvm.Cond.methodLink "ShockTube$Laws" 62 y_Laws_temperature ∈ wd := wd_in (i := 606) (by decide +kernel) (by decide +kernel)
theorem x_607 : Jvm.Cond.static y_Laws_temperature ∈ wd := wd_in (i := 607) (by decide +kernel) (by decide +kernel)
theorem x_608 : Jvm.Cond.code y_Laws_temperature prog_2_method_6_code 4 (Option.some Jvm.ClassFile.FieldType.long) ∈ wd := wd_in (i := 608) (by decide +kernel) (by decide +kernel)
theorem x_609 : Jvm.Cond.constantLong "ShockTube$Laws" 39 (100 : Int64) ∈ wd := wd_in (i := 609) (by decide +kernel) (by decide +kernel)
theorem x_610 : Jvm.Cond.methodLink "ShockTube$Step" 60 y_Step_take ∈ wd := wd_in (i := 610) (by decide +kernel) (by decide +kernel)
theorem x_611 : Jvm.Cond.instanceMethod y_Step_take ∈ wd := wd_in (i := 611) (by decide +kernel) (by decide +kernel)
theorem x_612 : Jvm.Cond.selects "ShockTube$Step" y_Step_take y_Step_take ∈ wd := wd_in (i := 612) (by decide +kernel) (by decide +kernel)
theorem x_613 : Jvm.Cond.code y_Step_take prog_6_method_16_code 3 (Option.none : Option Jvm.ClassFile.FieldType) ∈ wd := wd_in (i := 613) (by decide +kernel) (by decide +kernel)
theorem x_615 : Jvm.Cond.methodLink "ShockTube$Step" 172 y_Tube_noteProbe ∈ wd := wd_in (i := 615) (by decide +kernel) (by decide +kernel)
theorem x_616 : Jvm.Cond.instanceMethod y_Tube_noteProbe ∈ wd := wd_in (i := 616) (by decide +kernel) (by decide +kernel)
theorem x_617 : Jvm.Cond.selects "ShockTube$Tube" y_Tube_noteProbe y_Tube_noteProbe ∈ wd := wd_in (i := 617) (by decide +kernel) (by decide +kernel)
theorem x_618 : Jvm.Cond.code y_Tube_noteProbe prog_8_method_10_code 4 (Option.none : Option Jvm.ClassFile.FieldType) ∈ wd := wd_in (i := 618) (by decide +kernel) (by decide +kernel)
theorem x_619 : Jvm.Cond.methodLink "ShockTubeLaw" 113 y_L_tube ∈ wd := wd_in (i := 619) (by decide +kernel) (by decide +kernel)
theorem x_620 : Jvm.Cond.static y_L_tube ∈ wd := wd_in (i := 620) (by decide +kernel) (by decide +kernel)
theorem x_621 : Jvm.Cond.codeWith y_L_tube method_8_code 5 (Option.some Jvm.ClassFile.FieldType.int) [(0, 10, 13, 23), (0, 10, 17, 13)] ∈ wd := wd_in (i := 621) (by decide +kernel) (by decide +kernel)
theorem x_622 : Jvm.Cond.methodLink "ShockTubeLaw" 34 y_X_tube ∈ wd := wd_in (i := 622) (by decide +kernel) (by decide +kernel)
theorem x_623 : Jvm.Cond.instanceMethod y_X_tube ∈ wd := wd_in (i := 623) (by decide +kernel) (by decide +kernel)
theorem x_624 : Jvm.Cond.selects "ShockTube" y_X_tube y_X_tube ∈ wd := wd_in (i := 624) (by decide +kernel) (by decide +kernel)
theorem x_625 : Jvm.Cond.code y_X_tube prog_1_method_7_code 3 (Option.some Jvm.ClassFile.FieldType.int) ∈ wd := wd_in (i := 625) (by decide +kernel) (by decide +kernel)
theorem x_626 : Jvm.Cond.methodLink "ShockTube" 113 y_X_refuseWhat ∈ wd := wd_in (i := 626) (by decide +kernel) (by decide +kernel)
theorem x_627 : Jvm.Cond.static y_X_refuseWhat ∈ wd := wd_in (i := 627) (by decide +kernel) (by decide +kernel)
theorem x_628 : Jvm.Cond.code y_X_refuseWhat prog_1_method_26_code 2 (Option.none : Option Jvm.ClassFile.FieldType) ∈ wd := wd_in (i := 628) (by decide +kernel) (by decide +kernel)
theorem x_630 : Jvm.Cond.methodLink "ShockTube" 117 y_Tube_tells ∈ wd := wd_in (i := 630) (by decide +kernel) (by decide +kernel)
theorem x_631 : Jvm.Cond.instanceMethod y_Tube_tells ∈ wd := wd_in (i := 631) (by decide +kernel) (by decide +kernel)
theorem x_632 : Jvm.Cond.selects "ShockTube$Tube" y_Tube_tells y_Tube_tells ∈ wd := wd_in (i := 632) (by decide +kernel) (by decide +kernel)
theorem x_633 : Jvm.Cond.code y_Tube_tells prog_8_method_8_code 5 (Option.some Jvm.ClassFile.FieldType.long) ∈ wd := wd_in (i := 633) (by decide +kernel) (by decide +kernel)
theorem x_634 : Jvm.Cond.methodLink "ShockTube$Tube" 74 y_Tube_pressure ∈ wd := wd_in (i := 634) (by decide +kernel) (by decide +kernel)
theorem x_635 : Jvm.Cond.methodLink "ShockTube$Tube" 77 y_Laws_speed ∈ wd := wd_in (i := 635) (by decide +kernel) (by decide +kernel)
theorem x_636 : Jvm.Cond.methodLink "ShockTube$Tube" 81 y_Laws_sound ∈ wd := wd_in (i := 636) (by decide +kernel) (by decide +kernel)
theorem x_637 : Jvm.Cond.methodLink "ShockTube$Tube" 84 y_Laws_temperature ∈ wd := wd_in (i := 637) (by decide +kernel) (by decide +kernel)
theorem x_638 : Jvm.Cond.methodLink "ShockTube" 121 y_X_toInt ∈ wd := wd_in (i := 638) (by decide +kernel) (by decide +kernel)
theorem x_639 : Jvm.Cond.static y_X_toInt ∈ wd := wd_in (i := 639) (by decide +kernel) (by decide +kernel)
theorem x_640 : Jvm.Cond.code y_X_toInt prog_1_method_31_code 2 (Option.some Jvm.ClassFile.FieldType.int) ∈ wd := wd_in (i := 640) (by decide +kernel) (by decide +kernel)
theorem x_641 : Jvm.Cond.constantLong "ShockTube" 251 (2147483647 : Int64) ∈ wd := wd_in (i := 641) (by decide +kernel) (by decide +kernel)
theorem x_642 : Jvm.Cond.methodLink "ShockTube" 253 y_Math_min_1 ∈ wd := wd_in (i := 642) (by decide +kernel) (by decide +kernel)
theorem x_643 : Jvm.Cond.methodLink "ShockTubeLaw" 116 y_L_anew ∈ wd := wd_in (i := 643) (by decide +kernel) (by decide +kernel)
theorem x_644 : Jvm.Cond.static y_L_anew ∈ wd := wd_in (i := 644) (by decide +kernel) (by decide +kernel)
theorem x_645 : Jvm.Cond.codeWith y_L_anew method_9_code 5 (Option.some Jvm.ClassFile.FieldType.int) [(0, 10, 13, 23), (0, 10, 17, 13)] ∈ wd := wd_in (i := 645) (by decide +kernel) (by decide +kernel)
theorem x_646 : Jvm.Cond.methodLink "ShockTubeLaw" 37 y_X_anew ∈ wd := wd_in (i := 646) (by decide +kernel) (by decide +kernel)
theorem x_647 : Jvm.Cond.instanceMethod y_X_anew ∈ wd := wd_in (i := 647) (by decide +kernel) (by decide +kernel)
theorem x_648 : Jvm.Cond.selects "ShockTube" y_X_anew y_X_anew ∈ wd := wd_in (i := 648) (by decide +kernel) (by decide +kernel)
theorem x_649 : Jvm.Cond.code y_X_anew prog_1_method_8_code 3 (Option.some Jvm.ClassFile.FieldType.int) ∈ wd := wd_in (i := 649) (by decide +kernel) (by decide +kernel)
theorem x_650 : Jvm.Cond.methodLink "ShockTube" 125 y_Story_goOn ∈ wd := wd_in (i := 650) (by decide +kernel) (by decide +kernel)
theorem x_651 : Jvm.Cond.instanceMethod y_Story_goOn ∈ wd := wd_in (i := 651) (by decide +kernel) (by decide +kernel)
theorem x_652 : Jvm.Cond.selects "ShockTube$Story" y_Story_goOn y_Story_goOn ∈ wd := wd_in (i := 652) (by decide +kernel) (by decide +kernel)
theorem x_653 : Jvm.Cond.code y_Story_goOn prog_7_method_4_code 2 (Option.none : Option Jvm.ClassFile.FieldType) ∈ wd := wd_in (i := 653) (by decide +kernel) (by decide +kernel)
theorem x_654 : Jvm.Cond.methodLink "ShockTube$Story" 33 y_Story_goThrough ∈ wd := wd_in (i := 654) (by decide +kernel) (by decide +kernel)
theorem x_655 : Jvm.Cond.instanceMethod y_Story_goThrough ∈ wd := wd_in (i := 655) (by decide +kernel) (by decide +kernel)
theorem x_656 : Jvm.Cond.selects "ShockTube$Story" y_Story_goThrough y_Story_goThrough ∈ wd := wd_in (i := 656) (by decide +kernel) (by decide +kernel)
theorem x_657 : Jvm.Cond.code y_Story_goThrough prog_7_method_5_code 7 (Option.none : Option Jvm.ClassFile.FieldType) ∈ wd := wd_in (i := 657) (by decide +kernel) (by decide +kernel)
theorem x_658 : Jvm.Cond.methodLink "ShockTube$Story" 37 y_Tube_tell ∈ wd := wd_in (i := 658) (by decide +kernel) (by decide +kernel)
theorem x_659 : Jvm.Cond.methodLink "ShockTube$Story" 50 y_Laws_ignite ∈ wd := wd_in (i := 659) (by decide +kernel) (by decide +kernel)
theorem x_660 : Jvm.Cond.methodLink "ShockTube$Story" 54 y_Step_isDone ∈ wd := wd_in (i := 660) (by decide +kernel) (by decide +kernel)
theorem x_661 : Jvm.Cond.methodLink "ShockTubeLaw" 119 y_L_probe ∈ wd := wd_in (i := 661) (by decide +kernel) (by decide +kernel)
theorem x_662 : Jvm.Cond.static y_L_probe ∈ wd := wd_in (i := 662) (by decide +kernel) (by decide +kernel)
theorem x_663 : Jvm.Cond.codeWith y_L_probe method_10_code 5 (Option.some Jvm.ClassFile.FieldType.int) [(0, 10, 13, 23), (0, 10, 17, 13)] ∈ wd := wd_in (i := 663) (by decide +kernel) (by decide +kernel)
theorem x_664 : Jvm.Cond.methodLink "ShockTubeLaw" 40 y_X_probe ∈ wd := wd_in (i := 664) (by decide +kernel) (by decide +kernel)
theorem x_665 : Jvm.Cond.instanceMethod y_X_probe ∈ wd := wd_in (i := 665) (by decide +kernel) (by decide +kernel)
theorem x_666 : Jvm.Cond.selects "ShockTube" y_X_probe y_X_probe ∈ wd := wd_in (i := 666) (by decide +kernel) (by decide +kernel)
theorem x_667 : Jvm.Cond.code y_X_probe prog_1_method_9_code 3 (Option.some Jvm.ClassFile.FieldType.int) ∈ wd := wd_in (i := 667) (by decide +kernel) (by decide +kernel)
theorem x_668 : Jvm.Cond.methodLink "ShockTubeLaw" 122 y_L_came ∈ wd := wd_in (i := 668) (by decide +kernel) (by decide +kernel)
theorem x_669 : Jvm.Cond.static y_L_came ∈ wd := wd_in (i := 669) (by decide +kernel) (by decide +kernel)
theorem x_670 : Jvm.Cond.codeWith y_L_came method_11_code 4 (Option.some Jvm.ClassFile.FieldType.int) [(0, 8, 11, 13)] ∈ wd := wd_in (i := 670) (by decide +kernel) (by decide +kernel)
theorem x_671 : Jvm.Cond.methodLink "ShockTubeLaw" 43 y_X_came ∈ wd := wd_in (i := 671) (by decide +kernel) (by decide +kernel)
theorem x_672 : Jvm.Cond.instanceMethod y_X_came ∈ wd := wd_in (i := 672) (by decide +kernel) (by decide +kernel)
theorem x_673 : Jvm.Cond.selects "ShockTube" y_X_came y_X_came ∈ wd := wd_in (i := 673) (by decide +kernel) (by decide +kernel)
theorem x_674 : Jvm.Cond.code y_X_came prog_1_method_10_code 2 (Option.some Jvm.ClassFile.FieldType.long) ∈ wd := wd_in (i := 674) (by decide +kernel) (by decide +kernel)
theorem x_675 : Jvm.Cond.methodLink "ShockTubeLaw" 126 y_L_isKept ∈ wd := wd_in (i := 675) (by decide +kernel) (by decide +kernel)
theorem x_676 : Jvm.Cond.static y_L_isKept ∈ wd := wd_in (i := 676) (by decide +kernel) (by decide +kernel)
theorem x_677 : Jvm.Cond.codeWith y_L_isKept method_12_code 4 (Option.some Jvm.ClassFile.FieldType.int) [(0, 16, 19, 13)] ∈ wd := wd_in (i := 677) (by decide +kernel) (by decide +kernel)
theorem x_678 : Jvm.Cond.methodLink "ShockTubeLaw" 47 y_X_isKept ∈ wd := wd_in (i := 678) (by decide +kernel) (by decide +kernel)
theorem x_679 : Jvm.Cond.instanceMethod y_X_isKept ∈ wd := wd_in (i := 679) (by decide +kernel) (by decide +kernel)
theorem x_680 : Jvm.Cond.selects "ShockTube" y_X_isKept y_X_isKept ∈ wd := wd_in (i := 680) (by decide +kernel) (by decide +kernel)
theorem x_681 : Jvm.Cond.code y_X_isKept prog_1_method_11_code 2 (Option.some Jvm.ClassFile.FieldType.boolean) ∈ wd := wd_in (i := 681) (by decide +kernel) (by decide +kernel)
theorem x_682 : Jvm.Cond.methodLink "ShockTube" 147 y_Tube_isBalanced ∈ wd := wd_in (i := 682) (by decide +kernel) (by decide +kernel)
theorem x_683 : Jvm.Cond.instanceMethod y_Tube_isBalanced ∈ wd := wd_in (i := 683) (by decide +kernel) (by decide +kernel)
theorem x_684 : Jvm.Cond.selects "ShockTube$Tube" y_Tube_isBalanced y_Tube_isBalanced ∈ wd := wd_in (i := 684) (by decide +kernel) (by decide +kernel)
theorem x_685 : Jvm.Cond.code y_Tube_isBalanced prog_8_method_9_code 6 (Option.some Jvm.ClassFile.FieldType.boolean) ∈ wd := wd_in (i := 685) (by decide +kernel) (by decide +kernel)
theorem x_686 : Jvm.Cond.methodLink "ShockTubeLaw" 137 y_L_front ∈ wd := wd_in (i := 686) (by decide +kernel) (by decide +kernel)
theorem x_687 : Jvm.Cond.static y_L_front ∈ wd := wd_in (i := 687) (by decide +kernel) (by decide +kernel)
theorem x_688 : Jvm.Cond.codeWith y_L_front method_13_code 7 (Option.some Jvm.ClassFile.FieldType.int) [(0, 14, 17, 13), (0, 14, 21, 25)] ∈ wd := wd_in (i := 688) (by decide +kernel) (by decide +kernel)
theorem x_689 : Jvm.Cond.methodLink "ShockTubeLaw" 51 y_X_front ∈ wd := wd_in (i := 689) (by decide +kernel) (by decide +kernel)
theorem x_690 : Jvm.Cond.instanceMethod y_X_front ∈ wd := wd_in (i := 690) (by decide +kernel) (by decide +kernel)
theorem x_691 : Jvm.Cond.selects "ShockTube" y_X_front y_X_front ∈ wd := wd_in (i := 691) (by decide +kernel) (by decide +kernel)
theorem x_692 : Jvm.Cond.code y_X_front prog_1_method_14_code 6 (Option.some Jvm.ClassFile.FieldType.int) ∈ wd := wd_in (i := 692) (by decide +kernel) (by decide +kernel)
theorem x_695 : Jvm.Cond.methodLink "ShockTube" 167 y_Row_placeFor ∈ wd := wd_in (i := 695) (by decide +kernel) (by decide +kernel)
theorem x_696 : Jvm.Cond.instanceMethod y_Row_placeFor ∈ wd := wd_in (i := 696) (by decide +kernel) (by decide +kernel)
theorem x_697 : Jvm.Cond.selects "ShockTube$Row" y_Row_placeFor y_Row_placeFor ∈ wd := wd_in (i := 697) (by decide +kernel) (by decide +kernel)
theorem x_698 : Jvm.Cond.code y_Row_placeFor prog_4_method_2_code 4 (Option.some Jvm.ClassFile.FieldType.int) ∈ wd := wd_in (i := 698) (by decide +kernel) (by decide +kernel)
theorem x_699 : Jvm.Cond.methodLink "ShockTube" 171 y_Row_putIn ∈ wd := wd_in (i := 699) (by decide +kernel) (by decide +kernel)
theorem x_700 : Jvm.Cond.instanceMethod y_Row_putIn ∈ wd := wd_in (i := 700) (by decide +kernel) (by decide +kernel)
theorem x_701 : Jvm.Cond.selects "ShockTube$Row" y_Row_putIn y_Row_putIn ∈ wd := wd_in (i := 701) (by decide +kernel) (by decide +kernel)
theorem x_702 : Jvm.Cond.code y_Row_putIn prog_4_method_3_code 7 (Option.none : Option Jvm.ClassFile.FieldType) ∈ wd := wd_in (i := 702) (by decide +kernel) (by decide +kernel)
theorem x_703 : Jvm.Cond.methodLink "ShockTube$Row" 31 y_Row_copyFront ∈ wd := wd_in (i := 703) (by decide +kernel) (by decide +kernel)
theorem x_704 : Jvm.Cond.instanceMethod y_Row_copyFront ∈ wd := wd_in (i := 704) (by decide +kernel) (by decide +kernel)
theorem x_705 : Jvm.Cond.selects "ShockTube$Row" y_Row_copyFront y_Row_copyFront ∈ wd := wd_in (i := 705) (by decide +kernel) (by decide +kernel)
theorem x_706 : Jvm.Cond.code y_Row_copyFront prog_4_method_5_code 3 (Option.none : Option Jvm.ClassFile.FieldType) ∈ wd := wd_in (i := 706) (by decide +kernel) (by decide +kernel)
theorem x_707 : Jvm.Cond.methodLink "ShockTubeLaw" 141 y_L_tick ∈ wd := wd_in (i := 707) (by decide +kernel) (by decide +kernel)
theorem x_708 : Jvm.Cond.static y_L_tick ∈ wd := wd_in (i := 708) (by decide +kernel) (by decide +kernel)
theorem x_709 : Jvm.Cond.codeWith y_L_tick method_14_code 4 (Option.some Jvm.ClassFile.FieldType.int) [(0, 9, 12, 13)] ∈ wd := wd_in (i := 709) (by decide +kernel) (by decide +kernel)
theorem x_710 : Jvm.Cond.methodLink "ShockTubeLaw" 55 y_X_tick ∈ wd := wd_in (i := 710) (by decide +kernel) (by decide +kernel)
theorem x_711 : Jvm.Cond.instanceMethod y_X_tick ∈ wd := wd_in (i := 711) (by decide +kernel) (by decide +kernel)
theorem x_712 : Jvm.Cond.selects "ShockTube" y_X_tick y_X_tick ∈ wd := wd_in (i := 712) (by decide +kernel) (by decide +kernel)
theorem x_713 : Jvm.Cond.code y_X_tick prog_1_method_15_code 3 (Option.some Jvm.ClassFile.FieldType.int) ∈ wd := wd_in (i := 713) (by decide +kernel) (by decide +kernel)
theorem x_714 : Jvm.Cond.methodLink "ShockTube" 174 y_X_refuseTicks ∈ wd := wd_in (i := 714) (by decide +kernel) (by decide +kernel)
theorem x_715 : Jvm.Cond.static y_X_refuseTicks ∈ wd := wd_in (i := 715) (by decide +kernel) (by decide +kernel)
theorem x_716 : Jvm.Cond.code y_X_refuseTicks prog_1_method_27_code 1 (Option.none : Option Jvm.ClassFile.FieldType) ∈ wd := wd_in (i := 716) (by decide +kernel) (by decide +kernel)
theorem x_718 : Jvm.Cond.methodLink "ShockTube" 177 y_Row_move ∈ wd := wd_in (i := 718) (by decide +kernel) (by decide +kernel)
theorem x_719 : Jvm.Cond.instanceMethod y_Row_move ∈ wd := wd_in (i := 719) (by decide +kernel) (by decide +kernel)
theorem x_720 : Jvm.Cond.selects "ShockTube$Row" y_Row_move y_Row_move ∈ wd := wd_in (i := 720) (by decide +kernel) (by decide +kernel)
theorem x_721 : Jvm.Cond.code y_Row_move prog_4_method_6_code 5 (Option.none : Option Jvm.ClassFile.FieldType) ∈ wd := wd_in (i := 721) (by decide +kernel) (by decide +kernel)
theorem x_722 : Jvm.Cond.constant "ShockTube$Row" 35 (100000 : Int32) ∈ wd := wd_in (i := 722) (by decide +kernel) (by decide +kernel)
theorem x_723 : Jvm.Cond.methodLink "ShockTube$Row" 36 y_Math_min_0 ∈ wd := wd_in (i := 723) (by decide +kernel) (by decide +kernel)
theorem x_724 : Jvm.Cond.methodLink "ShockTube$Row" 42 y_Math_max_0 ∈ wd := wd_in (i := 724) (by decide +kernel) (by decide +kernel)
theorem x_725 : Jvm.Cond.methodLink "ShockTube$Row" 45 y_Row_turn ∈ wd := wd_in (i := 725) (by decide +kernel) (by decide +kernel)
theorem x_726 : Jvm.Cond.instanceMethod y_Row_turn ∈ wd := wd_in (i := 726) (by decide +kernel) (by decide +kernel)
theorem x_727 : Jvm.Cond.selects "ShockTube$Row" y_Row_turn y_Row_turn ∈ wd := wd_in (i := 727) (by decide +kernel) (by decide +kernel)
theorem x_728 : Jvm.Cond.code y_Row_turn prog_4_method_7_code 2 (Option.none : Option Jvm.ClassFile.FieldType) ∈ wd := wd_in (i := 728) (by decide +kernel) (by decide +kernel)
theorem x_729 : Jvm.Cond.methodLink "ShockTube" 180 y_Row_meetAll ∈ wd := wd_in (i := 729) (by decide +kernel) (by decide +kernel)
theorem x_730 : Jvm.Cond.instanceMethod y_Row_meetAll ∈ wd := wd_in (i := 730) (by decide +kernel) (by decide +kernel)
theorem x_731 : Jvm.Cond.selects "ShockTube$Row" y_Row_meetAll y_Row_meetAll ∈ wd := wd_in (i := 731) (by decide +kernel) (by decide +kernel)
theorem x_732 : Jvm.Cond.code y_Row_meetAll prog_4_method_8_code 3 (Option.none : Option Jvm.ClassFile.FieldType) ∈ wd := wd_in (i := 732) (by decide +kernel) (by decide +kernel)
theorem x_733 : Jvm.Cond.methodLink "ShockTube$Row" 49 y_Row_isMeeting ∈ wd := wd_in (i := 733) (by decide +kernel) (by decide +kernel)
theorem x_734 : Jvm.Cond.instanceMethod y_Row_isMeeting ∈ wd := wd_in (i := 734) (by decide +kernel) (by decide +kernel)
theorem x_735 : Jvm.Cond.selects "ShockTube$Row" y_Row_isMeeting y_Row_isMeeting ∈ wd := wd_in (i := 735) (by decide +kernel) (by decide +kernel)
theorem x_736 : Jvm.Cond.code y_Row_isMeeting prog_4_method_9_code 2 (Option.some Jvm.ClassFile.FieldType.boolean) ∈ wd := wd_in (i := 736) (by decide +kernel) (by decide +kernel)
theorem x_737 : Jvm.Cond.methodLink "ShockTube$Row" 53 y_Row_meet ∈ wd := wd_in (i := 737) (by decide +kernel) (by decide +kernel)
theorem x_738 : Jvm.Cond.instanceMethod y_Row_meet ∈ wd := wd_in (i := 738) (by decide +kernel) (by decide +kernel)
theorem x_739 : Jvm.Cond.selects "ShockTube$Row" y_Row_meet y_Row_meet ∈ wd := wd_in (i := 739) (by decide +kernel) (by decide +kernel)
theorem x_740 : Jvm.Cond.code y_Row_meet prog_4_method_10_code 4 (Option.some Jvm.ClassFile.FieldType.int) ∈ wd := wd_in (i := 740) (by decide +kernel) (by decide +kernel)
theorem x_741 : Jvm.Cond.methodLink "ShockTube$Row" 57 y_Row_setPlace ∈ wd := wd_in (i := 741) (by decide +kernel) (by decide +kernel)
theorem x_742 : Jvm.Cond.instanceMethod y_Row_setPlace ∈ wd := wd_in (i := 742) (by decide +kernel) (by decide +kernel)
theorem x_743 : Jvm.Cond.selects "ShockTube$Row" y_Row_setPlace y_Row_setPlace ∈ wd := wd_in (i := 743) (by decide +kernel) (by decide +kernel)
theorem x_744 : Jvm.Cond.code y_Row_setPlace prog_4_method_11_code 3 (Option.none : Option Jvm.ClassFile.FieldType) ∈ wd := wd_in (i := 744) (by decide +kernel) (by decide +kernel)
theorem x_745 : Jvm.Cond.methodLink "ShockTube$Row" 60 y_Row_meetShocks ∈ wd := wd_in (i := 745) (by decide +kernel) (by decide +kernel)
theorem x_746 : Jvm.Cond.instanceMethod y_Row_meetShocks ∈ wd := wd_in (i := 746) (by decide +kernel) (by decide +kernel)
theorem x_747 : Jvm.Cond.selects "ShockTube$Row" y_Row_meetShocks y_Row_meetShocks ∈ wd := wd_in (i := 747) (by decide +kernel) (by decide +kernel)
theorem x_748 : Jvm.Cond.code y_Row_meetShocks prog_4_method_12_code 5 (Option.some Jvm.ClassFile.FieldType.int) ∈ wd := wd_in (i := 748) (by decide +kernel) (by decide +kernel)
theorem x_749 : Jvm.Cond.methodLink "ShockTube$Row" 69 y_Row_merge ∈ wd := wd_in (i := 749) (by decide +kernel) (by decide +kernel)
theorem x_750 : Jvm.Cond.instanceMethod y_Row_merge ∈ wd := wd_in (i := 750) (by decide +kernel) (by decide +kernel)
theorem x_751 : Jvm.Cond.selects "ShockTube$Row" y_Row_merge y_Row_merge ∈ wd := wd_in (i := 751) (by decide +kernel) (by decide +kernel)
theorem x_752 : Jvm.Cond.code y_Row_merge prog_4_method_13_code 4 (Option.none : Option Jvm.ClassFile.FieldType) ∈ wd := wd_in (i := 752) (by decide +kernel) (by decide +kernel)
theorem x_753 : Jvm.Cond.methodLink "ShockTube$Row" 66 y_Row_takeOut ∈ wd := wd_in (i := 753) (by decide +kernel) (by decide +kernel)
theorem x_754 : Jvm.Cond.instanceMethod y_Row_takeOut ∈ wd := wd_in (i := 754) (by decide +kernel) (by decide +kernel)
theorem x_755 : Jvm.Cond.selects "ShockTube$Row" y_Row_takeOut y_Row_takeOut ∈ wd := wd_in (i := 755) (by decide +kernel) (by decide +kernel)
theorem x_756 : Jvm.Cond.code y_Row_takeOut prog_4_method_4_code 3 (Option.none : Option Jvm.ClassFile.FieldType) ∈ wd := wd_in (i := 756) (by decide +kernel) (by decide +kernel)
theorem x_757 : Jvm.Cond.methodLink "ShockTube$Row" 72 y_Row_changePlaces ∈ wd := wd_in (i := 757) (by decide +kernel) (by decide +kernel)
theorem x_758 : Jvm.Cond.instanceMethod y_Row_changePlaces ∈ wd := wd_in (i := 758) (by decide +kernel) (by decide +kernel)
theorem x_759 : Jvm.Cond.selects "ShockTube$Row" y_Row_changePlaces y_Row_changePlaces ∈ wd := wd_in (i := 759) (by decide +kernel) (by decide +kernel)
theorem x_760 : Jvm.Cond.code y_Row_changePlaces prog_4_method_16_code 6 (Option.none : Option Jvm.ClassFile.FieldType) ∈ wd := wd_in (i := 760) (by decide +kernel) (by decide +kernel)
theorem x_761 : Jvm.Cond.methodLink "ShockTube$Row" 75 y_Math_abs_0 ∈ wd := wd_in (i := 761) (by decide +kernel) (by decide +kernel)
theorem x_762 : Jvm.Cond.static y_Math_abs_0 ∈ wd := wd_in (i := 762) (by decide +kernel) (by decide +kernel)
theorem x_763 : Jvm.Cond.code y_Math_abs_0 prog_15_method_59_code 1 (Option.some Jvm.ClassFile.FieldType.int) ∈ wd := wd_in (i := 763) (by decide +kernel) (by decide +kernel)
theorem x_764 : Jvm.Cond.methodLink "ShockTube$Row" 78 y_Row_putIn ∈ wd := wd_in (i := 764) (by decide +kernel) (by decide +kernel)
theorem x_765 : Jvm.Cond.methodLink "ShockTube$Row" 63 y_Row_goThroughOther ∈ wd := wd_in (i := 765) (by decide +kernel) (by decide +kernel)
theorem x_766 : Jvm.Cond.instanceMethod y_Row_goThroughOther ∈ wd := wd_in (i := 766) (by decide +kernel) (by decide +kernel)
theorem x_767 : Jvm.Cond.selects "ShockTube$Row" y_Row_goThroughOther y_Row_goThroughOther ∈ wd := wd_in (i := 767) (by decide +kernel) (by decide +kernel)
theorem x_768 : Jvm.Cond.code y_Row_goThroughOther prog_4_method_14_code 4 (Option.some Jvm.ClassFile.FieldType.int) ∈ wd := wd_in (i := 768) (by decide +kernel) (by decide +kernel)
theorem x_769 : Jvm.Cond.methodLink "ShockTube$Row" 82 y_Row_held ∈ wd := wd_in (i := 769) (by decide +kernel) (by decide +kernel)
theorem x_770 : Jvm.Cond.static y_Row_held ∈ wd := wd_in (i := 770) (by decide +kernel) (by decide +kernel)
theorem x_771 : Jvm.Cond.code y_Row_held prog_4_method_15_code 1 (Option.some Jvm.ClassFile.FieldType.int) ∈ wd := wd_in (i := 771) (by decide +kernel) (by decide +kernel)
theorem x_772 : Jvm.Cond.methodLink "ShockTubeLaw" 148 y_L_ofFront ∈ wd := wd_in (i := 772) (by decide +kernel) (by decide +kernel)
theorem x_773 : Jvm.Cond.static y_L_ofFront ∈ wd := wd_in (i := 773) (by decide +kernel) (by decide +kernel)
theorem x_774 : Jvm.Cond.codeWith y_L_ofFront method_15_code 5 (Option.some Jvm.ClassFile.FieldType.int) [(0, 10, 13, 23), (0, 10, 17, 13)] ∈ wd := wd_in (i := 774) (by decide +kernel) (by decide +kernel)
theorem x_775 : Jvm.Cond.methodLink "ShockTubeLaw" 59 y_X_ofFront ∈ wd := wd_in (i := 775) (by decide +kernel) (by decide +kernel)
theorem x_776 : Jvm.Cond.instanceMethod y_X_ofFront ∈ wd := wd_in (i := 776) (by decide +kernel) (by decide +kernel)
theorem x_777 : Jvm.Cond.selects "ShockTube" y_X_ofFront y_X_ofFront ∈ wd := wd_in (i := 777) (by decide +kernel) (by decide +kernel)
theorem x_778 : Jvm.Cond.code y_X_ofFront prog_1_method_17_code 3 (Option.some Jvm.ClassFile.FieldType.int) ∈ wd := wd_in (i := 778) (by decide +kernel) (by decide +kernel)
theorem x_780 : Jvm.Cond.methodLink "ShockTube" 188 y_Row_tells ∈ wd := wd_in (i := 780) (by decide +kernel) (by decide +kernel)
theorem x_781 : Jvm.Cond.instanceMethod y_Row_tells ∈ wd := wd_in (i := 781) (by decide +kernel) (by decide +kernel)
theorem x_782 : Jvm.Cond.selects "ShockTube$Row" y_Row_tells y_Row_tells ∈ wd := wd_in (i := 782) (by decide +kernel) (by decide +kernel)
theorem x_783 : Jvm.Cond.code y_Row_tells prog_4_method_17_code 3 (Option.some Jvm.ClassFile.FieldType.int) ∈ wd := wd_in (i := 783) (by decide +kernel) (by decide +kernel)
theorem x_784 : Jvm.Cond.methodLink "ShockTubeLaw" 151 y_L_pipe ∈ wd := wd_in (i := 784) (by decide +kernel) (by decide +kernel)
theorem x_785 : Jvm.Cond.static y_L_pipe ∈ wd := wd_in (i := 785) (by decide +kernel) (by decide +kernel)
theorem x_786 : Jvm.Cond.codeWith y_L_pipe method_16_code 8 (Option.some Jvm.ClassFile.FieldType.int) [(0, 13, 16, 13)] ∈ wd := wd_in (i := 786) (by decide +kernel) (by decide +kernel)
theorem x_787 : Jvm.Cond.methodLink "ShockTubeLaw" 62 y_X_pipe ∈ wd := wd_in (i := 787) (by decide +kernel) (by decide +kernel)
theorem x_788 : Jvm.Cond.instanceMethod y_X_pipe ∈ wd := wd_in (i := 788) (by decide +kernel) (by decide +kernel)
theorem x_789 : Jvm.Cond.selects "ShockTube" y_X_pipe y_X_pipe ∈ wd := wd_in (i := 789) (by decide +kernel) (by decide +kernel)
theorem x_790 : Jvm.Cond.code y_X_pipe prog_1_method_18_code 7 (Option.none : Option Jvm.ClassFile.FieldType) ∈ wd := wd_in (i := 790) (by decide +kernel) (by decide +kernel)
theorem x_792 : Jvm.Cond.methodLink "ShockTube" 208 y_Pipe_begin ∈ wd := wd_in (i := 792) (by decide +kernel) (by decide +kernel)
theorem x_793 : Jvm.Cond.instanceMethod y_Pipe_begin ∈ wd := wd_in (i := 793) (by decide +kernel) (by decide +kernel)
theorem x_794 : Jvm.Cond.selects "ShockTube$Pipe" y_Pipe_begin y_Pipe_begin ∈ wd := wd_in (i := 794) (by decide +kernel) (by decide +kernel)
theorem x_795 : Jvm.Cond.code y_Pipe_begin prog_3_method_2_code 5 (Option.none : Option Jvm.ClassFile.FieldType) ∈ wd := wd_in (i := 795) (by decide +kernel) (by decide +kernel)
theorem x_796 : Jvm.Cond.methodLink "ShockTubeLaw" 155 y_L_valve ∈ wd := wd_in (i := 796) (by decide +kernel) (by decide +kernel)
theorem x_797 : Jvm.Cond.static y_L_valve ∈ wd := wd_in (i := 797) (by decide +kernel) (by decide +kernel)
theorem x_798 : Jvm.Cond.codeWith y_L_valve method_17_code 4 (Option.some Jvm.ClassFile.FieldType.int) [(0, 9, 12, 13), (0, 9, 15, 25)] ∈ wd := wd_in (i := 798) (by decide +kernel) (by decide +kernel)
theorem x_799 : Jvm.Cond.methodLink "ShockTubeLaw" 66 y_X_valve ∈ wd := wd_in (i := 799) (by decide +kernel) (by decide +kernel)
theorem x_800 : Jvm.Cond.instanceMethod y_X_valve ∈ wd := wd_in (i := 800) (by decide +kernel) (by decide +kernel)
theorem x_801 : Jvm.Cond.selects "ShockTube" y_X_valve y_X_valve ∈ wd := wd_in (i := 801) (by decide +kernel) (by decide +kernel)
theorem x_802 : Jvm.Cond.code y_X_valve prog_1_method_19_code 3 (Option.some Jvm.ClassFile.FieldType.int) ∈ wd := wd_in (i := 802) (by decide +kernel) (by decide +kernel)
theorem x_804 : Jvm.Cond.methodLink "ShockTube" 211 y_X_refuseNoPipe ∈ wd := wd_in (i := 804) (by decide +kernel) (by decide +kernel)
theorem x_806 : Jvm.Cond.instanceMethod y_X_refuseNoPipe ∈ wd := wd_in (i := 806) (by decide +kernel) (by decide +kernel)
theorem x_807 : Jvm.Cond.code y_X_refuseNoPipe prog_1_method_28_code 1 (Option.none : Option Jvm.ClassFile.FieldType) ∈ wd := wd_in (i := 807) (by decide +kernel) (by decide +kernel)
theorem x_809 : Jvm.Cond.methodLink "ShockTubeLaw" 158 y_L_reservoir ∈ wd := wd_in (i := 809) (by decide +kernel) (by decide +kernel)
theorem x_810 : Jvm.Cond.static y_L_reservoir ∈ wd := wd_in (i := 810) (by decide +kernel) (by decide +kernel)
theorem x_811 : Jvm.Cond.codeWith y_L_reservoir method_18_code 4 (Option.some Jvm.ClassFile.FieldType.int) [(0, 9, 12, 13), (0, 9, 15, 25)] ∈ wd := wd_in (i := 811) (by decide +kernel) (by decide +kernel)
theorem x_812 : Jvm.Cond.methodLink "ShockTubeLaw" 69 y_X_reservoir ∈ wd := wd_in (i := 812) (by decide +kernel) (by decide +kernel)
theorem x_813 : Jvm.Cond.instanceMethod y_X_reservoir ∈ wd := wd_in (i := 813) (by decide +kernel) (by decide +kernel)
theorem x_814 : Jvm.Cond.selects "ShockTube" y_X_reservoir y_X_reservoir ∈ wd := wd_in (i := 814) (by decide +kernel) (by decide +kernel)
theorem x_815 : Jvm.Cond.code y_X_reservoir prog_1_method_20_code 3 (Option.some Jvm.ClassFile.FieldType.int) ∈ wd := wd_in (i := 815) (by decide +kernel) (by decide +kernel)
theorem x_817 : Jvm.Cond.methodLink "ShockTubeLaw" 161 y_L_flow ∈ wd := wd_in (i := 817) (by decide +kernel) (by decide +kernel)
theorem x_818 : Jvm.Cond.static y_L_flow ∈ wd := wd_in (i := 818) (by decide +kernel) (by decide +kernel)
theorem x_819 : Jvm.Cond.codeWith y_L_flow method_19_code 4 (Option.some Jvm.ClassFile.FieldType.int) [(0, 9, 12, 13), (0, 9, 15, 25)] ∈ wd := wd_in (i := 819) (by decide +kernel) (by decide +kernel)
theorem x_820 : Jvm.Cond.methodLink "ShockTubeLaw" 72 y_X_flow ∈ wd := wd_in (i := 820) (by decide +kernel) (by decide +kernel)
theorem x_821 : Jvm.Cond.instanceMethod y_X_flow ∈ wd := wd_in (i := 821) (by decide +kernel) (by decide +kernel)
theorem x_822 : Jvm.Cond.selects "ShockTube" y_X_flow y_X_flow ∈ wd := wd_in (i := 822) (by decide +kernel) (by decide +kernel)
theorem x_823 : Jvm.Cond.code y_X_flow prog_1_method_21_code 3 (Option.some Jvm.ClassFile.FieldType.int) ∈ wd := wd_in (i := 823) (by decide +kernel) (by decide +kernel)
theorem x_824 : Jvm.Cond.methodLink "ShockTube" 222 y_Pipe_isTicked ∈ wd := wd_in (i := 824) (by decide +kernel) (by decide +kernel)
theorem x_825 : Jvm.Cond.instanceMethod y_Pipe_isTicked ∈ wd := wd_in (i := 825) (by decide +kernel) (by decide +kernel)
theorem x_826 : Jvm.Cond.selects "ShockTube$Pipe" y_Pipe_isTicked y_Pipe_isTicked ∈ wd := wd_in (i := 826) (by decide +kernel) (by decide +kernel)
theorem x_827 : Jvm.Cond.code y_Pipe_isTicked prog_3_method_3_code 2 (Option.some Jvm.ClassFile.FieldType.boolean) ∈ wd := wd_in (i := 827) (by decide +kernel) (by decide +kernel)
theorem x_828 : Jvm.Cond.methodLink "ShockTube$Pipe" 49 y_Pipe_findReservoir ∈ wd := wd_in (i := 828) (by decide +kernel) (by decide +kernel)
theorem x_829 : Jvm.Cond.instanceMethod y_Pipe_findReservoir ∈ wd := wd_in (i := 829) (by decide +kernel) (by decide +kernel)
theorem x_830 : Jvm.Cond.selects "ShockTube$Pipe" y_Pipe_findReservoir y_Pipe_findReservoir ∈ wd := wd_in (i := 830) (by decide +kernel) (by decide +kernel)
theorem x_831 : Jvm.Cond.code y_Pipe_findReservoir prog_3_method_7_code 1 (Option.none : Option Jvm.ClassFile.FieldType) ∈ wd := wd_in (i := 831) (by decide +kernel) (by decide +kernel)
theorem x_832 : Jvm.Cond.methodLink "ShockTube$Pipe" 81 y_Pipe_fromRight ∈ wd := wd_in (i := 832) (by decide +kernel) (by decide +kernel)
theorem x_833 : Jvm.Cond.instanceMethod y_Pipe_fromRight ∈ wd := wd_in (i := 833) (by decide +kernel) (by decide +kernel)
theorem x_834 : Jvm.Cond.selects "ShockTube$Pipe" y_Pipe_fromRight y_Pipe_fromRight ∈ wd := wd_in (i := 834) (by decide +kernel) (by decide +kernel)
theorem x_835 : Jvm.Cond.code y_Pipe_fromRight prog_3_method_5_code 3 (Option.some Jvm.ClassFile.FieldType.long) ∈ wd := wd_in (i := 835) (by decide +kernel) (by decide +kernel)
theorem x_836 : Jvm.Cond.methodLink "ShockTube$Pipe" 66 y_Pipe_rubbed ∈ wd := wd_in (i := 836) (by decide +kernel) (by decide +kernel)
theorem x_837 : Jvm.Cond.instanceMethod y_Pipe_rubbed ∈ wd := wd_in (i := 837) (by decide +kernel) (by decide +kernel)
theorem x_838 : Jvm.Cond.selects "ShockTube$Pipe" y_Pipe_rubbed y_Pipe_rubbed ∈ wd := wd_in (i := 838) (by decide +kernel) (by decide +kernel)
theorem x_839 : Jvm.Cond.code y_Pipe_rubbed prog_3_method_6_code 2 (Option.some Jvm.ClassFile.FieldType.long) ∈ wd := wd_in (i := 839) (by decide +kernel) (by decide +kernel)
theorem x_840 : Jvm.Cond.methodLink "ShockTube$Pipe" 73 y_Math_abs_1 ∈ wd := wd_in (i := 840) (by decide +kernel) (by decide +kernel)
theorem x_841 : Jvm.Cond.constantLong "ShockTube$Pipe" 79 (100 : Int64) ∈ wd := wd_in (i := 841) (by decide +kernel) (by decide +kernel)
theorem x_842 : Jvm.Cond.methodLink "ShockTube$Pipe" 52 y_Pipe_findBetween ∈ wd := wd_in (i := 842) (by decide +kernel) (by decide +kernel)
theorem x_843 : Jvm.Cond.instanceMethod y_Pipe_findBetween ∈ wd := wd_in (i := 843) (by decide +kernel) (by decide +kernel)
theorem x_844 : Jvm.Cond.selects "ShockTube$Pipe" y_Pipe_findBetween y_Pipe_findBetween ∈ wd := wd_in (i := 844) (by decide +kernel) (by decide +kernel)
theorem x_845 : Jvm.Cond.code y_Pipe_findBetween prog_3_method_8_code 6 (Option.none : Option Jvm.ClassFile.FieldType) ∈ wd := wd_in (i := 845) (by decide +kernel) (by decide +kernel)
theorem x_846 : Jvm.Cond.methodLink "ShockTube$Pipe" 84 y_Pipe_fromLeft ∈ wd := wd_in (i := 846) (by decide +kernel) (by decide +kernel)
theorem x_847 : Jvm.Cond.instanceMethod y_Pipe_fromLeft ∈ wd := wd_in (i := 847) (by decide +kernel) (by decide +kernel)
theorem x_848 : Jvm.Cond.selects "ShockTube$Pipe" y_Pipe_fromLeft y_Pipe_fromLeft ∈ wd := wd_in (i := 848) (by decide +kernel) (by decide +kernel)
theorem x_849 : Jvm.Cond.code y_Pipe_fromLeft prog_3_method_4_code 3 (Option.some Jvm.ClassFile.FieldType.long) ∈ wd := wd_in (i := 849) (by decide +kernel) (by decide +kernel)
theorem x_850 : Jvm.Cond.constantLong "ShockTube$Pipe" 87 (2 : Int64) ∈ wd := wd_in (i := 850) (by decide +kernel) (by decide +kernel)
theorem x_851 : Jvm.Cond.methodLink "ShockTube$Pipe" 89 y_Math_floorDiv ∈ wd := wd_in (i := 851) (by decide +kernel) (by decide +kernel)
theorem x_852 : Jvm.Cond.constantLong "ShockTube$Pipe" 93 (-100 : Int64) ∈ wd := wd_in (i := 852) (by decide +kernel) (by decide +kernel)
theorem x_853 : Jvm.Cond.methodLink "ShockTube$Pipe" 95 y_Pipe_findCavity ∈ wd := wd_in (i := 853) (by decide +kernel) (by decide +kernel)
theorem x_854 : Jvm.Cond.instanceMethod y_Pipe_findCavity ∈ wd := wd_in (i := 854) (by decide +kernel) (by decide +kernel)
theorem x_855 : Jvm.Cond.selects "ShockTube$Pipe" y_Pipe_findCavity y_Pipe_findCavity ∈ wd := wd_in (i := 855) (by decide +kernel) (by decide +kernel)
theorem x_856 : Jvm.Cond.code y_Pipe_findCavity prog_3_method_10_code 10 (Option.none : Option Jvm.ClassFile.FieldType) ∈ wd := wd_in (i := 856) (by decide +kernel) (by decide +kernel)
theorem x_857 : Jvm.Cond.methodLink "ShockTube$Pipe" 56 y_Pipe_findValve ∈ wd := wd_in (i := 857) (by decide +kernel) (by decide +kernel)
theorem x_858 : Jvm.Cond.instanceMethod y_Pipe_findValve ∈ wd := wd_in (i := 858) (by decide +kernel) (by decide +kernel)
theorem x_859 : Jvm.Cond.selects "ShockTube$Pipe" y_Pipe_findValve y_Pipe_findValve ∈ wd := wd_in (i := 859) (by decide +kernel) (by decide +kernel)
theorem x_860 : Jvm.Cond.code y_Pipe_findValve prog_3_method_9_code 4 (Option.none : Option Jvm.ClassFile.FieldType) ∈ wd := wd_in (i := 860) (by decide +kernel) (by decide +kernel)
theorem x_861 : Jvm.Cond.methodLink "ShockTube$Pipe" 59 y_Pipe_isAllowed ∈ wd := wd_in (i := 861) (by decide +kernel) (by decide +kernel)
theorem x_862 : Jvm.Cond.instanceMethod y_Pipe_isAllowed ∈ wd := wd_in (i := 862) (by decide +kernel) (by decide +kernel)
theorem x_863 : Jvm.Cond.selects "ShockTube$Pipe" y_Pipe_isAllowed y_Pipe_isAllowed ∈ wd := wd_in (i := 863) (by decide +kernel) (by decide +kernel)
theorem x_864 : Jvm.Cond.code y_Pipe_isAllowed prog_3_method_11_code 2 (Option.some Jvm.ClassFile.FieldType.boolean) ∈ wd := wd_in (i := 864) (by decide +kernel) (by decide +kernel)
theorem x_865 : Jvm.Cond.constantLong "ShockTube$Pipe" 99 (1000000 : Int64) ∈ wd := wd_in (i := 865) (by decide +kernel) (by decide +kernel)
theorem x_866 : Jvm.Cond.constantLong "ShockTube$Pipe" 101 (100000 : Int64) ∈ wd := wd_in (i := 866) (by decide +kernel) (by decide +kernel)
theorem x_867 : Jvm.Cond.methodLink "ShockTube$Pipe" 63 y_Pipe_take ∈ wd := wd_in (i := 867) (by decide +kernel) (by decide +kernel)
theorem x_868 : Jvm.Cond.instanceMethod y_Pipe_take ∈ wd := wd_in (i := 868) (by decide +kernel) (by decide +kernel)
theorem x_869 : Jvm.Cond.selects "ShockTube$Pipe" y_Pipe_take y_Pipe_take ∈ wd := wd_in (i := 869) (by decide +kernel) (by decide +kernel)
theorem x_870 : Jvm.Cond.code y_Pipe_take prog_3_method_12_code 2 (Option.none : Option Jvm.ClassFile.FieldType) ∈ wd := wd_in (i := 870) (by decide +kernel) (by decide +kernel)
theorem x_872 : Jvm.Cond.methodLink "ShockTube$Pipe" 107 y_Math_max_1 ∈ wd := wd_in (i := 872) (by decide +kernel) (by decide +kernel)
theorem x_873 : Jvm.Cond.methodLink "ShockTubeLaw" 164 y_L_node ∈ wd := wd_in (i := 873) (by decide +kernel) (by decide +kernel)
theorem x_874 : Jvm.Cond.static y_L_node ∈ wd := wd_in (i := 874) (by decide +kernel) (by decide +kernel)
theorem x_875 : Jvm.Cond.codeWith y_L_node method_20_code 5 (Option.some Jvm.ClassFile.FieldType.int) [(0, 10, 13, 23), (0, 10, 17, 13)] ∈ wd := wd_in (i := 875) (by decide +kernel) (by decide +kernel)
theorem x_876 : Jvm.Cond.methodLink "ShockTubeLaw" 75 y_X_node ∈ wd := wd_in (i := 876) (by decide +kernel) (by decide +kernel)
theorem x_877 : Jvm.Cond.instanceMethod y_X_node ∈ wd := wd_in (i := 877) (by decide +kernel) (by decide +kernel)
theorem x_878 : Jvm.Cond.selects "ShockTube" y_X_node y_X_node ∈ wd := wd_in (i := 878) (by decide +kernel) (by decide +kernel)
theorem x_879 : Jvm.Cond.code y_X_node prog_1_method_22_code 3 (Option.some Jvm.ClassFile.FieldType.int) ∈ wd := wd_in (i := 879) (by decide +kernel) (by decide +kernel)
theorem x_881 : Jvm.Cond.methodLink "ShockTube" 231 y_Pipe_tells ∈ wd := wd_in (i := 881) (by decide +kernel) (by decide +kernel)
theorem x_882 : Jvm.Cond.instanceMethod y_Pipe_tells ∈ wd := wd_in (i := 882) (by decide +kernel) (by decide +kernel)
theorem x_883 : Jvm.Cond.selects "ShockTube$Pipe" y_Pipe_tells y_Pipe_tells ∈ wd := wd_in (i := 883) (by decide +kernel) (by decide +kernel)
theorem x_884 : Jvm.Cond.code y_Pipe_tells prog_3_method_13_code 3 (Option.some Jvm.ClassFile.FieldType.long) ∈ wd := wd_in (i := 884) (by decide +kernel) (by decide +kernel)
theorem x_885 : Jvm.Cond.methodLink "ShockTubeLaw" 167 y_L_keep ∈ wd := wd_in (i := 885) (by decide +kernel) (by decide +kernel)
theorem x_886 : Jvm.Cond.static y_L_keep ∈ wd := wd_in (i := 886) (by decide +kernel) (by decide +kernel)
theorem x_887 : Jvm.Cond.codeWith y_L_keep method_21_code 3 (Option.some Jvm.ClassFile.FieldType.int) [(0, 5, 8, 13)] ∈ wd := wd_in (i := 887) (by decide +kernel) (by decide +kernel)
theorem x_888 : Jvm.Cond.methodLink "ShockTubeLaw" 78 y_X_keep ∈ wd := wd_in (i := 888) (by decide +kernel) (by decide +kernel)
theorem x_889 : Jvm.Cond.instanceMethod y_X_keep ∈ wd := wd_in (i := 889) (by decide +kernel) (by decide +kernel)
theorem x_890 : Jvm.Cond.selects "ShockTube" y_X_keep y_X_keep ∈ wd := wd_in (i := 890) (by decide +kernel) (by decide +kernel)
theorem x_891 : Jvm.Cond.code y_X_keep prog_1_method_23_code 3 (Option.none : Option Jvm.ClassFile.FieldType) ∈ wd := wd_in (i := 891) (by decide +kernel) (by decide +kernel)
theorem x_892 : Jvm.Cond.methodLink "ShockTube" 232 y_X_refuseSlot ∈ wd := wd_in (i := 892) (by decide +kernel) (by decide +kernel)
theorem x_893 : Jvm.Cond.static y_X_refuseSlot ∈ wd := wd_in (i := 893) (by decide +kernel) (by decide +kernel)
theorem x_894 : Jvm.Cond.code y_X_refuseSlot prog_1_method_29_code 1 (Option.none : Option Jvm.ClassFile.FieldType) ∈ wd := wd_in (i := 894) (by decide +kernel) (by decide +kernel)
theorem x_896 : Jvm.Cond.methodLink "ShockTube" 235 y_State_copyFrom ∈ wd := wd_in (i := 896) (by decide +kernel) (by decide +kernel)
theorem x_897 : Jvm.Cond.instanceMethod y_State_copyFrom ∈ wd := wd_in (i := 897) (by decide +kernel) (by decide +kernel)
theorem x_898 : Jvm.Cond.selects "ShockTube$State" y_State_copyFrom y_State_copyFrom ∈ wd := wd_in (i := 898) (by decide +kernel) (by decide +kernel)
theorem x_899 : Jvm.Cond.code y_State_copyFrom prog_5_method_2_code 2 (Option.none : Option Jvm.ClassFile.FieldType) ∈ wd := wd_in (i := 899) (by decide +kernel) (by decide +kernel)
theorem x_900 : Jvm.Cond.methodLink "ShockTube$State" 37 y_Tube_copyFrom ∈ wd := wd_in (i := 900) (by decide +kernel) (by decide +kernel)
theorem x_901 : Jvm.Cond.methodLink "ShockTube$State" 41 y_Story_copyFrom ∈ wd := wd_in (i := 901) (by decide +kernel) (by decide +kernel)
theorem x_902 : Jvm.Cond.instanceMethod y_Story_copyFrom ∈ wd := wd_in (i := 902) (by decide +kernel) (by decide +kernel)
theorem x_903 : Jvm.Cond.selects "ShockTube$Story" y_Story_copyFrom y_Story_copyFrom ∈ wd := wd_in (i := 903) (by decide +kernel) (by decide +kernel)
theorem x_904 : Jvm.Cond.code y_Story_copyFrom prog_7_method_6_code 2 (Option.none : Option Jvm.ClassFile.FieldType) ∈ wd := wd_in (i := 904) (by decide +kernel) (by decide +kernel)
theorem x_905 : Jvm.Cond.methodLink "ShockTube$Story" 60 y_System_arraycopy ∈ wd := wd_in (i := 905) (by decide +kernel) (by decide +kernel)
theorem x_906 : Jvm.Cond.methodLink "ShockTube$State" 44 y_Row_copyFrom ∈ wd := wd_in (i := 906) (by decide +kernel) (by decide +kernel)
theorem x_907 : Jvm.Cond.instanceMethod y_Row_copyFrom ∈ wd := wd_in (i := 907) (by decide +kernel) (by decide +kernel)
theorem x_908 : Jvm.Cond.selects "ShockTube$Row" y_Row_copyFrom y_Row_copyFrom ∈ wd := wd_in (i := 908) (by decide +kernel) (by decide +kernel)
theorem x_909 : Jvm.Cond.code y_Row_copyFrom prog_4_method_18_code 2 (Option.none : Option Jvm.ClassFile.FieldType) ∈ wd := wd_in (i := 909) (by decide +kernel) (by decide +kernel)
theorem x_911 : Jvm.Cond.methodLink "ShockTube$State" 47 y_Pipe_copyFrom ∈ wd := wd_in (i := 911) (by decide +kernel) (by decide +kernel)
theorem x_912 : Jvm.Cond.instanceMethod y_Pipe_copyFrom ∈ wd := wd_in (i := 912) (by decide +kernel) (by decide +kernel)
theorem x_913 : Jvm.Cond.selects "ShockTube$Pipe" y_Pipe_copyFrom y_Pipe_copyFrom ∈ wd := wd_in (i := 913) (by decide +kernel) (by decide +kernel)
theorem x_914 : Jvm.Cond.code y_Pipe_copyFrom prog_3_method_14_code 2 (Option.none : Option Jvm.ClassFile.FieldType) ∈ wd := wd_in (i := 914) (by decide +kernel) (by decide +kernel)
theorem x_915 : Jvm.Cond.methodLink "ShockTubeLaw" 170 y_L_goBack ∈ wd := wd_in (i := 915) (by decide +kernel) (by decide +kernel)
theorem x_916 : Jvm.Cond.static y_L_goBack ∈ wd := wd_in (i := 916) (by decide +kernel) (by decide +kernel)
theorem x_917 : Jvm.Cond.codeWith y_L_goBack method_22_code 3 (Option.some Jvm.ClassFile.FieldType.int) [(0, 5, 8, 13), (0, 5, 11, 25)] ∈ wd := wd_in (i := 917) (by decide +kernel) (by decide +kernel)
theorem x_918 : Jvm.Cond.methodLink "ShockTubeLaw" 81 y_X_goBack ∈ wd := wd_in (i := 918) (by decide +kernel) (by decide +kernel)
theorem x_919 : Jvm.Cond.instanceMethod y_X_goBack ∈ wd := wd_in (i := 919) (by decide +kernel) (by decide +kernel)
theorem x_920 : Jvm.Cond.selects "ShockTube" y_X_goBack y_X_goBack ∈ wd := wd_in (i := 920) (by decide +kernel) (by decide +kernel)
theorem x_921 : Jvm.Cond.code y_X_goBack prog_1_method_24_code 3 (Option.none : Option Jvm.ClassFile.FieldType) ∈ wd := wd_in (i := 921) (by decide +kernel) (by decide +kernel)
theorem x_923 : Jvm.Cond.classLink "ShockTubeLaw" 85 "ShockTubeModel" ∈ wd := wd_in (i := 923) (by decide +kernel) (by decide +kernel)
theorem x_924 : Jvm.Cond.instantiable "ShockTubeModel" 10 ∈ wd := wd_in (i := 924) (by decide +kernel) (by decide +kernel)
theorem x_925 : Jvm.Cond.methodLink "ShockTubeLaw" 87 y_M_init ∈ wd := wd_in (i := 925) (by decide +kernel) (by decide +kernel)
theorem x_926 : Jvm.Cond.instanceMethod y_M_init ∈ wd := wd_in (i := 926) (by decide +kernel) (by decide +kernel)
theorem x_927 : Jvm.Cond.code y_M_init prog_10_method_1_code 1 (Option.none : Option Jvm.ClassFile.FieldType) ∈ wd := wd_in (i := 927) (by decide +kernel) (by decide +kernel)
theorem x_928 : Jvm.Cond.methodLink "ShockTubeModel" 1 ⟨"java/lang/Object", "<init>", "()V"⟩ ∈ wd := wd_in (i := 928) (by decide +kernel) (by decide +kernel)
theorem x_929 : Jvm.Cond.constantLong "ShockTubeModel" 32 (100000 : Int64) ∈ wd := wd_in (i := 929) (by decide +kernel) (by decide +kernel)
theorem x_930 : Jvm.Cond.methodLink "ShockTubeModel" 34 y_M_shapes ∈ wd := wd_in (i := 930) (by decide +kernel) (by decide +kernel)
theorem x_932 : Jvm.Cond.instanceMethod y_M_shapes ∈ wd := wd_in (i := 932) (by decide +kernel) (by decide +kernel)
theorem x_933 : Jvm.Cond.code y_M_shapes prog_10_method_7_code 5 (Option.none : Option Jvm.ClassFile.FieldType) ∈ wd := wd_in (i := 933) (by decide +kernel) (by decide +kernel)
theorem x_934 : Jvm.Cond.constantLong "ShockTubeModel" 46 (1000 : Int64) ∈ wd := wd_in (i := 934) (by decide +kernel) (by decide +kernel)
theorem x_935 : Jvm.Cond.constantLong "ShockTubeModel" 48 (2000 : Int64) ∈ wd := wd_in (i := 935) (by decide +kernel) (by decide +kernel)
theorem x_936 : Jvm.Cond.fieldLink "ShockTubeModel" 38 "ShockTubeModel" "thrown" "I" ∈ wd := wd_in (i := 936) (by decide +kernel) (by decide +kernel)
theorem x_937 : Jvm.Cond.fieldLink "ShockTubeModel" 7 "ShockTubeModel" "s" "[J" ∈ wd := wd_in (i := 937) (by decide +kernel) (by decide +kernel)
theorem x_938 : Jvm.Cond.fieldLink "ShockTubeModel" 13 "ShockTubeModel" "kept" "[J" ∈ wd := wd_in (i := 938) (by decide +kernel) (by decide +kernel)
theorem x_939 : Jvm.Cond.fieldLink "ShockTubeModel" 16 "ShockTubeModel" "isKeptIn" "[Z" ∈ wd := wd_in (i := 939) (by decide +kernel) (by decide +kernel)
theorem x_940 : Jvm.Cond.fieldLink "ShockTubeModel" 20 "ShockTubeModel" "goes" "[J" ∈ wd := wd_in (i := 940) (by decide +kernel) (by decide +kernel)
theorem x_941 : Jvm.Cond.fieldLink "ShockTubeModel" 23 "ShockTubeModel" "fresh" "[J" ∈ wd := wd_in (i := 941) (by decide +kernel) (by decide +kernel)
theorem x_942 : Jvm.Cond.fieldLink "ShockTubeModel" 139 "ShockTubeModel" "burnt" "J" ∈ wd := wd_in (i := 942) (by decide +kernel) (by decide +kernel)
theorem x_943 : Jvm.Cond.fieldLink "ShockTubeModel" 143 "ShockTubeModel" "heated" "J" ∈ wd := wd_in (i := 943) (by decide +kernel) (by decide +kernel)
theorem x_944 : Jvm.Cond.fieldLink "ShockTubeModel" 26 "ShockTubeModel" "before" "[J" ∈ wd := wd_in (i := 944) (by decide +kernel) (by decide +kernel)
theorem x_945 : Jvm.Cond.fieldLink "ShockTubeModel" 29 "ShockTubeModel" "nodes" "[J" ∈ wd := wd_in (i := 945) (by decide +kernel) (by decide +kernel)
theorem x_966 : Jvm.Cond.superclass "ShockTubeModel" "java/lang/Object" ∈ wd := wd_in (i := 966) (by decide +kernel) (by decide +kernel)
theorem x_967 : Jvm.Cond.arrayClass Jvm.ClassFile.FieldType.boolean ∈ wd := wd_in (i := 967) (by decide +kernel) (by decide +kernel)
theorem x_968 : Jvm.Cond.methodLink "ShockTubeLaw" 94 y_M_thrown ∈ wd := wd_in (i := 968) (by decide +kernel) (by decide +kernel)
theorem x_969 : Jvm.Cond.instanceMethod y_M_thrown ∈ wd := wd_in (i := 969) (by decide +kernel) (by decide +kernel)
theorem x_970 : Jvm.Cond.selects "ShockTubeModel" y_M_thrown y_M_thrown ∈ wd := wd_in (i := 970) (by decide +kernel) (by decide +kernel)
theorem x_971 : Jvm.Cond.code y_M_thrown prog_10_method_2_code 1 (Option.some Jvm.ClassFile.FieldType.int) ∈ wd := wd_in (i := 971) (by decide +kernel) (by decide +kernel)
theorem x_972 : Jvm.Cond.methodLink "ShockTubeLaw" 93 y_M_shape ∈ wd := wd_in (i := 972) (by decide +kernel) (by decide +kernel)
theorem x_973 : Jvm.Cond.instanceMethod y_M_shape ∈ wd := wd_in (i := 973) (by decide +kernel) (by decide +kernel)
theorem x_974 : Jvm.Cond.selects "ShockTubeModel" y_M_shape y_M_shape ∈ wd := wd_in (i := 974) (by decide +kernel) (by decide +kernel)
theorem x_975 : Jvm.Cond.code y_M_shape prog_10_method_8_code 4 (Option.none : Option Jvm.ClassFile.FieldType) ∈ wd := wd_in (i := 975) (by decide +kernel) (by decide +kernel)
theorem x_976 : Jvm.Cond.constantLong "ShockTubeModel" 44 (2 : Int64) ∈ wd := wd_in (i := 976) (by decide +kernel) (by decide +kernel)
theorem x_977 : Jvm.Cond.constantLong "ShockTubeModel" 50 (32 : Int64) ∈ wd := wd_in (i := 977) (by decide +kernel) (by decide +kernel)
theorem x_978 : Jvm.Cond.methodLink "ShockTubeModel" 52 y_M_in ∈ wd := wd_in (i := 978) (by decide +kernel) (by decide +kernel)
theorem x_979 : Jvm.Cond.static y_M_in ∈ wd := wd_in (i := 979) (by decide +kernel) (by decide +kernel)
theorem x_980 : Jvm.Cond.code y_M_in prog_10_method_3_code 6 (Option.some Jvm.ClassFile.FieldType.boolean) ∈ wd := wd_in (i := 980) (by decide +kernel) (by decide +kernel)
theorem x_981 : Jvm.Cond.methodLink "ShockTubeLaw" 101 y_M_gas ∈ wd := wd_in (i := 981) (by decide +kernel) (by decide +kernel)
theorem x_982 : Jvm.Cond.instanceMethod y_M_gas ∈ wd := wd_in (i := 982) (by decide +kernel) (by decide +kernel)
theorem x_983 : Jvm.Cond.selects "ShockTubeModel" y_M_gas y_M_gas ∈ wd := wd_in (i := 983) (by decide +kernel) (by decide +kernel)
theorem x_984 : Jvm.Cond.code y_M_gas prog_10_method_9_code 2 (Option.none : Option Jvm.ClassFile.FieldType) ∈ wd := wd_in (i := 984) (by decide +kernel) (by decide +kernel)
theorem x_985 : Jvm.Cond.methodLink "ShockTubeLaw" 105 y_M_cell ∈ wd := wd_in (i := 985) (by decide +kernel) (by decide +kernel)
theorem x_986 : Jvm.Cond.instanceMethod y_M_cell ∈ wd := wd_in (i := 986) (by decide +kernel) (by decide +kernel)
theorem x_987 : Jvm.Cond.selects "ShockTubeModel" y_M_cell y_M_cell ∈ wd := wd_in (i := 987) (by decide +kernel) (by decide +kernel)
theorem x_988 : Jvm.Cond.code y_M_cell prog_10_method_13_code 7 (Option.none : Option Jvm.ClassFile.FieldType) ∈ wd := wd_in (i := 988) (by decide +kernel) (by decide +kernel)
theorem x_989 : Jvm.Cond.methodLink "ShockTubeModel" 68 y_M_isCell ∈ wd := wd_in (i := 989) (by decide +kernel) (by decide +kernel)
theorem x_991 : Jvm.Cond.instanceMethod y_M_isCell ∈ wd := wd_in (i := 991) (by decide +kernel) (by decide +kernel)
theorem x_992 : Jvm.Cond.code y_M_isCell prog_10_method_12_code 2 (Option.some Jvm.ClassFile.FieldType.boolean) ∈ wd := wd_in (i := 992) (by decide +kernel) (by decide +kernel)
theorem x_993 : Jvm.Cond.constantLong "ShockTubeModel" 72 (1000000 : Int64) ∈ wd := wd_in (i := 993) (by decide +kernel) (by decide +kernel)
theorem x_994 : Jvm.Cond.constantLong "ShockTubeModel" 74 (-10000000 : Int64) ∈ wd := wd_in (i := 994) (by decide +kernel) (by decide +kernel)
theorem x_995 : Jvm.Cond.constantLong "ShockTubeModel" 76 (10000000 : Int64) ∈ wd := wd_in (i := 995) (by decide +kernel) (by decide +kernel)
theorem x_996 : Jvm.Cond.constantLong "ShockTubeModel" 78 (1000000000 : Int64) ∈ wd := wd_in (i := 996) (by decide +kernel) (by decide +kernel)
theorem x_997 : Jvm.Cond.methodLink "ShockTubeModel" 60 y_M_within ∈ wd := wd_in (i := 997) (by decide +kernel) (by decide +kernel)
theorem x_998 : Jvm.Cond.static y_M_within ∈ wd := wd_in (i := 998) (by decide +kernel) (by decide +kernel)
theorem x_999 : Jvm.Cond.code y_M_within prog_10_method_10_code 6 (Option.some Jvm.ClassFile.FieldType.long) ∈ wd := wd_in (i := 999) (by decide +kernel) (by decide +kernel)
theorem x_1000 : Jvm.Cond.methodLink "ShockTubeModel" 56 y_M_down ∈ wd := wd_in (i := 1000) (by decide +kernel) (by decide +kernel)
theorem x_1001 : Jvm.Cond.static y_M_down ∈ wd := wd_in (i := 1001) (by decide +kernel) (by decide +kernel)
theorem x_1002 : Jvm.Cond.code y_M_down prog_10_method_4_code 6 (Option.some Jvm.ClassFile.FieldType.long) ∈ wd := wd_in (i := 1002) (by decide +kernel) (by decide +kernel)
theorem x_1003 : Jvm.Cond.methodLink "ShockTubeModel" 80 y_M_tells ∈ wd := wd_in (i := 1003) (by decide +kernel) (by decide +kernel)
theorem x_1005 : Jvm.Cond.instanceMethod y_M_tells ∈ wd := wd_in (i := 1005) (by decide +kernel) (by decide +kernel)
theorem x_1006 : Jvm.Cond.code y_M_tells prog_10_method_14_code 5 (Option.none : Option Jvm.ClassFile.FieldType) ∈ wd := wd_in (i := 1006) (by decide +kernel) (by decide +kernel)
theorem x_1007 : Jvm.Cond.methodLink "ShockTubeLaw" 108 y_M_ignition ∈ wd := wd_in (i := 1007) (by decide +kernel) (by decide +kernel)
theorem x_1008 : Jvm.Cond.instanceMethod y_M_ignition ∈ wd := wd_in (i := 1008) (by decide +kernel) (by decide +kernel)
theorem x_1009 : Jvm.Cond.selects "ShockTubeModel" y_M_ignition y_M_ignition ∈ wd := wd_in (i := 1009) (by decide +kernel) (by decide +kernel)
theorem x_1010 : Jvm.Cond.code y_M_ignition prog_10_method_15_code 4 (Option.none : Option Jvm.ClassFile.FieldType) ∈ wd := wd_in (i := 1010) (by decide +kernel) (by decide +kernel)
theorem x_1011 : Jvm.Cond.constantLong "ShockTubeModel" 84 (100 : Int64) ∈ wd := wd_in (i := 1011) (by decide +kernel) (by decide +kernel)
theorem x_1012 : Jvm.Cond.methodLink "ShockTubeLaw" 112 y_M_step ∈ wd := wd_in (i := 1012) (by decide +kernel) (by decide +kernel)
theorem x_1013 : Jvm.Cond.instanceMethod y_M_step ∈ wd := wd_in (i := 1013) (by decide +kernel) (by decide +kernel)
theorem x_1014 : Jvm.Cond.selects "ShockTubeModel" y_M_step y_M_step ∈ wd := wd_in (i := 1014) (by decide +kernel) (by decide +kernel)
theorem x_1015 : Jvm.Cond.code y_M_step prog_10_method_28_code 4 (Option.some Jvm.ClassFile.FieldType.int) ∈ wd := wd_in (i := 1015) (by decide +kernel) (by decide +kernel)
theorem x_1016 : Jvm.Cond.constantLong "ShockTubeModel" 149 (400 : Int64) ∈ wd := wd_in (i := 1016) (by decide +kernel) (by decide +kernel)
theorem x_1017 : Jvm.Cond.constantLong "ShockTubeModel" 151 (50 : Int64) ∈ wd := wd_in (i := 1017) (by decide +kernel) (by decide +kernel)
theorem x_1018 : Jvm.Cond.constantLong "ShockTubeModel" 153 (300 : Int64) ∈ wd := wd_in (i := 1018) (by decide +kernel) (by decide +kernel)
theorem x_1019 : Jvm.Cond.methodLink "ShockTubeModel" 155 y_M_stepped ∈ wd := wd_in (i := 1019) (by decide +kernel) (by decide +kernel)
theorem x_1021 : Jvm.Cond.instanceMethod y_M_stepped ∈ wd := wd_in (i := 1021) (by decide +kernel) (by decide +kernel)
theorem x_1022 : Jvm.Cond.code y_M_stepped prog_10_method_26_code 9 (Option.some Jvm.ClassFile.FieldType.boolean) ∈ wd := wd_in (i := 1022) (by decide +kernel) (by decide +kernel)
theorem x_1023 : Jvm.Cond.methodLink "ShockTubeModel" 135 y_M_crosses ∈ wd := wd_in (i := 1023) (by decide +kernel) (by decide +kernel)
theorem x_1025 : Jvm.Cond.instanceMethod y_M_crosses ∈ wd := wd_in (i := 1025) (by decide +kernel) (by decide +kernel)
theorem x_1026 : Jvm.Cond.code y_M_crosses prog_10_method_24_code 19 (Option.some Jvm.ClassFile.FieldType.boolean) ∈ wd := wd_in (i := 1026) (by decide +kernel) (by decide +kernel)
theorem x_1027 : Jvm.Cond.methodLink "ShockTubeModel" 112 y_M_fastOf ∈ wd := wd_in (i := 1027) (by decide +kernel) (by decide +kernel)
theorem x_1029 : Jvm.Cond.instanceMethod y_M_fastOf ∈ wd := wd_in (i := 1029) (by decide +kernel) (by decide +kernel)
theorem x_1030 : Jvm.Cond.code y_M_fastOf prog_10_method_19_code 2 (Option.some Jvm.ClassFile.FieldType.long) ∈ wd := wd_in (i := 1030) (by decide +kernel) (by decide +kernel)
theorem x_1031 : Jvm.Cond.methodLink "ShockTubeModel" 101 y_M_speedOf ∈ wd := wd_in (i := 1031) (by decide +kernel) (by decide +kernel)
theorem x_1033 : Jvm.Cond.instanceMethod y_M_speedOf ∈ wd := wd_in (i := 1033) (by decide +kernel) (by decide +kernel)
theorem x_1034 : Jvm.Cond.code y_M_speedOf prog_10_method_16_code 2 (Option.some Jvm.ClassFile.FieldType.long) ∈ wd := wd_in (i := 1034) (by decide +kernel) (by decide +kernel)
theorem x_1035 : Jvm.Cond.methodLink "ShockTubeModel" 104 y_M_size ∈ wd := wd_in (i := 1035) (by decide +kernel) (by decide +kernel)
theorem x_1036 : Jvm.Cond.static y_M_size ∈ wd := wd_in (i := 1036) (by decide +kernel) (by decide +kernel)
theorem x_1037 : Jvm.Cond.code y_M_size prog_10_method_5_code 2 (Option.some Jvm.ClassFile.FieldType.long) ∈ wd := wd_in (i := 1037) (by decide +kernel) (by decide +kernel)
theorem x_1038 : Jvm.Cond.methodLink "ShockTubeModel" 107 y_M_soundOf ∈ wd := wd_in (i := 1038) (by decide +kernel) (by decide +kernel)
theorem x_1040 : Jvm.Cond.instanceMethod y_M_soundOf ∈ wd := wd_in (i := 1040) (by decide +kernel) (by decide +kernel)
theorem x_1041 : Jvm.Cond.code y_M_soundOf prog_10_method_18_code 6 (Option.some Jvm.ClassFile.FieldType.long) ∈ wd := wd_in (i := 1041) (by decide +kernel) (by decide +kernel)
theorem x_1042 : Jvm.Cond.constantLong "ShockTubeModel" 89 (7 : Int64) ∈ wd := wd_in (i := 1042) (by decide +kernel) (by decide +kernel)
theorem x_1043 : Jvm.Cond.constantLong "ShockTubeModel" 64 (5 : Int64) ∈ wd := wd_in (i := 1043) (by decide +kernel) (by decide +kernel)
theorem x_1044 : Jvm.Cond.constantLong "ShockTubeModel" 91 (4 : Int64) ∈ wd := wd_in (i := 1044) (by decide +kernel) (by decide +kernel)
theorem x_1045 : Jvm.Cond.constantLong "ShockTubeModel" 66 (3 : Int64) ∈ wd := wd_in (i := 1045) (by decide +kernel) (by decide +kernel)
theorem x_1046 : Jvm.Cond.methodLink "ShockTubeModel" 93 y_M_pressureOf ∈ wd := wd_in (i := 1046) (by decide +kernel) (by decide +kernel)
theorem x_1048 : Jvm.Cond.instanceMethod y_M_pressureOf ∈ wd := wd_in (i := 1048) (by decide +kernel) (by decide +kernel)
theorem x_1049 : Jvm.Cond.code y_M_pressureOf prog_10_method_17_code 2 (Option.some Jvm.ClassFile.FieldType.long) ∈ wd := wd_in (i := 1049) (by decide +kernel) (by decide +kernel)
theorem x_1050 : Jvm.Cond.methodLink "ShockTubeModel" 86 y_M_pressure ∈ wd := wd_in (i := 1050) (by decide +kernel) (by decide +kernel)
theorem x_1052 : Jvm.Cond.instanceMethod y_M_pressure ∈ wd := wd_in (i := 1052) (by decide +kernel) (by decide +kernel)
theorem x_1053 : Jvm.Cond.code y_M_pressure prog_10_method_11_code 9 (Option.some Jvm.ClassFile.FieldType.long) ∈ wd := wd_in (i := 1053) (by decide +kernel) (by decide +kernel)
theorem x_1054 : Jvm.Cond.methodLink "ShockTubeModel" 97 y_M_root ∈ wd := wd_in (i := 1054) (by decide +kernel) (by decide +kernel)
theorem x_1055 : Jvm.Cond.static y_M_root ∈ wd := wd_in (i := 1055) (by decide +kernel) (by decide +kernel)
theorem x_1056 : Jvm.Cond.code y_M_root prog_10_method_6_code 8 (Option.some Jvm.ClassFile.FieldType.long) ∈ wd := wd_in (i := 1056) (by decide +kernel) (by decide +kernel)
theorem x_1057 : Jvm.Cond.constantLong "ShockTubeModel" 42 (3000000000 : Int64) ∈ wd := wd_in (i := 1057) (by decide +kernel) (by decide +kernel)
theorem x_1058 : Jvm.Cond.constantLong "ShockTubeModel" 115 (-1000 : Int64) ∈ wd := wd_in (i := 1058) (by decide +kernel) (by decide +kernel)
theorem x_1059 : Jvm.Cond.constantLong "ShockTubeModel" 117 (500000 : Int64) ∈ wd := wd_in (i := 1059) (by decide +kernel) (by decide +kernel)
theorem x_1060 : Jvm.Cond.constantLong "ShockTubeModel" 119 (-2 : Int64) ∈ wd := wd_in (i := 1060) (by decide +kernel) (by decide +kernel)
theorem x_1061 : Jvm.Cond.methodLink "ShockTubeModel" 121 y_M_over ∈ wd := wd_in (i := 1061) (by decide +kernel) (by decide +kernel)
theorem x_1062 : Jvm.Cond.static y_M_over ∈ wd := wd_in (i := 1062) (by decide +kernel) (by decide +kernel)
theorem x_1063 : Jvm.Cond.code y_M_over prog_10_method_20_code 8 (Option.some Jvm.ClassFile.FieldType.long) ∈ wd := wd_in (i := 1063) (by decide +kernel) (by decide +kernel)
theorem x_1064 : Jvm.Cond.constantLong "ShockTubeModel" 110 (2000000 : Int64) ∈ wd := wd_in (i := 1064) (by decide +kernel) (by decide +kernel)
theorem x_1065 : Jvm.Cond.methodLink "ShockTubeModel" 125 y_M_momentumQ ∈ wd := wd_in (i := 1065) (by decide +kernel) (by decide +kernel)
theorem x_1067 : Jvm.Cond.instanceMethod y_M_momentumQ ∈ wd := wd_in (i := 1067) (by decide +kernel) (by decide +kernel)
theorem x_1068 : Jvm.Cond.code y_M_momentumQ prog_10_method_21_code 2 (Option.some Jvm.ClassFile.FieldType.long) ∈ wd := wd_in (i := 1068) (by decide +kernel) (by decide +kernel)
theorem x_1069 : Jvm.Cond.methodLink "ShockTubeModel" 128 y_M_energyQ ∈ wd := wd_in (i := 1069) (by decide +kernel) (by decide +kernel)
theorem x_1071 : Jvm.Cond.instanceMethod y_M_energyQ ∈ wd := wd_in (i := 1071) (by decide +kernel) (by decide +kernel)
theorem x_1072 : Jvm.Cond.code y_M_energyQ prog_10_method_22_code 2 (Option.some Jvm.ClassFile.FieldType.long) ∈ wd := wd_in (i := 1072) (by decide +kernel) (by decide +kernel)
theorem x_1073 : Jvm.Cond.methodLink "ShockTubeModel" 131 y_M_fuelOver ∈ wd := wd_in (i := 1073) (by decide +kernel) (by decide +kernel)
theorem x_1075 : Jvm.Cond.instanceMethod y_M_fuelOver ∈ wd := wd_in (i := 1075) (by decide +kernel) (by decide +kernel)
theorem x_1076 : Jvm.Cond.code y_M_fuelOver prog_10_method_23_code 8 (Option.some Jvm.ClassFile.FieldType.long) ∈ wd := wd_in (i := 1076) (by decide +kernel) (by decide +kernel)
theorem x_1077 : Jvm.Cond.methodLink "ShockTubeModel" 146 y_M_isGood ∈ wd := wd_in (i := 1077) (by decide +kernel) (by decide +kernel)
theorem x_1079 : Jvm.Cond.instanceMethod y_M_isGood ∈ wd := wd_in (i := 1079) (by decide +kernel) (by decide +kernel)
theorem x_1080 : Jvm.Cond.code y_M_isGood prog_10_method_25_code 5 (Option.some Jvm.ClassFile.FieldType.boolean) ∈ wd := wd_in (i := 1080) (by decide +kernel) (by decide +kernel)
theorem x_1081 : Jvm.Cond.methodLink "ShockTubeModel" 159 y_M_takesStep ∈ wd := wd_in (i := 1081) (by decide +kernel) (by decide +kernel)
theorem x_1083 : Jvm.Cond.instanceMethod y_M_takesStep ∈ wd := wd_in (i := 1083) (by decide +kernel) (by decide +kernel)
theorem x_1084 : Jvm.Cond.code y_M_takesStep prog_10_method_27_code 4 (Option.none : Option Jvm.ClassFile.FieldType) ∈ wd := wd_in (i := 1084) (by decide +kernel) (by decide +kernel)
theorem x_1085 : Jvm.Cond.methodLink "ShockTubeLaw" 115 y_M_tube ∈ wd := wd_in (i := 1085) (by decide +kernel) (by decide +kernel)
theorem x_1086 : Jvm.Cond.instanceMethod y_M_tube ∈ wd := wd_in (i := 1086) (by decide +kernel) (by decide +kernel)
theorem x_1087 : Jvm.Cond.selects "ShockTubeModel" y_M_tube y_M_tube ∈ wd := wd_in (i := 1087) (by decide +kernel) (by decide +kernel)
theorem x_1088 : Jvm.Cond.code y_M_tube prog_10_method_30_code 5 (Option.some Jvm.ClassFile.FieldType.int) ∈ wd := wd_in (i := 1088) (by decide +kernel) (by decide +kernel)
theorem x_1089 : Jvm.Cond.methodLink "ShockTubeModel" 165 y_M_greatest ∈ wd := wd_in (i := 1089) (by decide +kernel) (by decide +kernel)
theorem x_1090 : Jvm.Cond.static y_M_greatest ∈ wd := wd_in (i := 1090) (by decide +kernel) (by decide +kernel)
theorem x_1091 : Jvm.Cond.code y_M_greatest prog_10_method_29_code 2 (Option.some Jvm.ClassFile.FieldType.int) ∈ wd := wd_in (i := 1091) (by decide +kernel) (by decide +kernel)
theorem x_1092 : Jvm.Cond.constantLong "ShockTubeModel" 162 (2147483647 : Int64) ∈ wd := wd_in (i := 1092) (by decide +kernel) (by decide +kernel)
theorem x_1093 : Jvm.Cond.constant "ShockTubeModel" 164 (2147483647 : Int32) ∈ wd := wd_in (i := 1093) (by decide +kernel) (by decide +kernel)
theorem x_1094 : Jvm.Cond.methodLink "ShockTubeLaw" 118 y_M_anew ∈ wd := wd_in (i := 1094) (by decide +kernel) (by decide +kernel)
theorem x_1095 : Jvm.Cond.instanceMethod y_M_anew ∈ wd := wd_in (i := 1095) (by decide +kernel) (by decide +kernel)
theorem x_1096 : Jvm.Cond.selects "ShockTubeModel" y_M_anew y_M_anew ∈ wd := wd_in (i := 1096) (by decide +kernel) (by decide +kernel)
theorem x_1097 : Jvm.Cond.code y_M_anew prog_10_method_31_code 3 (Option.some Jvm.ClassFile.FieldType.int) ∈ wd := wd_in (i := 1097) (by decide +kernel) (by decide +kernel)
theorem x_1098 : Jvm.Cond.methodLink "ShockTubeLaw" 121 y_M_probe ∈ wd := wd_in (i := 1098) (by decide +kernel) (by decide +kernel)
theorem x_1099 : Jvm.Cond.instanceMethod y_M_probe ∈ wd := wd_in (i := 1099) (by decide +kernel) (by decide +kernel)
theorem x_1100 : Jvm.Cond.selects "ShockTubeModel" y_M_probe y_M_probe ∈ wd := wd_in (i := 1100) (by decide +kernel) (by decide +kernel)
theorem x_1101 : Jvm.Cond.code y_M_probe prog_10_method_32_code 3 (Option.some Jvm.ClassFile.FieldType.int) ∈ wd := wd_in (i := 1101) (by decide +kernel) (by decide +kernel)
theorem x_1102 : Jvm.Cond.methodLink "ShockTubeLaw" 125 y_M_came ∈ wd := wd_in (i := 1102) (by decide +kernel) (by decide +kernel)
theorem x_1103 : Jvm.Cond.instanceMethod y_M_came ∈ wd := wd_in (i := 1103) (by decide +kernel) (by decide +kernel)
theorem x_1104 : Jvm.Cond.selects "ShockTubeModel" y_M_came y_M_came ∈ wd := wd_in (i := 1104) (by decide +kernel) (by decide +kernel)
theorem x_1105 : Jvm.Cond.code y_M_came prog_10_method_33_code 2 (Option.some Jvm.ClassFile.FieldType.long) ∈ wd := wd_in (i := 1105) (by decide +kernel) (by decide +kernel)
theorem x_1106 : Jvm.Cond.methodLink "ShockTubeLaw" 128 y_M_isKept ∈ wd := wd_in (i := 1106) (by decide +kernel) (by decide +kernel)
theorem x_1107 : Jvm.Cond.instanceMethod y_M_isKept ∈ wd := wd_in (i := 1107) (by decide +kernel) (by decide +kernel)
theorem x_1108 : Jvm.Cond.selects "ShockTubeModel" y_M_isKept y_M_isKept ∈ wd := wd_in (i := 1108) (by decide +kernel) (by decide +kernel)
theorem x_1109 : Jvm.Cond.code y_M_isKept prog_10_method_34_code 5 (Option.some Jvm.ClassFile.FieldType.boolean) ∈ wd := wd_in (i := 1109) (by decide +kernel) (by decide +kernel)
theorem x_1110 : Jvm.Cond.methodLink "ShockTubeLaw" 132 y_M_many ∈ wd := wd_in (i := 1110) (by decide +kernel) (by decide +kernel)
theorem x_1111 : Jvm.Cond.instanceMethod y_M_many ∈ wd := wd_in (i := 1111) (by decide +kernel) (by decide +kernel)
theorem x_1112 : Jvm.Cond.selects "ShockTubeModel" y_M_many y_M_many ∈ wd := wd_in (i := 1112) (by decide +kernel) (by decide +kernel)
theorem x_1113 : Jvm.Cond.code y_M_many prog_10_method_35_code 1 (Option.some Jvm.ClassFile.FieldType.int) ∈ wd := wd_in (i := 1113) (by decide +kernel) (by decide +kernel)
theorem x_1114 : Jvm.Cond.methodLink "ShockTubeLaw" 136 y_M_steps ∈ wd := wd_in (i := 1114) (by decide +kernel) (by decide +kernel)
theorem x_1115 : Jvm.Cond.instanceMethod y_M_steps ∈ wd := wd_in (i := 1115) (by decide +kernel) (by decide +kernel)
theorem x_1116 : Jvm.Cond.selects "ShockTubeModel" y_M_steps y_M_steps ∈ wd := wd_in (i := 1116) (by decide +kernel) (by decide +kernel)
theorem x_1117 : Jvm.Cond.code y_M_steps prog_10_method_36_code 1 (Option.some Jvm.ClassFile.FieldType.int) ∈ wd := wd_in (i := 1117) (by decide +kernel) (by decide +kernel)
theorem x_1118 : Jvm.Cond.methodLink "ShockTubeLaw" 140 y_M_front ∈ wd := wd_in (i := 1118) (by decide +kernel) (by decide +kernel)
theorem x_1119 : Jvm.Cond.instanceMethod y_M_front ∈ wd := wd_in (i := 1119) (by decide +kernel) (by decide +kernel)
theorem x_1120 : Jvm.Cond.selects "ShockTubeModel" y_M_front y_M_front ∈ wd := wd_in (i := 1120) (by decide +kernel) (by decide +kernel)
theorem x_1121 : Jvm.Cond.code y_M_front prog_10_method_41_code 8 (Option.some Jvm.ClassFile.FieldType.int) ∈ wd := wd_in (i := 1121) (by decide +kernel) (by decide +kernel)
theorem x_1122 : Jvm.Cond.constantLong "ShockTubeModel" 173 (-900 : Int64) ∈ wd := wd_in (i := 1122) (by decide +kernel) (by decide +kernel)
theorem x_1123 : Jvm.Cond.constantLong "ShockTubeModel" 175 (900 : Int64) ∈ wd := wd_in (i := 1123) (by decide +kernel) (by decide +kernel)
theorem x_1124 : Jvm.Cond.constantLong "ShockTubeModel" 177 (8 : Int64) ∈ wd := wd_in (i := 1124) (by decide +kernel) (by decide +kernel)
theorem x_1125 : Jvm.Cond.methodLink "ShockTubeModel" 179 y_M_opens ∈ wd := wd_in (i := 1125) (by decide +kernel) (by decide +kernel)
theorem x_1127 : Jvm.Cond.instanceMethod y_M_opens ∈ wd := wd_in (i := 1127) (by decide +kernel) (by decide +kernel)
theorem x_1128 : Jvm.Cond.code y_M_opens prog_10_method_37_code 3 (Option.none : Option Jvm.ClassFile.FieldType) ∈ wd := wd_in (i := 1128) (by decide +kernel) (by decide +kernel)
theorem x_1129 : Jvm.Cond.methodLink "ShockTubeModel" 169 y_M_copies ∈ wd := wd_in (i := 1129) (by decide +kernel) (by decide +kernel)
theorem x_1131 : Jvm.Cond.instanceMethod y_M_copies ∈ wd := wd_in (i := 1131) (by decide +kernel) (by decide +kernel)
theorem x_1132 : Jvm.Cond.code y_M_copies prog_10_method_38_code 3 (Option.none : Option Jvm.ClassFile.FieldType) ∈ wd := wd_in (i := 1132) (by decide +kernel) (by decide +kernel)
theorem x_1133 : Jvm.Cond.methodLink "ShockTubeModel" 183 y_M_sets ∈ wd := wd_in (i := 1133) (by decide +kernel) (by decide +kernel)
theorem x_1135 : Jvm.Cond.instanceMethod y_M_sets ∈ wd := wd_in (i := 1135) (by decide +kernel) (by decide +kernel)
theorem x_1136 : Jvm.Cond.code y_M_sets prog_10_method_40_code 10 (Option.none : Option Jvm.ClassFile.FieldType) ∈ wd := wd_in (i := 1136) (by decide +kernel) (by decide +kernel)
theorem x_1137 : Jvm.Cond.methodLink "ShockTubeLaw" 143 y_M_tick ∈ wd := wd_in (i := 1137) (by decide +kernel) (by decide +kernel)
theorem x_1138 : Jvm.Cond.instanceMethod y_M_tick ∈ wd := wd_in (i := 1138) (by decide +kernel) (by decide +kernel)
theorem x_1139 : Jvm.Cond.selects "ShockTubeModel" y_M_tick y_M_tick ∈ wd := wd_in (i := 1139) (by decide +kernel) (by decide +kernel)
theorem x_1140 : Jvm.Cond.code y_M_tick prog_10_method_50_code 5 (Option.some Jvm.ClassFile.FieldType.int) ∈ wd := wd_in (i := 1140) (by decide +kernel) (by decide +kernel)
theorem x_1141 : Jvm.Cond.methodLink "ShockTubeModel" 212 y_M_moves ∈ wd := wd_in (i := 1141) (by decide +kernel) (by decide +kernel)
theorem x_1143 : Jvm.Cond.instanceMethod y_M_moves ∈ wd := wd_in (i := 1143) (by decide +kernel) (by decide +kernel)
theorem x_1144 : Jvm.Cond.code y_M_moves prog_10_method_42_code 5 (Option.none : Option Jvm.ClassFile.FieldType) ∈ wd := wd_in (i := 1144) (by decide +kernel) (by decide +kernel)
theorem x_1145 : Jvm.Cond.methodLink "ShockTubeModel" 187 y_M_removes ∈ wd := wd_in (i := 1145) (by decide +kernel) (by decide +kernel)
theorem x_1147 : Jvm.Cond.instanceMethod y_M_removes ∈ wd := wd_in (i := 1147) (by decide +kernel) (by decide +kernel)
theorem x_1148 : Jvm.Cond.code y_M_removes prog_10_method_39_code 3 (Option.none : Option Jvm.ClassFile.FieldType) ∈ wd := wd_in (i := 1148) (by decide +kernel) (by decide +kernel)
theorem x_1149 : Jvm.Cond.methodLink "ShockTubeModel" 215 y_M_doMeet ∈ wd := wd_in (i := 1149) (by decide +kernel) (by decide +kernel)
theorem x_1151 : Jvm.Cond.instanceMethod y_M_doMeet ∈ wd := wd_in (i := 1151) (by decide +kernel) (by decide +kernel)
theorem x_1152 : Jvm.Cond.code y_M_doMeet prog_10_method_44_code 2 (Option.some Jvm.ClassFile.FieldType.boolean) ∈ wd := wd_in (i := 1152) (by decide +kernel) (by decide +kernel)
theorem x_1153 : Jvm.Cond.methodLink "ShockTubeModel" 218 y_M_meets ∈ wd := wd_in (i := 1153) (by decide +kernel) (by decide +kernel)
theorem x_1155 : Jvm.Cond.instanceMethod y_M_meets ∈ wd := wd_in (i := 1155) (by decide +kernel) (by decide +kernel)
theorem x_1156 : Jvm.Cond.code y_M_meets prog_10_method_49_code 10 (Option.some Jvm.ClassFile.FieldType.int) ∈ wd := wd_in (i := 1156) (by decide +kernel) (by decide +kernel)
theorem x_1157 : Jvm.Cond.methodLink "ShockTubeModel" 204 y_M_shocksMeet ∈ wd := wd_in (i := 1157) (by decide +kernel) (by decide +kernel)
theorem x_1159 : Jvm.Cond.instanceMethod y_M_shocksMeet ∈ wd := wd_in (i := 1159) (by decide +kernel) (by decide +kernel)
theorem x_1160 : Jvm.Cond.code y_M_shocksMeet prog_10_method_47_code 14 (Option.some Jvm.ClassFile.FieldType.int) ∈ wd := wd_in (i := 1160) (by decide +kernel) (by decide +kernel)
theorem x_1161 : Jvm.Cond.methodLink "ShockTubeModel" 190 y_M_goThrough ∈ wd := wd_in (i := 1161) (by decide +kernel) (by decide +kernel)
theorem x_1162 : Jvm.Cond.static y_M_goThrough ∈ wd := wd_in (i := 1162) (by decide +kernel) (by decide +kernel)
theorem x_1163 : Jvm.Cond.code y_M_goThrough prog_10_method_46_code 4 (Option.some Jvm.ClassFile.FieldType.boolean) ∈ wd := wd_in (i := 1163) (by decide +kernel) (by decide +kernel)
theorem x_1164 : Jvm.Cond.methodLink "ShockTubeModel" 194 y_M_turns ∈ wd := wd_in (i := 1164) (by decide +kernel) (by decide +kernel)
theorem x_1166 : Jvm.Cond.instanceMethod y_M_turns ∈ wd := wd_in (i := 1166) (by decide +kernel) (by decide +kernel)
theorem x_1167 : Jvm.Cond.code y_M_turns prog_10_method_45_code 10 (Option.none : Option Jvm.ClassFile.FieldType) ∈ wd := wd_in (i := 1167) (by decide +kernel) (by decide +kernel)
theorem x_1168 : Jvm.Cond.constantLong "ShockTubeModel" 197 (10 : Int64) ∈ wd := wd_in (i := 1168) (by decide +kernel) (by decide +kernel)
theorem x_1169 : Jvm.Cond.methodLink "ShockTubeModel" 208 y_M_passes ∈ wd := wd_in (i := 1169) (by decide +kernel) (by decide +kernel)
theorem x_1171 : Jvm.Cond.instanceMethod y_M_passes ∈ wd := wd_in (i := 1171) (by decide +kernel) (by decide +kernel)
theorem x_1172 : Jvm.Cond.code y_M_passes prog_10_method_48_code 7 (Option.some Jvm.ClassFile.FieldType.int) ∈ wd := wd_in (i := 1172) (by decide +kernel) (by decide +kernel)
theorem x_1173 : Jvm.Cond.constantLong "ShockTubeModel" 199 (9 : Int64) ∈ wd := wd_in (i := 1173) (by decide +kernel) (by decide +kernel)
theorem x_1174 : Jvm.Cond.methodLink "ShockTubeModel" 201 y_M_held ∈ wd := wd_in (i := 1174) (by decide +kernel) (by decide +kernel)
theorem x_1175 : Jvm.Cond.static y_M_held ∈ wd := wd_in (i := 1175) (by decide +kernel) (by decide +kernel)
theorem x_1176 : Jvm.Cond.code y_M_held prog_10_method_43_code 2 (Option.some Jvm.ClassFile.FieldType.long) ∈ wd := wd_in (i := 1176) (by decide +kernel) (by decide +kernel)
theorem x_1177 : Jvm.Cond.methodLink "ShockTubeLaw" 147 y_M_fronts ∈ wd := wd_in (i := 1177) (by decide +kernel) (by decide +kernel)
theorem x_1178 : Jvm.Cond.instanceMethod y_M_fronts ∈ wd := wd_in (i := 1178) (by decide +kernel) (by decide +kernel)
theorem x_1179 : Jvm.Cond.selects "ShockTubeModel" y_M_fronts y_M_fronts ∈ wd := wd_in (i := 1179) (by decide +kernel) (by decide +kernel)
theorem x_1180 : Jvm.Cond.code y_M_fronts prog_10_method_51_code 1 (Option.some Jvm.ClassFile.FieldType.int) ∈ wd := wd_in (i := 1180) (by decide +kernel) (by decide +kernel)
theorem x_1181 : Jvm.Cond.methodLink "ShockTubeLaw" 150 y_M_ofFront ∈ wd := wd_in (i := 1181) (by decide +kernel) (by decide +kernel)
theorem x_1182 : Jvm.Cond.instanceMethod y_M_ofFront ∈ wd := wd_in (i := 1182) (by decide +kernel) (by decide +kernel)
theorem x_1183 : Jvm.Cond.selects "ShockTubeModel" y_M_ofFront y_M_ofFront ∈ wd := wd_in (i := 1183) (by decide +kernel) (by decide +kernel)
theorem x_1184 : Jvm.Cond.code y_M_ofFront prog_10_method_52_code 3 (Option.some Jvm.ClassFile.FieldType.int) ∈ wd := wd_in (i := 1184) (by decide +kernel) (by decide +kernel)
theorem x_1185 : Jvm.Cond.methodLink "ShockTubeLaw" 154 y_M_pipe ∈ wd := wd_in (i := 1185) (by decide +kernel) (by decide +kernel)
theorem x_1186 : Jvm.Cond.instanceMethod y_M_pipe ∈ wd := wd_in (i := 1186) (by decide +kernel) (by decide +kernel)
theorem x_1187 : Jvm.Cond.selects "ShockTubeModel" y_M_pipe y_M_pipe ∈ wd := wd_in (i := 1187) (by decide +kernel) (by decide +kernel)
theorem x_1188 : Jvm.Cond.code y_M_pipe prog_10_method_53_code 9 (Option.none : Option Jvm.ClassFile.FieldType) ∈ wd := wd_in (i := 1188) (by decide +kernel) (by decide +kernel)
theorem x_1189 : Jvm.Cond.constantLong "ShockTubeModel" 221 (20 : Int64) ∈ wd := wd_in (i := 1189) (by decide +kernel) (by decide +kernel)
theorem x_1190 : Jvm.Cond.constantLong "ShockTubeModel" 223 (-100 : Int64) ∈ wd := wd_in (i := 1190) (by decide +kernel) (by decide +kernel)
theorem x_1191 : Jvm.Cond.methodLink "ShockTubeLaw" 157 y_M_valve ∈ wd := wd_in (i := 1191) (by decide +kernel) (by decide +kernel)
theorem x_1192 : Jvm.Cond.instanceMethod y_M_valve ∈ wd := wd_in (i := 1192) (by decide +kernel) (by decide +kernel)
theorem x_1193 : Jvm.Cond.selects "ShockTubeModel" y_M_valve y_M_valve ∈ wd := wd_in (i := 1193) (by decide +kernel) (by decide +kernel)
theorem x_1194 : Jvm.Cond.code y_M_valve prog_10_method_54_code 3 (Option.some Jvm.ClassFile.FieldType.int) ∈ wd := wd_in (i := 1194) (by decide +kernel) (by decide +kernel)
theorem x_1195 : Jvm.Cond.methodLink "ShockTubeLaw" 160 y_M_reservoir ∈ wd := wd_in (i := 1195) (by decide +kernel) (by decide +kernel)
theorem x_1196 : Jvm.Cond.instanceMethod y_M_reservoir ∈ wd := wd_in (i := 1196) (by decide +kernel) (by decide +kernel)
theorem x_1197 : Jvm.Cond.selects "ShockTubeModel" y_M_reservoir y_M_reservoir ∈ wd := wd_in (i := 1197) (by decide +kernel) (by decide +kernel)
theorem x_1198 : Jvm.Cond.code y_M_reservoir prog_10_method_55_code 3 (Option.some Jvm.ClassFile.FieldType.int) ∈ wd := wd_in (i := 1198) (by decide +kernel) (by decide +kernel)
theorem x_1199 : Jvm.Cond.methodLink "ShockTubeLaw" 163 y_M_flow ∈ wd := wd_in (i := 1199) (by decide +kernel) (by decide +kernel)
theorem x_1200 : Jvm.Cond.instanceMethod y_M_flow ∈ wd := wd_in (i := 1200) (by decide +kernel) (by decide +kernel)
theorem x_1201 : Jvm.Cond.selects "ShockTubeModel" y_M_flow y_M_flow ∈ wd := wd_in (i := 1201) (by decide +kernel) (by decide +kernel)
theorem x_1202 : Jvm.Cond.code y_M_flow prog_10_method_61_code 3 (Option.some Jvm.ClassFile.FieldType.int) ∈ wd := wd_in (i := 1202) (by decide +kernel) (by decide +kernel)
theorem x_1203 : Jvm.Cond.methodLink "ShockTubeModel" 241 y_M_flowed ∈ wd := wd_in (i := 1203) (by decide +kernel) (by decide +kernel)
theorem x_1205 : Jvm.Cond.instanceMethod y_M_flowed ∈ wd := wd_in (i := 1205) (by decide +kernel) (by decide +kernel)
theorem x_1206 : Jvm.Cond.code y_M_flowed prog_10_method_60_code 4 (Option.some Jvm.ClassFile.FieldType.boolean) ∈ wd := wd_in (i := 1206) (by decide +kernel) (by decide +kernel)
theorem x_1207 : Jvm.Cond.methodLink "ShockTubeModel" 234 y_M_finds ∈ wd := wd_in (i := 1207) (by decide +kernel) (by decide +kernel)
theorem x_1209 : Jvm.Cond.instanceMethod y_M_finds ∈ wd := wd_in (i := 1209) (by decide +kernel) (by decide +kernel)
theorem x_1210 : Jvm.Cond.code y_M_finds prog_10_method_59_code 16 (Option.none : Option Jvm.ClassFile.FieldType) ∈ wd := wd_in (i := 1210) (by decide +kernel) (by decide +kernel)
theorem x_1211 : Jvm.Cond.methodLink "ShockTubeModel" 228 y_M_fromRight ∈ wd := wd_in (i := 1211) (by decide +kernel) (by decide +kernel)
theorem x_1213 : Jvm.Cond.instanceMethod y_M_fromRight ∈ wd := wd_in (i := 1213) (by decide +kernel) (by decide +kernel)
theorem x_1214 : Jvm.Cond.code y_M_fromRight prog_10_method_58_code 2 (Option.some Jvm.ClassFile.FieldType.long) ∈ wd := wd_in (i := 1214) (by decide +kernel) (by decide +kernel)
theorem x_1215 : Jvm.Cond.methodLink "ShockTubeModel" 225 y_M_rubs ∈ wd := wd_in (i := 1215) (by decide +kernel) (by decide +kernel)
theorem x_1217 : Jvm.Cond.instanceMethod y_M_rubs ∈ wd := wd_in (i := 1217) (by decide +kernel) (by decide +kernel)
theorem x_1218 : Jvm.Cond.code y_M_rubs prog_10_method_56_code 2 (Option.some Jvm.ClassFile.FieldType.long) ∈ wd := wd_in (i := 1218) (by decide +kernel) (by decide +kernel)
theorem x_1219 : Jvm.Cond.methodLink "ShockTubeModel" 231 y_M_fromLeft ∈ wd := wd_in (i := 1219) (by decide +kernel) (by decide +kernel)
theorem x_1221 : Jvm.Cond.instanceMethod y_M_fromLeft ∈ wd := wd_in (i := 1221) (by decide +kernel) (by decide +kernel)
theorem x_1222 : Jvm.Cond.code y_M_fromLeft prog_10_method_57_code 2 (Option.some Jvm.ClassFile.FieldType.long) ∈ wd := wd_in (i := 1222) (by decide +kernel) (by decide +kernel)
theorem x_1223 : Jvm.Cond.constantLong "ShockTubeModel" 237 (-1000000 : Int64) ∈ wd := wd_in (i := 1223) (by decide +kernel) (by decide +kernel)
theorem x_1224 : Jvm.Cond.constantLong "ShockTubeModel" 239 (-100000 : Int64) ∈ wd := wd_in (i := 1224) (by decide +kernel) (by decide +kernel)
theorem x_1225 : Jvm.Cond.methodLink "ShockTubeLaw" 166 y_M_node ∈ wd := wd_in (i := 1225) (by decide +kernel) (by decide +kernel)
theorem x_1226 : Jvm.Cond.instanceMethod y_M_node ∈ wd := wd_in (i := 1226) (by decide +kernel) (by decide +kernel)
theorem x_1227 : Jvm.Cond.selects "ShockTubeModel" y_M_node y_M_node ∈ wd := wd_in (i := 1227) (by decide +kernel) (by decide +kernel)
theorem x_1228 : Jvm.Cond.code y_M_node prog_10_method_62_code 3 (Option.some Jvm.ClassFile.FieldType.int) ∈ wd := wd_in (i := 1228) (by decide +kernel) (by decide +kernel)
theorem x_1229 : Jvm.Cond.methodLink "ShockTubeLaw" 169 y_M_keep ∈ wd := wd_in (i := 1229) (by decide +kernel) (by decide +kernel)
theorem x_1230 : Jvm.Cond.instanceMethod y_M_keep ∈ wd := wd_in (i := 1230) (by decide +kernel) (by decide +kernel)
theorem x_1231 : Jvm.Cond.selects "ShockTubeModel" y_M_keep y_M_keep ∈ wd := wd_in (i := 1231) (by decide +kernel) (by decide +kernel)
theorem x_1232 : Jvm.Cond.code y_M_keep prog_10_method_63_code 3 (Option.none : Option Jvm.ClassFile.FieldType) ∈ wd := wd_in (i := 1232) (by decide +kernel) (by decide +kernel)
theorem x_1233 : Jvm.Cond.methodLink "ShockTubeLaw" 172 y_M_goBack ∈ wd := wd_in (i := 1233) (by decide +kernel) (by decide +kernel)
theorem x_1234 : Jvm.Cond.instanceMethod y_M_goBack ∈ wd := wd_in (i := 1234) (by decide +kernel) (by decide +kernel)
theorem x_1235 : Jvm.Cond.selects "ShockTubeModel" y_M_goBack y_M_goBack ∈ wd := wd_in (i := 1235) (by decide +kernel) (by decide +kernel)
theorem x_1236 : Jvm.Cond.code y_M_goBack prog_10_method_64_code 3 (Option.none : Option Jvm.ClassFile.FieldType) ∈ wd := wd_in (i := 1236) (by decide +kernel) (by decide +kernel)
theorem x_1237 : Jvm.Cond.sameMethod "java/lang/Throwable" "java/lang/Throwable" "fillInStackTrace" "(I)Ljava/lang/Throwable;" ∈ wd := wd_in (i := 1237) (by decide +kernel) (by decide +kernel)
theorem s_X_refuseCell : Cond.selects "ShockTube" y_X_refuseCell y_X_refuseCell ∈ wd := wd_sel (i := 1) (by decide +kernel) (by decide +kernel)
theorem s_X_refuseNoPipe : Cond.selects "ShockTube" y_X_refuseNoPipe y_X_refuseNoPipe ∈ wd := wd_sel (i := 2) (by decide +kernel) (by decide +kernel)
theorem s_M_shapes : Cond.selects "ShockTubeModel" y_M_shapes y_M_shapes ∈ wd := wd_sel (i := 3) (by decide +kernel) (by decide +kernel)
theorem s_M_isCell : Cond.selects "ShockTubeModel" y_M_isCell y_M_isCell ∈ wd := wd_sel (i := 4) (by decide +kernel) (by decide +kernel)
theorem s_M_tells : Cond.selects "ShockTubeModel" y_M_tells y_M_tells ∈ wd := wd_sel (i := 5) (by decide +kernel) (by decide +kernel)
theorem s_M_stepped : Cond.selects "ShockTubeModel" y_M_stepped y_M_stepped ∈ wd := wd_sel (i := 6) (by decide +kernel) (by decide +kernel)
theorem s_M_crosses : Cond.selects "ShockTubeModel" y_M_crosses y_M_crosses ∈ wd := wd_sel (i := 7) (by decide +kernel) (by decide +kernel)
theorem s_M_fastOf : Cond.selects "ShockTubeModel" y_M_fastOf y_M_fastOf ∈ wd := wd_sel (i := 8) (by decide +kernel) (by decide +kernel)
theorem s_M_speedOf : Cond.selects "ShockTubeModel" y_M_speedOf y_M_speedOf ∈ wd := wd_sel (i := 9) (by decide +kernel) (by decide +kernel)
theorem s_M_soundOf : Cond.selects "ShockTubeModel" y_M_soundOf y_M_soundOf ∈ wd := wd_sel (i := 10) (by decide +kernel) (by decide +kernel)
theorem s_M_pressureOf : Cond.selects "ShockTubeModel" y_M_pressureOf y_M_pressureOf ∈ wd := wd_sel (i := 11) (by decide +kernel) (by decide +kernel)
theorem s_M_pressure : Cond.selects "ShockTubeModel" y_M_pressure y_M_pressure ∈ wd := wd_sel (i := 12) (by decide +kernel) (by decide +kernel)
theorem s_M_momentumQ : Cond.selects "ShockTubeModel" y_M_momentumQ y_M_momentumQ ∈ wd := wd_sel (i := 13) (by decide +kernel) (by decide +kernel)
theorem s_M_energyQ : Cond.selects "ShockTubeModel" y_M_energyQ y_M_energyQ ∈ wd := wd_sel (i := 14) (by decide +kernel) (by decide +kernel)
theorem s_M_fuelOver : Cond.selects "ShockTubeModel" y_M_fuelOver y_M_fuelOver ∈ wd := wd_sel (i := 15) (by decide +kernel) (by decide +kernel)
theorem s_M_isGood : Cond.selects "ShockTubeModel" y_M_isGood y_M_isGood ∈ wd := wd_sel (i := 16) (by decide +kernel) (by decide +kernel)
theorem s_M_takesStep : Cond.selects "ShockTubeModel" y_M_takesStep y_M_takesStep ∈ wd := wd_sel (i := 17) (by decide +kernel) (by decide +kernel)
theorem s_M_opens : Cond.selects "ShockTubeModel" y_M_opens y_M_opens ∈ wd := wd_sel (i := 18) (by decide +kernel) (by decide +kernel)
theorem s_M_copies : Cond.selects "ShockTubeModel" y_M_copies y_M_copies ∈ wd := wd_sel (i := 19) (by decide +kernel) (by decide +kernel)
theorem s_M_sets : Cond.selects "ShockTubeModel" y_M_sets y_M_sets ∈ wd := wd_sel (i := 20) (by decide +kernel) (by decide +kernel)
theorem s_M_moves : Cond.selects "ShockTubeModel" y_M_moves y_M_moves ∈ wd := wd_sel (i := 21) (by decide +kernel) (by decide +kernel)
theorem s_M_removes : Cond.selects "ShockTubeModel" y_M_removes y_M_removes ∈ wd := wd_sel (i := 22) (by decide +kernel) (by decide +kernel)
theorem s_M_doMeet : Cond.selects "ShockTubeModel" y_M_doMeet y_M_doMeet ∈ wd := wd_sel (i := 23) (by decide +kernel) (by decide +kernel)
theorem s_M_meets : Cond.selects "ShockTubeModel" y_M_meets y_M_meets ∈ wd := wd_sel (i := 24) (by decide +kernel) (by decide +kernel)
theorem s_M_shocksMeet : Cond.selects "ShockTubeModel" y_M_shocksMeet y_M_shocksMeet ∈ wd := wd_sel (i := 25) (by decide +kernel) (by decide +kernel)
theorem s_M_turns : Cond.selects "ShockTubeModel" y_M_turns y_M_turns ∈ wd := wd_sel (i := 26) (by decide +kernel) (by decide +kernel)
theorem s_M_passes : Cond.selects "ShockTubeModel" y_M_passes y_M_passes ∈ wd := wd_sel (i := 27) (by decide +kernel) (by decide +kernel)
theorem s_M_flowed : Cond.selects "ShockTubeModel" y_M_flowed y_M_flowed ∈ wd := wd_sel (i := 28) (by decide +kernel) (by decide +kernel)
theorem s_M_finds : Cond.selects "ShockTubeModel" y_M_finds y_M_finds ∈ wd := wd_sel (i := 29) (by decide +kernel) (by decide +kernel)
theorem s_M_fromRight : Cond.selects "ShockTubeModel" y_M_fromRight y_M_fromRight ∈ wd := wd_sel (i := 30) (by decide +kernel) (by decide +kernel)
theorem s_M_rubs : Cond.selects "ShockTubeModel" y_M_rubs y_M_rubs ∈ wd := wd_sel (i := 31) (by decide +kernel) (by decide +kernel)
theorem s_M_fromLeft : Cond.selects "ShockTubeModel" y_M_fromLeft y_M_fromLeft ∈ wd := wd_sel (i := 32) (by decide +kernel) (by decide +kernel)
def F_X : u_T := fun k => match k with
  | 0 => ("ShockTube", "now", "LShockTube$State;", true)
  | 1 => ("ShockTube", "step", "LShockTube$Step;", true)
  | _ => ("ShockTube", "kept", "[LShockTube$State;", true)
def t_X : Nat → FieldType := fun k => match k with
  | 0 => .object "ShockTube$State"
  | 1 => .object "ShockTube$Step"
  | _ => .array (.object "ShockTube$State")
theorem n_X : ∀ a, a < 3 → ∀ b, b < 3 → a ≠ b → (F_X a).2.1 ≠ (F_X b).2.1 := by decide +kernel
theorem t_X_ok : ∀ k, k < 3 → parseFieldDescriptor (F_X k).2.2.1 = some (t_X k) := by decide +kernel
theorem i_X : ∀ w ∈ u_ws "ShockTube" F_X 3, w ∈ wd := by decide +kernel
def F_Laws : u_T := fun k => match k with
  | 0 => ("ShockTube$Laws", "gas", "I", false)
  | 1 => ("ShockTube$Laws", "ignition", "I", false)
  | 2 => ("ShockTube$Laws", "part", "I", false)
  | _ => ("ShockTube$Laws", "heat", "I", false)
def t_Laws : Nat → FieldType := fun k => match k with
  | 0 => .int
  | 1 => .int
  | 2 => .int
  | _ => .int
theorem n_Laws : ∀ a, a < 4 → ∀ b, b < 4 → a ≠ b → (F_Laws a).2.1 ≠ (F_Laws b).2.1 := by decide +kernel
theorem t_Laws_ok : ∀ k, k < 4 → parseFieldDescriptor (F_Laws k).2.2.1 = some (t_Laws k) := by decide +kernel
theorem i_Laws : ∀ w ∈ u_ws "ShockTube$Laws" F_Laws 4, w ∈ wd := by decide +kernel
def F_Pipe : u_T := fun k => match k with
  | 0 => ("ShockTube$Pipe", "nodes", "I", false)
  | 1 => ("ShockTube$Pipe", "impedance", "I", false)
  | 2 => ("ShockTube$Pipe", "friction", "I", false)
  | 3 => ("ShockTube$Pipe", "loss", "I", false)
  | 4 => ("ShockTube$Pipe", "opening", "I", false)
  | 5 => ("ShockTube$Pipe", "reservoirHead", "I", false)
  | 6 => ("ShockTube$Pipe", "head", "[J", true)
  | 7 => ("ShockTube$Pipe", "flow", "[J", true)
  | 8 => ("ShockTube$Pipe", "cavity", "[J", true)
  | 9 => ("ShockTube$Pipe", "greatest", "[J", true)
  | 10 => ("ShockTube$Pipe", "nextHead", "[J", true)
  | 11 => ("ShockTube$Pipe", "nextFlow", "[J", true)
  | _ => ("ShockTube$Pipe", "nextCavity", "[J", true)
def t_Pipe : Nat → FieldType := fun k => match k with
  | 0 => .int
  | 1 => .int
  | 2 => .int
  | 3 => .int
  | 4 => .int
  | 5 => .int
  | 6 => .array (.long)
  | 7 => .array (.long)
  | 8 => .array (.long)
  | 9 => .array (.long)
  | 10 => .array (.long)
  | 11 => .array (.long)
  | _ => .array (.long)
theorem n_Pipe : ∀ a, a < 13 → ∀ b, b < 13 → a ≠ b → (F_Pipe a).2.1 ≠ (F_Pipe b).2.1 := by decide +kernel
theorem t_Pipe_ok : ∀ k, k < 13 → parseFieldDescriptor (F_Pipe k).2.2.1 = some (t_Pipe k) := by decide +kernel
theorem i_Pipe : ∀ w ∈ u_ws "ShockTube$Pipe" F_Pipe 13, w ∈ wd := by decide +kernel
def F_Row : u_T := fun k => match k with
  | 0 => ("ShockTube$Row", "count", "I", false)
  | 1 => ("ShockTube$Row", "kind", "[I", true)
  | 2 => ("ShockTube$Row", "place", "[I", true)
  | 3 => ("ShockTube$Row", "ahead", "[I", true)
  | 4 => ("ShockTube$Row", "speed", "[I", true)
  | _ => ("ShockTube$Row", "strength", "[I", true)
def t_Row : Nat → FieldType := fun k => match k with
  | 0 => .int
  | 1 => .array (.int)
  | 2 => .array (.int)
  | 3 => .array (.int)
  | 4 => .array (.int)
  | _ => .array (.int)
theorem n_Row : ∀ a, a < 6 → ∀ b, b < 6 → a ≠ b → (F_Row a).2.1 ≠ (F_Row b).2.1 := by decide +kernel
theorem t_Row_ok : ∀ k, k < 6 → parseFieldDescriptor (F_Row k).2.2.1 = some (t_Row k) := by decide +kernel
theorem i_Row : ∀ w ∈ u_ws "ShockTube$Row" F_Row 6, w ∈ wd := by decide +kernel
def F_State : u_T := fun k => match k with
  | 0 => ("ShockTube$State", "tube", "LShockTube$Tube;", true)
  | 1 => ("ShockTube$State", "story", "LShockTube$Story;", true)
  | 2 => ("ShockTube$State", "row", "LShockTube$Row;", true)
  | _ => ("ShockTube$State", "pipe", "LShockTube$Pipe;", true)
def t_State : Nat → FieldType := fun k => match k with
  | 0 => .object "ShockTube$Tube"
  | 1 => .object "ShockTube$Story"
  | 2 => .object "ShockTube$Row"
  | _ => .object "ShockTube$Pipe"
theorem n_State : ∀ a, a < 4 → ∀ b, b < 4 → a ≠ b → (F_State a).2.1 ≠ (F_State b).2.1 := by decide +kernel
theorem t_State_ok : ∀ k, k < 4 → parseFieldDescriptor (F_State k).2.2.1 = some (t_State k) := by decide +kernel
theorem i_State : ∀ w ∈ u_ws "ShockTube$State" F_State 4, w ∈ wd := by decide +kernel
def F_Step : u_T := fun k => match k with
  | 0 => ("ShockTube$Step", "speed", "[J", true)
  | 1 => ("ShockTube$Step", "sound", "[J", true)
  | 2 => ("ShockTube$Step", "carries", "[[J", true)
  | 3 => ("ShockTube$Step", "pace", "[J", true)
  | 4 => ("ShockTube$Step", "over", "[[J", true)
  | 5 => ("ShockTube$Step", "next", "[[J", true)
  | 6 => ("ShockTube$Step", "pressureBehind", "[J", true)
  | _ => ("ShockTube$Step", "burnt", "J", false)
def t_Step : Nat → FieldType := fun k => match k with
  | 0 => .array (.long)
  | 1 => .array (.long)
  | 2 => .array (.array (.long))
  | 3 => .array (.long)
  | 4 => .array (.array (.long))
  | 5 => .array (.array (.long))
  | 6 => .array (.long)
  | _ => .long
theorem n_Step : ∀ a, a < 8 → ∀ b, b < 8 → a ≠ b → (F_Step a).2.1 ≠ (F_Step b).2.1 := by decide +kernel
theorem t_Step_ok : ∀ k, k < 8 → parseFieldDescriptor (F_Step k).2.2.1 = some (t_Step k) := by decide +kernel
theorem i_Step : ∀ w ∈ u_ws "ShockTube$Step" F_Step 8, w ∈ wd := by decide +kernel
def F_Story : u_T := fun k => match k with
  | 0 => ("ShockTube$Story", "notes", "[I", true)
  | 1 => ("ShockTube$Story", "count", "I", false)
  | 2 => ("ShockTube$Story", "gone", "I", false)
  | _ => ("ShockTube$Story", "anew", "LShockTube$Tube;", true)
def t_Story : Nat → FieldType := fun k => match k with
  | 0 => .array (.int)
  | 1 => .int
  | 2 => .int
  | _ => .object "ShockTube$Tube"
theorem n_Story : ∀ a, a < 4 → ∀ b, b < 4 → a ≠ b → (F_Story a).2.1 ≠ (F_Story b).2.1 := by decide +kernel
theorem t_Story_ok : ∀ k, k < 4 → parseFieldDescriptor (F_Story k).2.2.1 = some (t_Story k) := by decide +kernel
theorem i_Story : ∀ w ∈ u_ws "ShockTube$Story" F_Story 4, w ∈ wd := by decide +kernel
def F_Tube : u_T := fun k => match k with
  | 0 => ("ShockTube$Tube", "laws", "LShockTube$Laws;", true)
  | 1 => ("ShockTube$Tube", "many", "I", false)
  | 2 => ("ShockTube$Tube", "leftEnd", "I", false)
  | 3 => ("ShockTube$Tube", "rightEnd", "I", false)
  | 4 => ("ShockTube$Tube", "steps", "I", false)
  | 5 => ("ShockTube$Tube", "has", "[[J", true)
  | 6 => ("ShockTube$Tube", "told", "[J", true)
  | 7 => ("ShockTube$Tube", "came", "[J", true)
  | 8 => ("ShockTube$Tube", "greatest", "[J", true)
  | _ => ("ShockTube$Tube", "greatestStep", "[I", true)
def t_Tube : Nat → FieldType := fun k => match k with
  | 0 => .object "ShockTube$Laws"
  | 1 => .int
  | 2 => .int
  | 3 => .int
  | 4 => .int
  | 5 => .array (.array (.long))
  | 6 => .array (.long)
  | 7 => .array (.long)
  | 8 => .array (.long)
  | _ => .array (.int)
theorem n_Tube : ∀ a, a < 10 → ∀ b, b < 10 → a ≠ b → (F_Tube a).2.1 ≠ (F_Tube b).2.1 := by decide +kernel
theorem t_Tube_ok : ∀ k, k < 10 → parseFieldDescriptor (F_Tube k).2.2.1 = some (t_Tube k) := by decide +kernel
theorem i_Tube : ∀ w ∈ u_ws "ShockTube$Tube" F_Tube 10, w ∈ wd := by decide +kernel
def F_M : u_T := fun k => match k with
  | 0 => ("ShockTubeModel", "thrown", "I", false)
  | 1 => ("ShockTubeModel", "s", "[J", true)
  | 2 => ("ShockTubeModel", "kept", "[J", true)
  | 3 => ("ShockTubeModel", "isKeptIn", "[Z", true)
  | 4 => ("ShockTubeModel", "goes", "[J", true)
  | 5 => ("ShockTubeModel", "fresh", "[J", true)
  | 6 => ("ShockTubeModel", "burnt", "J", false)
  | 7 => ("ShockTubeModel", "heated", "J", false)
  | 8 => ("ShockTubeModel", "before", "[J", true)
  | _ => ("ShockTubeModel", "nodes", "[J", true)
def t_M : Nat → FieldType := fun k => match k with
  | 0 => .int
  | 1 => .array (.long)
  | 2 => .array (.long)
  | 3 => .array (.boolean)
  | 4 => .array (.long)
  | 5 => .array (.long)
  | 6 => .long
  | 7 => .long
  | 8 => .array (.long)
  | _ => .array (.long)
theorem n_M : ∀ a, a < 10 → ∀ b, b < 10 → a ≠ b → (F_M a).2.1 ≠ (F_M b).2.1 := by decide +kernel
theorem t_M_ok : ∀ k, k < 10 → parseFieldDescriptor (F_M k).2.2.1 = some (t_M k) := by decide +kernel
theorem i_M : ∀ w ∈ u_ws "ShockTubeModel" F_M 10, w ∈ wd := by decide +kernel
abbrev classes : List vw_C := [("ShockTube", F_X, 3), ("ShockTube$Laws", F_Laws, 4), ("ShockTube$Pipe", F_Pipe, 13), ("ShockTube$Row", F_Row, 6), ("ShockTube$State", F_State, 4), ("ShockTube$Step", F_Step, 8), ("ShockTube$Story", F_Story, 4), ("ShockTube$Tube", F_Tube, 10), ("ShockTubeModel", F_M, 10)]
def nestw : List Cond := [Cond.methodLinkNest "ShockTube" 9 y_State_init "ShockTube", Cond.methodLinkNest "ShockTube$Tube" 11 y_Laws_init "ShockTube", Cond.methodLinkNest "ShockTube$State" 18 y_Story_init "ShockTube", Cond.methodLinkNest "ShockTube$State" 25 y_Row_init "ShockTube", Cond.methodLinkNest "ShockTube$State" 32 y_Pipe_init "ShockTube", Cond.methodLinkNest "ShockTube" 18 y_Step_init "ShockTube", Cond.methodLinkNest "ShockTube$Tube" 91 y_X_copyRow_1 "ShockTube", Cond.methodLinkNest "ShockTube$Tube" 95 y_X_copyRow_0 "ShockTube", Cond.fieldLinkNest "ShockTube$Laws" 41 "ShockTube" "PRESSURE_TIMES" "[I" "ShockTube", Cond.fieldLinkNest "ShockTube$Laws" 45 "ShockTube" "PRESSURE_PARTS" "[I" "ShockTube", Cond.fieldLinkNest "ShockTube$Laws" 48 "ShockTube" "SOUND_TIMES" "[I" "ShockTube", Cond.fieldLinkNest "ShockTube$Laws" 53 "ShockTube" "SOUND_PARTS" "[I" "ShockTube", Cond.methodLinkNest "ShockTube$Step" 165 y_X_copyRow_1 "ShockTube", Cond.methodLinkNest "ShockTube$Pipe" 103 y_X_copyRow_1 "ShockTube", Cond.methodLinkNest "ShockTube$Row" 85 y_X_copyRow_0 "ShockTube"]
def strsw : List (String × Nat × String) := [("ShockTube", 33, "a tube has 2 to 32 cells and ends that are OPEN or a WALL"), ("ShockTube", 57, "the gas is AIR, HELIUM or STEAM"), ("ShockTube", 241, "there is no such cell"), ("ShockTube", 81, "a cell with a part out of its range"), ("ShockTube", 89, "the cell would move with more energy than it has"), ("ShockTube", 97, "an ignition with a part out of its range"), ("ShockTube", 102, "t is 1 to 400, and steps are 1 to 50"), ("ShockTube", 107, "a tube does at most 300 steps"), ("ShockTube", 243, "nothing is told under this number"), ("ShockTube", 154, "a front with a part out of its range"), ("ShockTube", 165, "there are at most 8 fronts"), ("ShockTube", 245, "ticks are 1 to 100"), ("ShockTube", 185, "there are not so many fronts"), ("ShockTube", 191, "a pipe with a part out of its range"), ("ShockTube", 209, "a valve is open by 0 to 100"), ("ShockTube", 247, "there is no pipe"), ("ShockTube", 217, "the reservoir has a head of 0 to 2000"), ("ShockTube", 229, "there is no such node"), ("ShockTube", 249, "slots are 0 to 3"), ("ShockTube", 239, "nothing was kept there")]
