/-! names: the words of the tables by their places, the classes and their fields, the methods, their code -/
def gdw (w : Cond) : Bool := (w.onTables && w.keeps) || (match w with | .arrayClass _ => true | _ => false)
def wd : List Cond := lw_tbl.filter gdw
theorem wd_in {i : Nat} {w : Cond} (h : tables_1[i]? = some w) (hg : gdw w = true) : w ∈ wd := List.mem_filter.mpr ⟨List.mem_append_right _ (List.mem_of_getElem? h), hg⟩
theorem wd_sel {i : Nat} {w : Cond} (h : (k2_sels lw_privs)[i]? = some w) (hg : gdw w = true) : w ∈ wd := List.mem_filter.mpr ⟨List.mem_append_left _ (List.mem_of_getElem? h), hg⟩
abbrev y_X_init : MethodName := ⟨"ShockTube", "<init>", "()V"⟩
abbrev b_X_init : ByteArray := prog_1_method_1_code
abbrev y_X_shape : MethodName := ⟨"ShockTube", "shape", "(III)V"⟩
abbrev b_X_shape : ByteArray := prog_1_method_2_code
abbrev y_X_gas : MethodName := ⟨"ShockTube", "gas", "(I)V"⟩
abbrev b_X_gas : ByteArray := prog_1_method_3_code
abbrev y_X_cell : MethodName := ⟨"ShockTube", "cell", "(IIIII)V"⟩
abbrev b_X_cell : ByteArray := prog_1_method_4_code
abbrev y_X_ignition : MethodName := ⟨"ShockTube", "ignition", "(III)V"⟩
abbrev b_X_ignition : ByteArray := prog_1_method_5_code
abbrev y_X_step : MethodName := ⟨"ShockTube", "step", "(II)I"⟩
abbrev b_X_step : ByteArray := prog_1_method_6_code
abbrev y_X_tube : MethodName := ⟨"ShockTube", "tube", "(II)I"⟩
abbrev b_X_tube : ByteArray := prog_1_method_7_code
abbrev y_X_anew : MethodName := ⟨"ShockTube", "anew", "(II)I"⟩
abbrev b_X_anew : ByteArray := prog_1_method_8_code
abbrev y_X_isKept : MethodName := ⟨"ShockTube", "isKept", "(I)Z"⟩
abbrev b_X_isKept : ByteArray := prog_1_method_11_code
abbrev y_X_steps : MethodName := ⟨"ShockTube", "steps", "()I"⟩
abbrev b_X_steps : ByteArray := prog_1_method_13_code
abbrev y_X_front : MethodName := ⟨"ShockTube", "front", "(IIII)I"⟩
abbrev b_X_front : ByteArray := prog_1_method_14_code
abbrev y_X_tick : MethodName := ⟨"ShockTube", "tick", "(I)I"⟩
abbrev b_X_tick : ByteArray := prog_1_method_15_code
abbrev y_X_fronts : MethodName := ⟨"ShockTube", "fronts", "()I"⟩
abbrev b_X_fronts : ByteArray := prog_1_method_16_code
abbrev y_X_pipe : MethodName := ⟨"ShockTube", "pipe", "(IIIIII)V"⟩
abbrev b_X_pipe : ByteArray := prog_1_method_18_code
abbrev y_X_valve : MethodName := ⟨"ShockTube", "valve", "(I)I"⟩
abbrev b_X_valve : ByteArray := prog_1_method_19_code
abbrev y_X_flow : MethodName := ⟨"ShockTube", "flow", "(I)I"⟩
abbrev b_X_flow : ByteArray := prog_1_method_21_code
abbrev y_X_node : MethodName := ⟨"ShockTube", "node", "(II)I"⟩
abbrev b_X_node : ByteArray := prog_1_method_22_code
abbrev y_X_keep : MethodName := ⟨"ShockTube", "keep", "(I)V"⟩
abbrev b_X_keep : ByteArray := prog_1_method_23_code
abbrev y_X_goBack : MethodName := ⟨"ShockTube", "goBack", "(I)V"⟩
abbrev b_X_goBack : ByteArray := prog_1_method_24_code
abbrev y_X_refuseCell : MethodName := ⟨"ShockTube", "refuseCell", "(I)V"⟩
abbrev b_X_refuseCell : ByteArray := prog_1_method_25_code
abbrev y_X_refuseWhat : MethodName := ⟨"ShockTube", "refuseWhat", "(II)V"⟩
abbrev b_X_refuseWhat : ByteArray := prog_1_method_26_code
abbrev y_X_refuseTicks : MethodName := ⟨"ShockTube", "refuseTicks", "(I)V"⟩
abbrev b_X_refuseTicks : ByteArray := prog_1_method_27_code
abbrev y_X_refuseNoPipe : MethodName := ⟨"ShockTube", "refuseNoPipe", "()V"⟩
abbrev b_X_refuseNoPipe : ByteArray := prog_1_method_28_code
abbrev y_X_refuseSlot : MethodName := ⟨"ShockTube", "refuseSlot", "(I)V"⟩
abbrev b_X_refuseSlot : ByteArray := prog_1_method_29_code
abbrev y_X_isFrom : MethodName := ⟨"ShockTube", "isFrom", "(III)Z"⟩
abbrev b_X_isFrom : ByteArray := prog_1_method_30_code
abbrev y_X_toInt : MethodName := ⟨"ShockTube", "toInt", "(J)I"⟩
abbrev b_X_toInt : ByteArray := prog_1_method_31_code
abbrev y_X_copyRow_1 : MethodName := ⟨"ShockTube", "copyRow", "([J[J)V"⟩
abbrev b_X_copyRow_1 : ByteArray := prog_1_method_32_code
abbrev y_X_copyRow_0 : MethodName := ⟨"ShockTube", "copyRow", "([I[I)V"⟩
abbrev b_X_copyRow_0 : ByteArray := prog_1_method_33_code
abbrev y_Laws_init : MethodName := ⟨"ShockTube$Laws", "<init>", "()V"⟩
abbrev b_Laws_init : ByteArray := prog_2_method_1_code
abbrev y_Laws_ignite : MethodName := ⟨"ShockTube$Laws", "ignite", "(III)V"⟩
abbrev b_Laws_ignite : ByteArray := prog_2_method_2_code
abbrev y_Laws_copyFrom : MethodName := ⟨"ShockTube$Laws", "copyFrom", "(LShockTube$Laws;)V"⟩
abbrev b_Laws_copyFrom : ByteArray := prog_2_method_3_code
abbrev y_Laws_within : MethodName := ⟨"ShockTube$Laws", "within", "(JJJ)J"⟩
abbrev b_Laws_within : ByteArray := prog_2_method_4_code
abbrev y_Laws_speed : MethodName := ⟨"ShockTube$Laws", "speed", "(JJ)J"⟩
abbrev b_Laws_speed : ByteArray := prog_2_method_5_code
abbrev y_Laws_temperature : MethodName := ⟨"ShockTube$Laws", "temperature", "(JJ)J"⟩
abbrev b_Laws_temperature : ByteArray := prog_2_method_6_code
abbrev y_Laws_pressure : MethodName := ⟨"ShockTube$Laws", "pressure", "(J)J"⟩
abbrev b_Laws_pressure : ByteArray := prog_2_method_7_code
abbrev y_Laws_sound : MethodName := ⟨"ShockTube$Laws", "sound", "(JJ)J"⟩
abbrev b_Laws_sound : ByteArray := prog_2_method_8_code
abbrev y_Laws_root : MethodName := ⟨"ShockTube$Laws", "root", "(J)J"⟩
abbrev b_Laws_root : ByteArray := prog_2_method_9_code
abbrev y_Laws_burns : MethodName := ⟨"ShockTube$Laws", "burns", "(JJJ)J"⟩
abbrev b_Laws_burns : ByteArray := prog_2_method_10_code
abbrev y_Pipe_init : MethodName := ⟨"ShockTube$Pipe", "<init>", "()V"⟩
abbrev b_Pipe_init : ByteArray := prog_3_method_1_code
abbrev y_Pipe_begin : MethodName := ⟨"ShockTube$Pipe", "begin", "(III)V"⟩
abbrev b_Pipe_begin : ByteArray := prog_3_method_2_code
abbrev y_Pipe_isTicked : MethodName := ⟨"ShockTube$Pipe", "isTicked", "()Z"⟩
abbrev b_Pipe_isTicked : ByteArray := prog_3_method_3_code
abbrev y_Pipe_fromLeft : MethodName := ⟨"ShockTube$Pipe", "fromLeft", "(I)J"⟩
abbrev b_Pipe_fromLeft : ByteArray := prog_3_method_4_code
abbrev y_Pipe_fromRight : MethodName := ⟨"ShockTube$Pipe", "fromRight", "(I)J"⟩
abbrev b_Pipe_fromRight : ByteArray := prog_3_method_5_code
abbrev y_Pipe_rubbed : MethodName := ⟨"ShockTube$Pipe", "rubbed", "(I)J"⟩
abbrev b_Pipe_rubbed : ByteArray := prog_3_method_6_code
abbrev y_Pipe_findReservoir : MethodName := ⟨"ShockTube$Pipe", "findReservoir", "()V"⟩
abbrev b_Pipe_findReservoir : ByteArray := prog_3_method_7_code
abbrev y_Pipe_findBetween : MethodName := ⟨"ShockTube$Pipe", "findBetween", "(I)V"⟩
abbrev b_Pipe_findBetween : ByteArray := prog_3_method_8_code
abbrev y_Pipe_findValve : MethodName := ⟨"ShockTube$Pipe", "findValve", "()V"⟩
abbrev b_Pipe_findValve : ByteArray := prog_3_method_9_code
abbrev y_Pipe_findCavity : MethodName := ⟨"ShockTube$Pipe", "findCavity", "(IJJ)V"⟩
abbrev b_Pipe_findCavity : ByteArray := prog_3_method_10_code
abbrev y_Pipe_isAllowed : MethodName := ⟨"ShockTube$Pipe", "isAllowed", "(I)Z"⟩
abbrev b_Pipe_isAllowed : ByteArray := prog_3_method_11_code
abbrev y_Pipe_take : MethodName := ⟨"ShockTube$Pipe", "take", "()V"⟩
abbrev b_Pipe_take : ByteArray := prog_3_method_12_code
abbrev y_Pipe_tells : MethodName := ⟨"ShockTube$Pipe", "tells", "(II)J"⟩
abbrev b_Pipe_tells : ByteArray := prog_3_method_13_code
abbrev y_Pipe_copyFrom : MethodName := ⟨"ShockTube$Pipe", "copyFrom", "(LShockTube$Pipe;)V"⟩
abbrev b_Pipe_copyFrom : ByteArray := prog_3_method_14_code
abbrev y_Row_init : MethodName := ⟨"ShockTube$Row", "<init>", "()V"⟩
abbrev b_Row_init : ByteArray := prog_4_method_1_code
abbrev y_Row_placeFor : MethodName := ⟨"ShockTube$Row", "placeFor", "(I)I"⟩
abbrev b_Row_placeFor : ByteArray := prog_4_method_2_code
abbrev y_Row_putIn : MethodName := ⟨"ShockTube$Row", "putIn", "(IIIII)V"⟩
abbrev b_Row_putIn : ByteArray := prog_4_method_3_code
abbrev y_Row_takeOut : MethodName := ⟨"ShockTube$Row", "takeOut", "(I)V"⟩
abbrev b_Row_takeOut : ByteArray := prog_4_method_4_code
abbrev y_Row_copyFront : MethodName := ⟨"ShockTube$Row", "copyFront", "(II)V"⟩
abbrev b_Row_copyFront : ByteArray := prog_4_method_5_code
abbrev y_Row_move : MethodName := ⟨"ShockTube$Row", "move", "()V"⟩
abbrev b_Row_move : ByteArray := prog_4_method_6_code
abbrev y_Row_turn : MethodName := ⟨"ShockTube$Row", "turn", "(I)V"⟩
abbrev b_Row_turn : ByteArray := prog_4_method_7_code
abbrev y_Row_meetAll : MethodName := ⟨"ShockTube$Row", "meetAll", "()V"⟩
abbrev b_Row_meetAll : ByteArray := prog_4_method_8_code
abbrev y_Row_isMeeting : MethodName := ⟨"ShockTube$Row", "isMeeting", "(I)Z"⟩
abbrev b_Row_isMeeting : ByteArray := prog_4_method_9_code
abbrev y_Row_meet : MethodName := ⟨"ShockTube$Row", "meet", "(I)I"⟩
abbrev b_Row_meet : ByteArray := prog_4_method_10_code
abbrev y_Row_setPlace : MethodName := ⟨"ShockTube$Row", "setPlace", "(II)V"⟩
abbrev b_Row_setPlace : ByteArray := prog_4_method_11_code
abbrev y_Row_meetShocks : MethodName := ⟨"ShockTube$Row", "meetShocks", "(I)I"⟩
abbrev b_Row_meetShocks : ByteArray := prog_4_method_12_code
abbrev y_Row_merge : MethodName := ⟨"ShockTube$Row", "merge", "(I)V"⟩
abbrev b_Row_merge : ByteArray := prog_4_method_13_code
abbrev y_Row_goThroughOther : MethodName := ⟨"ShockTube$Row", "goThroughOther", "(I)I"⟩
abbrev b_Row_goThroughOther : ByteArray := prog_4_method_14_code
abbrev y_Row_held : MethodName := ⟨"ShockTube$Row", "held", "(I)I"⟩
abbrev b_Row_held : ByteArray := prog_4_method_15_code
abbrev y_Row_changePlaces : MethodName := ⟨"ShockTube$Row", "changePlaces", "(I)V"⟩
abbrev b_Row_changePlaces : ByteArray := prog_4_method_16_code
abbrev y_Row_copyFrom : MethodName := ⟨"ShockTube$Row", "copyFrom", "(LShockTube$Row;)V"⟩
abbrev b_Row_copyFrom : ByteArray := prog_4_method_18_code
abbrev y_State_init : MethodName := ⟨"ShockTube$State", "<init>", "()V"⟩
abbrev b_State_init : ByteArray := prog_5_method_1_code
abbrev y_State_copyFrom : MethodName := ⟨"ShockTube$State", "copyFrom", "(LShockTube$State;)V"⟩
abbrev b_State_copyFrom : ByteArray := prog_5_method_2_code
abbrev y_Step_init : MethodName := ⟨"ShockTube$Step", "<init>", "()V"⟩
abbrev b_Step_init : ByteArray := prog_6_method_1_code
abbrev y_Step_isDone : MethodName := ⟨"ShockTube$Step", "isDone", "(LShockTube$Tube;I)Z"⟩
abbrev b_Step_isDone : ByteArray := prog_6_method_2_code
abbrev y_Step_lookAtCells : MethodName := ⟨"ShockTube$Step", "lookAtCells", "(LShockTube$Tube;)V"⟩
abbrev b_Step_lookAtCells : ByteArray := prog_6_method_3_code
abbrev y_Step_isSlowEnough : MethodName := ⟨"ShockTube$Step", "isSlowEnough", "(LShockTube$Tube;I)Z"⟩
abbrev b_Step_isSlowEnough : ByteArray := prog_6_method_4_code
abbrev y_Step_paceAt : MethodName := ⟨"ShockTube$Step", "paceAt", "(LShockTube$Tube;I)J"⟩
abbrev b_Step_paceAt : ByteArray := prog_6_method_5_code
abbrev y_Step_leftOf : MethodName := ⟨"ShockTube$Step", "leftOf", "(I)I"⟩
abbrev b_Step_leftOf : ByteArray := prog_6_method_6_code
abbrev y_Step_rightOf : MethodName := ⟨"ShockTube$Step", "rightOf", "(LShockTube$Tube;I)I"⟩
abbrev b_Step_rightOf : ByteArray := prog_6_method_7_code
abbrev y_Step_findBorder : MethodName := ⟨"ShockTube$Step", "findBorder", "(LShockTube$Tube;II)V"⟩
abbrev b_Step_findBorder : ByteArray := prog_6_method_8_code
abbrev y_Step_findWall : MethodName := ⟨"ShockTube$Step", "findWall", "(LShockTube$Tube;II)V"⟩
abbrev b_Step_findWall : ByteArray := prog_6_method_9_code
abbrev y_Step_goes : MethodName := ⟨"ShockTube$Step", "goes", "(IIJJ)J"⟩
abbrev b_Step_goes : ByteArray := prog_6_method_10_code
abbrev y_Step_fuelGoes : MethodName := ⟨"ShockTube$Step", "fuelGoes", "(LShockTube$Tube;IIJ)J"⟩
abbrev b_Step_fuelGoes : ByteArray := prog_6_method_11_code
abbrev y_Step_fuelWith : MethodName := ⟨"ShockTube$Step", "fuelWith", "(LShockTube$Tube;IJ)J"⟩
abbrev b_Step_fuelWith : ByteArray := prog_6_method_12_code
abbrev y_Step_isFound : MethodName := ⟨"ShockTube$Step", "isFound", "(LShockTube$Tube;I)Z"⟩
abbrev b_Step_isFound : ByteArray := prog_6_method_13_code
abbrev y_Step_isAllowed : MethodName := ⟨"ShockTube$Step", "isAllowed", "(I)Z"⟩
abbrev b_Step_isAllowed : ByteArray := prog_6_method_14_code
abbrev y_Step_pressureNext : MethodName := ⟨"ShockTube$Step", "pressureNext", "(LShockTube$Tube;I)J"⟩
abbrev b_Step_pressureNext : ByteArray := prog_6_method_15_code
abbrev y_Step_take : MethodName := ⟨"ShockTube$Step", "take", "(LShockTube$Tube;)V"⟩
abbrev b_Step_take : ByteArray := prog_6_method_16_code
abbrev y_Story_init : MethodName := ⟨"ShockTube$Story", "<init>", "()V"⟩
abbrev b_Story_init : ByteArray := prog_7_method_1_code
abbrev y_Story_begin : MethodName := ⟨"ShockTube$Story", "begin", "(LShockTube$Tube;)V"⟩
abbrev b_Story_begin : ByteArray := prog_7_method_2_code
abbrev y_Story_note : MethodName := ⟨"ShockTube$Story", "note", "(IIIIII)V"⟩
abbrev b_Story_note : ByteArray := prog_7_method_3_code
abbrev y_Story_goOn : MethodName := ⟨"ShockTube$Story", "goOn", "(LShockTube$Step;)V"⟩
abbrev b_Story_goOn : ByteArray := prog_7_method_4_code
abbrev y_Story_goThrough : MethodName := ⟨"ShockTube$Story", "goThrough", "(ILShockTube$Step;)V"⟩
abbrev b_Story_goThrough : ByteArray := prog_7_method_5_code
abbrev y_Story_copyFrom : MethodName := ⟨"ShockTube$Story", "copyFrom", "(LShockTube$Story;)V"⟩
abbrev b_Story_copyFrom : ByteArray := prog_7_method_6_code
abbrev y_Tube_init : MethodName := ⟨"ShockTube$Tube", "<init>", "()V"⟩
abbrev b_Tube_init : ByteArray := prog_8_method_1_code
abbrev y_Tube_begin : MethodName := ⟨"ShockTube$Tube", "begin", "(III)V"⟩
abbrev b_Tube_begin : ByteArray := prog_8_method_2_code
abbrev y_Tube_clear : MethodName := ⟨"ShockTube$Tube", "clear", "(I)V"⟩
abbrev b_Tube_clear : ByteArray := prog_8_method_3_code
abbrev y_Tube_tell : MethodName := ⟨"ShockTube$Tube", "tell", "(IIIII)V"⟩
abbrev b_Tube_tell : ByteArray := prog_8_method_4_code
abbrev y_Tube_tellPart : MethodName := ⟨"ShockTube$Tube", "tellPart", "(IIJ)V"⟩
abbrev b_Tube_tellPart : ByteArray := prog_8_method_5_code
abbrev y_Tube_isWall : MethodName := ⟨"ShockTube$Tube", "isWall", "(I)Z"⟩
abbrev b_Tube_isWall : ByteArray := prog_8_method_6_code
abbrev y_Tube_pressure : MethodName := ⟨"ShockTube$Tube", "pressure", "(I)J"⟩
abbrev b_Tube_pressure : ByteArray := prog_8_method_7_code
abbrev y_Tube_tells : MethodName := ⟨"ShockTube$Tube", "tells", "(II)J"⟩
abbrev b_Tube_tells : ByteArray := prog_8_method_8_code
abbrev y_Tube_isBalanced : MethodName := ⟨"ShockTube$Tube", "isBalanced", "(I)Z"⟩
abbrev b_Tube_isBalanced : ByteArray := prog_8_method_9_code
abbrev y_Tube_noteProbe : MethodName := ⟨"ShockTube$Tube", "noteProbe", "(IJ)V"⟩
abbrev b_Tube_noteProbe : ByteArray := prog_8_method_10_code
abbrev y_Tube_copyFrom : MethodName := ⟨"ShockTube$Tube", "copyFrom", "(LShockTube$Tube;)V"⟩
abbrev b_Tube_copyFrom : ByteArray := prog_8_method_11_code
abbrev y_L_cell : MethodName := ⟨"ShockTubeLaw", "cell", "([II)I"⟩
abbrev b_L_cell : ByteArray := method_2_code
abbrev y_L_low : MethodName := ⟨"ShockTubeLaw", "low", "(II)I"⟩
abbrev b_L_low : ByteArray := method_3_code
abbrev y_Exception_init : MethodName := ⟨"java/lang/Exception", "<init>", "(Ljava/lang/String;)V"⟩
abbrev b_Exception_init : ByteArray := prog_11_method_2_code
abbrev y_IllegalArgumentException_init : MethodName := ⟨"java/lang/IllegalArgumentException", "<init>", "(Ljava/lang/String;)V"⟩
abbrev b_IllegalArgumentException_init : ByteArray := prog_12_method_2_code
abbrev y_IllegalStateException_init : MethodName := ⟨"java/lang/IllegalStateException", "<init>", "(Ljava/lang/String;)V"⟩
abbrev b_IllegalStateException_init : ByteArray := prog_13_method_2_code
abbrev y_IndexOutOfBoundsException_init : MethodName := ⟨"java/lang/IndexOutOfBoundsException", "<init>", "(Ljava/lang/String;)V"⟩
abbrev b_IndexOutOfBoundsException_init : ByteArray := prog_14_method_2_code
abbrev y_Math_abs_0 : MethodName := ⟨"java/lang/Math", "abs", "(I)I"⟩
abbrev b_Math_abs_0 : ByteArray := prog_15_method_59_code
abbrev y_Math_abs_1 : MethodName := ⟨"java/lang/Math", "abs", "(J)J"⟩
abbrev b_Math_abs_1 : ByteArray := prog_15_method_61_code
abbrev y_Math_floorDiv : MethodName := ⟨"java/lang/Math", "floorDiv", "(JJ)J"⟩
abbrev b_Math_floorDiv : ByteArray := prog_15_method_49_code
abbrev y_Math_max_0 : MethodName := ⟨"java/lang/Math", "max", "(II)I"⟩
abbrev b_Math_max_0 : ByteArray := prog_15_method_65_code
abbrev y_Math_max_1 : MethodName := ⟨"java/lang/Math", "max", "(JJ)J"⟩
abbrev b_Math_max_1 : ByteArray := prog_15_method_66_code
abbrev y_Math_min_0 : MethodName := ⟨"java/lang/Math", "min", "(II)I"⟩
abbrev b_Math_min_0 : ByteArray := prog_15_method_69_code
abbrev y_Math_min_1 : MethodName := ⟨"java/lang/Math", "min", "(JJ)J"⟩
abbrev b_Math_min_1 : ByteArray := prog_15_method_70_code
abbrev y_RuntimeException_init : MethodName := ⟨"java/lang/RuntimeException", "<init>", "(Ljava/lang/String;)V"⟩
abbrev b_RuntimeException_init : ByteArray := prog_16_method_2_code
abbrev y_System_arraycopy : MethodName := ⟨"java/lang/System", "arraycopy", "(Ljava/lang/Object;ILjava/lang/Object;II)V"⟩
abbrev y_Throwable_init : MethodName := ⟨"java/lang/Throwable", "<init>", "(Ljava/lang/String;)V"⟩
abbrev b_Throwable_init : ByteArray := prog_19_method_2_code
theorem x_0 : Jvm.Cond.initialized "ShockTubeLaw" ∈ wd := wd_in (i := 0) (by decide +kernel) (by decide +kernel)
theorem x_1 : Jvm.Cond.initialized "ShockTube" ∈ wd := wd_in (i := 1) (by decide +kernel) (by decide +kernel)
theorem x_2 : Jvm.Cond.initialized "ShockTube$State" ∈ wd := wd_in (i := 2) (by decide +kernel) (by decide +kernel)
theorem x_3 : Jvm.Cond.initialized "ShockTube$Tube" ∈ wd := wd_in (i := 3) (by decide +kernel) (by decide +kernel)
theorem x_4 : Jvm.Cond.initialized "ShockTube$Laws" ∈ wd := wd_in (i := 4) (by decide +kernel) (by decide +kernel)
theorem x_5 : Jvm.Cond.initialized "ShockTube$Story" ∈ wd := wd_in (i := 5) (by decide +kernel) (by decide +kernel)
theorem x_6 : Jvm.Cond.initialized "ShockTube$Row" ∈ wd := wd_in (i := 6) (by decide +kernel) (by decide +kernel)
theorem x_7 : Jvm.Cond.initialized "ShockTube$Pipe" ∈ wd := wd_in (i := 7) (by decide +kernel) (by decide +kernel)
theorem x_8 : Jvm.Cond.initialized "ShockTube$Step" ∈ wd := wd_in (i := 8) (by decide +kernel) (by decide +kernel)
theorem x_9 : Jvm.Cond.initialized "java/lang/Throwable" ∈ wd := wd_in (i := 9) (by decide +kernel) (by decide +kernel)
theorem x_10 : Jvm.Cond.initialized "java/lang/Exception" ∈ wd := wd_in (i := 10) (by decide +kernel) (by decide +kernel)
theorem x_11 : Jvm.Cond.initialized "java/lang/RuntimeException" ∈ wd := wd_in (i := 11) (by decide +kernel) (by decide +kernel)
theorem x_12 : Jvm.Cond.initialized "java/lang/IllegalArgumentException" ∈ wd := wd_in (i := 12) (by decide +kernel) (by decide +kernel)
theorem x_13 : Jvm.Cond.initialized "java/lang/Math" ∈ wd := wd_in (i := 13) (by decide +kernel) (by decide +kernel)
theorem x_14 : Jvm.Cond.initialized "java/lang/System" ∈ wd := wd_in (i := 14) (by decide +kernel) (by decide +kernel)
theorem x_15 : Jvm.Cond.initialized "java/lang/IndexOutOfBoundsException" ∈ wd := wd_in (i := 15) (by decide +kernel) (by decide +kernel)
theorem x_16 : Jvm.Cond.initialized "java/lang/IllegalStateException" ∈ wd := wd_in (i := 16) (by decide +kernel) (by decide +kernel)
theorem x_17 : Jvm.Cond.classLink "ShockTubeLaw" 8 "ShockTube" ∈ wd := wd_in (i := 17) (by decide +kernel) (by decide +kernel)
theorem x_18 : Jvm.Cond.instantiable "ShockTube" 3 ∈ wd := wd_in (i := 18) (by decide +kernel) (by decide +kernel)
theorem x_19 : Jvm.Cond.methodLink "ShockTubeLaw" 10 y_X_init ∈ wd := wd_in (i := 19) (by decide +kernel) (by decide +kernel)
theorem x_20 : Jvm.Cond.instanceMethod y_X_init ∈ wd := wd_in (i := 20) (by decide +kernel) (by decide +kernel)
theorem x_21 : Jvm.Cond.code y_X_init prog_1_method_1_code 1 (Option.none : Option Jvm.ClassFile.FieldType) ∈ wd := wd_in (i := 21) (by decide +kernel) (by decide +kernel)
theorem x_22 : Jvm.Cond.methodLink "ShockTube" 1 ⟨"java/lang/Object", "<init>", "()V"⟩ ∈ wd := wd_in (i := 22) (by decide +kernel) (by decide +kernel)
theorem x_23 : Jvm.Cond.instanceMethod ⟨"java/lang/Object", "<init>", "()V"⟩ ∈ wd := wd_in (i := 23) (by decide +kernel) (by decide +kernel)
theorem x_24 : Jvm.Cond.code ⟨"java/lang/Object", "<init>", "()V"⟩ object_method_1_code 1 (Option.none : Option Jvm.ClassFile.FieldType) ∈ wd := wd_in (i := 24) (by decide +kernel) (by decide +kernel)
theorem x_25 : Jvm.Cond.classLink "ShockTube" 7 "ShockTube$State" ∈ wd := wd_in (i := 25) (by decide +kernel) (by decide +kernel)
theorem x_26 : Jvm.Cond.instantiable "ShockTube$State" 4 ∈ wd := wd_in (i := 26) (by decide +kernel) (by decide +kernel)
theorem x_28 : Jvm.Cond.instanceMethod y_State_init ∈ wd := wd_in (i := 28) (by decide +kernel) (by decide +kernel)
theorem x_29 : Jvm.Cond.code y_State_init prog_5_method_1_code 1 (Option.none : Option Jvm.ClassFile.FieldType) ∈ wd := wd_in (i := 29) (by decide +kernel) (by decide +kernel)
theorem x_30 : Jvm.Cond.methodLink "ShockTube$State" 1 ⟨"java/lang/Object", "<init>", "()V"⟩ ∈ wd := wd_in (i := 30) (by decide +kernel) (by decide +kernel)
theorem x_31 : Jvm.Cond.classLink "ShockTube$State" 7 "ShockTube$Tube" ∈ wd := wd_in (i := 31) (by decide +kernel) (by decide +kernel)
theorem x_32 : Jvm.Cond.instantiable "ShockTube$Tube" 10 ∈ wd := wd_in (i := 32) (by decide +kernel) (by decide +kernel)
theorem x_33 : Jvm.Cond.methodLink "ShockTube$State" 9 y_Tube_init ∈ wd := wd_in (i := 33) (by decide +kernel) (by decide +kernel)
theorem x_34 : Jvm.Cond.instanceMethod y_Tube_init ∈ wd := wd_in (i := 34) (by decide +kernel) (by decide +kernel)
theorem x_35 : Jvm.Cond.code y_Tube_init prog_8_method_1_code 1 (Option.none : Option Jvm.ClassFile.FieldType) ∈ wd := wd_in (i := 35) (by decide +kernel) (by decide +kernel)
theorem x_36 : Jvm.Cond.methodLink "ShockTube$Tube" 3 ⟨"java/lang/Object", "<init>", "()V"⟩ ∈ wd := wd_in (i := 36) (by decide +kernel) (by decide +kernel)
theorem x_37 : Jvm.Cond.classLink "ShockTube$Tube" 9 "ShockTube$Laws" ∈ wd := wd_in (i := 37) (by decide +kernel) (by decide +kernel)
theorem x_38 : Jvm.Cond.instantiable "ShockTube$Laws" 4 ∈ wd := wd_in (i := 38) (by decide +kernel) (by decide +kernel)
theorem x_40 : Jvm.Cond.instanceMethod y_Laws_init ∈ wd := wd_in (i := 40) (by decide +kernel) (by decide +kernel)
theorem x_41 : Jvm.Cond.code y_Laws_init prog_2_method_1_code 1 (Option.none : Option Jvm.ClassFile.FieldType) ∈ wd := wd_in (i := 41) (by decide +kernel) (by decide +kernel)
theorem x_42 : Jvm.Cond.methodLink "ShockTube$Laws" 3 ⟨"java/lang/Object", "<init>", "()V"⟩ ∈ wd := wd_in (i := 42) (by decide +kernel) (by decide +kernel)
theorem x_43 : Jvm.Cond.constant "ShockTube$Laws" 15 (100000 : Int32) ∈ wd := wd_in (i := 43) (by decide +kernel) (by decide +kernel)
theorem x_44 : Jvm.Cond.fieldLink "ShockTube$Laws" 9 "ShockTube$Laws" "gas" "I" ∈ wd := wd_in (i := 44) (by decide +kernel) (by decide +kernel)
theorem x_45 : Jvm.Cond.fieldLink "ShockTube" 63 "ShockTube$Laws" "gas" "I" ∈ wd := wd_in (i := 45) (by decide +kernel) (by decide +kernel)
theorem x_46 : Jvm.Cond.fieldLink "ShockTube$Story" 45 "ShockTube$Laws" "gas" "I" ∈ wd := wd_in (i := 46) (by decide +kernel) (by decide +kernel)
theorem x_47 : Jvm.Cond.fieldLink "ShockTube$Laws" 16 "ShockTube$Laws" "ignition" "I" ∈ wd := wd_in (i := 47) (by decide +kernel) (by decide +kernel)
theorem x_48 : Jvm.Cond.fieldLink "ShockTube$Laws" 19 "ShockTube$Laws" "part" "I" ∈ wd := wd_in (i := 48) (by decide +kernel) (by decide +kernel)
theorem x_49 : Jvm.Cond.fieldLink "ShockTube$Laws" 22 "ShockTube$Laws" "heat" "I" ∈ wd := wd_in (i := 49) (by decide +kernel) (by decide +kernel)
theorem x_50 : Jvm.Cond.fieldLink "ShockTube$Step" 150 "ShockTube$Laws" "heat" "I" ∈ wd := wd_in (i := 50) (by decide +kernel) (by decide +kernel)
theorem x_59 : Jvm.Cond.superclass "ShockTube$Laws" "java/lang/Object" ∈ wd := wd_in (i := 59) (by decide +kernel) (by decide +kernel)
theorem x_60 : Jvm.Cond.classLink "ShockTube$Tube" 18 "[[J" ∈ wd := wd_in (i := 60) (by decide +kernel) (by decide +kernel)
theorem x_62 : Jvm.Cond.methodLink "ShockTube$Tube" 37 y_Tube_begin ∈ wd := wd_in (i := 62) (by decide +kernel) (by decide +kernel)
theorem x_63 : Jvm.Cond.instanceMethod y_Tube_begin ∈ wd := wd_in (i := 63) (by decide +kernel) (by decide +kernel)
theorem x_64 : Jvm.Cond.selects "ShockTube$Tube" y_Tube_begin y_Tube_begin ∈ wd := wd_in (i := 64) (by decide +kernel) (by decide +kernel)
theorem x_65 : Jvm.Cond.code y_Tube_begin prog_8_method_2_code 5 (Option.none : Option Jvm.ClassFile.FieldType) ∈ wd := wd_in (i := 65) (by decide +kernel) (by decide +kernel)
theorem x_66 : Jvm.Cond.methodLink "ShockTube$Tube" 54 y_Tube_clear ∈ wd := wd_in (i := 66) (by decide +kernel) (by decide +kernel)
theorem x_67 : Jvm.Cond.instanceMethod y_Tube_clear ∈ wd := wd_in (i := 67) (by decide +kernel) (by decide +kernel)
theorem x_68 : Jvm.Cond.selects "ShockTube$Tube" y_Tube_clear y_Tube_clear ∈ wd := wd_in (i := 68) (by decide +kernel) (by decide +kernel)
theorem x_69 : Jvm.Cond.code y_Tube_clear prog_8_method_3_code 3 (Option.none : Option Jvm.ClassFile.FieldType) ∈ wd := wd_in (i := 69) (by decide +kernel) (by decide +kernel)
theorem x_70 : Jvm.Cond.methodLink "ShockTube$Tube" 58 y_Tube_tell ∈ wd := wd_in (i := 70) (by decide +kernel) (by decide +kernel)
theorem x_71 : Jvm.Cond.instanceMethod y_Tube_tell ∈ wd := wd_in (i := 71) (by decide +kernel) (by decide +kernel)
theorem x_72 : Jvm.Cond.selects "ShockTube$Tube" y_Tube_tell y_Tube_tell ∈ wd := wd_in (i := 72) (by decide +kernel) (by decide +kernel)
theorem x_73 : Jvm.Cond.code y_Tube_tell prog_8_method_4_code 6 (Option.none : Option Jvm.ClassFile.FieldType) ∈ wd := wd_in (i := 73) (by decide +kernel) (by decide +kernel)
theorem x_74 : Jvm.Cond.methodLink "ShockTube$Tube" 62 y_Tube_tellPart ∈ wd := wd_in (i := 74) (by decide +kernel) (by decide +kernel)
theorem x_75 : Jvm.Cond.instanceMethod y_Tube_tellPart ∈ wd := wd_in (i := 75) (by decide +kernel) (by decide +kernel)
theorem x_76 : Jvm.Cond.selects "ShockTube$Tube" y_Tube_tellPart y_Tube_tellPart ∈ wd := wd_in (i := 76) (by decide +kernel) (by decide +kernel)
theorem x_77 : Jvm.Cond.code y_Tube_tellPart prog_8_method_5_code 5 (Option.none : Option Jvm.ClassFile.FieldType) ∈ wd := wd_in (i := 77) (by decide +kernel) (by decide +kernel)
theorem x_78 : Jvm.Cond.fieldLink "ShockTube$Tube" 12 "ShockTube$Tube" "laws" "LShockTube$Laws;" ∈ wd := wd_in (i := 78) (by decide +kernel) (by decide +kernel)
theorem x_79 : Jvm.Cond.fieldLink "ShockTube" 59 "ShockTube$Tube" "laws" "LShockTube$Laws;" ∈ wd := wd_in (i := 79) (by decide +kernel) (by decide +kernel)
theorem x_80 : Jvm.Cond.fieldLink "ShockTube$Step" 75 "ShockTube$Tube" "laws" "LShockTube$Laws;" ∈ wd := wd_in (i := 80) (by decide +kernel) (by decide +kernel)
theorem x_81 : Jvm.Cond.fieldLink "ShockTube$Story" 41 "ShockTube$Tube" "laws" "LShockTube$Laws;" ∈ wd := wd_in (i := 81) (by decide +kernel) (by decide +kernel)
theorem x_82 : Jvm.Cond.fieldLink "ShockTube$Tube" 41 "ShockTube$Tube" "many" "I" ∈ wd := wd_in (i := 82) (by decide +kernel) (by decide +kernel)
theorem x_83 : Jvm.Cond.fieldLink "ShockTube$Step" 43 "ShockTube$Tube" "many" "I" ∈ wd := wd_in (i := 83) (by decide +kernel) (by decide +kernel)
theorem x_84 : Jvm.Cond.fieldLink "ShockTube" 151 "ShockTube$Tube" "many" "I" ∈ wd := wd_in (i := 84) (by decide +kernel) (by decide +kernel)
theorem x_85 : Jvm.Cond.fieldLink "ShockTube$Tube" 45 "ShockTube$Tube" "leftEnd" "I" ∈ wd := wd_in (i := 85) (by decide +kernel) (by decide +kernel)
theorem x_86 : Jvm.Cond.fieldLink "ShockTube$Tube" 48 "ShockTube$Tube" "rightEnd" "I" ∈ wd := wd_in (i := 86) (by decide +kernel) (by decide +kernel)
theorem x_87 : Jvm.Cond.fieldLink "ShockTube$Tube" 51 "ShockTube$Tube" "steps" "I" ∈ wd := wd_in (i := 87) (by decide +kernel) (by decide +kernel)
theorem x_88 : Jvm.Cond.fieldLink "ShockTube" 104 "ShockTube$Tube" "steps" "I" ∈ wd := wd_in (i := 88) (by decide +kernel) (by decide +kernel)
theorem x_89 : Jvm.Cond.fieldLink "ShockTube$Step" 162 "ShockTube$Tube" "steps" "I" ∈ wd := wd_in (i := 89) (by decide +kernel) (by decide +kernel)
theorem x_90 : Jvm.Cond.fieldLink "ShockTube$Tube" 20 "ShockTube$Tube" "has" "[[J" ∈ wd := wd_in (i := 90) (by decide +kernel) (by decide +kernel)
theorem x_91 : Jvm.Cond.fieldLink "ShockTube$Step" 63 "ShockTube$Tube" "has" "[[J" ∈ wd := wd_in (i := 91) (by decide +kernel) (by decide +kernel)
theorem x_92 : Jvm.Cond.fieldLink "ShockTube" 132 "ShockTube$Tube" "has" "[[J" ∈ wd := wd_in (i := 92) (by decide +kernel) (by decide +kernel)
theorem x_93 : Jvm.Cond.fieldLink "ShockTube$Tube" 23 "ShockTube$Tube" "told" "[J" ∈ wd := wd_in (i := 93) (by decide +kernel) (by decide +kernel)
theorem x_94 : Jvm.Cond.fieldLink "ShockTube$Tube" 27 "ShockTube$Tube" "came" "[J" ∈ wd := wd_in (i := 94) (by decide +kernel) (by decide +kernel)
theorem x_95 : Jvm.Cond.fieldLink "ShockTube$Step" 169 "ShockTube$Tube" "came" "[J" ∈ wd := wd_in (i := 95) (by decide +kernel) (by decide +kernel)
theorem x_96 : Jvm.Cond.fieldLink "ShockTube$Tube" 30 "ShockTube$Tube" "greatest" "[J" ∈ wd := wd_in (i := 96) (by decide +kernel) (by decide +kernel)
theorem x_97 : Jvm.Cond.fieldLink "ShockTube$Tube" 33 "ShockTube$Tube" "greatestStep" "[I" ∈ wd := wd_in (i := 97) (by decide +kernel) (by decide +kernel)
theorem x_118 : Jvm.Cond.superclass "ShockTube$Tube" "java/lang/Object" ∈ wd := wd_in (i := 118) (by decide +kernel) (by decide +kernel)
theorem x_119 : Jvm.Cond.arrayClass Jvm.ClassFile.FieldType.long ∈ wd := wd_in (i := 119) (by decide +kernel) (by decide +kernel)
theorem x_120 : Jvm.Cond.arrayClass Jvm.ClassFile.FieldType.int ∈ wd := wd_in (i := 120) (by decide +kernel) (by decide +kernel)
theorem x_121 : Jvm.Cond.classLink "ShockTube$State" 16 "ShockTube$Story" ∈ wd := wd_in (i := 121) (by decide +kernel) (by decide +kernel)
theorem x_122 : Jvm.Cond.instantiable "ShockTube$Story" 4 ∈ wd := wd_in (i := 122) (by decide +kernel) (by decide +kernel)
theorem x_124 : Jvm.Cond.instanceMethod y_Story_init ∈ wd := wd_in (i := 124) (by decide +kernel) (by decide +kernel)
theorem x_125 : Jvm.Cond.code y_Story_init prog_7_method_1_code 1 (Option.none : Option Jvm.ClassFile.FieldType) ∈ wd := wd_in (i := 125) (by decide +kernel) (by decide +kernel)
theorem x_126 : Jvm.Cond.methodLink "ShockTube$Story" 3 ⟨"java/lang/Object", "<init>", "()V"⟩ ∈ wd := wd_in (i := 126) (by decide +kernel) (by decide +kernel)
theorem x_127 : Jvm.Cond.classLink "ShockTube$Story" 15 "ShockTube$Tube" ∈ wd := wd_in (i := 127) (by decide +kernel) (by decide +kernel)
theorem x_128 : Jvm.Cond.methodLink "ShockTube$Story" 17 y_Tube_init ∈ wd := wd_in (i := 128) (by decide +kernel) (by decide +kernel)
theorem x_129 : Jvm.Cond.fieldLink "ShockTube$Story" 11 "ShockTube$Story" "notes" "[I" ∈ wd := wd_in (i := 129) (by decide +kernel) (by decide +kernel)
theorem x_130 : Jvm.Cond.fieldLink "ShockTube$Story" 22 "ShockTube$Story" "count" "I" ∈ wd := wd_in (i := 130) (by decide +kernel) (by decide +kernel)
theorem x_131 : Jvm.Cond.fieldLink "ShockTube$Story" 26 "ShockTube$Story" "gone" "I" ∈ wd := wd_in (i := 131) (by decide +kernel) (by decide +kernel)
theorem x_132 : Jvm.Cond.fieldLink "ShockTube$Story" 18 "ShockTube$Story" "anew" "LShockTube$Tube;" ∈ wd := wd_in (i := 132) (by decide +kernel) (by decide +kernel)
theorem x_133 : Jvm.Cond.fieldLink "ShockTube" 129 "ShockTube$Story" "anew" "LShockTube$Tube;" ∈ wd := wd_in (i := 133) (by decide +kernel) (by decide +kernel)
theorem x_142 : Jvm.Cond.superclass "ShockTube$Story" "java/lang/Object" ∈ wd := wd_in (i := 142) (by decide +kernel) (by decide +kernel)
theorem x_143 : Jvm.Cond.classLink "ShockTube$State" 23 "ShockTube$Row" ∈ wd := wd_in (i := 143) (by decide +kernel) (by decide +kernel)
theorem x_144 : Jvm.Cond.instantiable "ShockTube$Row" 6 ∈ wd := wd_in (i := 144) (by decide +kernel) (by decide +kernel)
theorem x_146 : Jvm.Cond.instanceMethod y_Row_init ∈ wd := wd_in (i := 146) (by decide +kernel) (by decide +kernel)
theorem x_147 : Jvm.Cond.code y_Row_init prog_4_method_1_code 1 (Option.none : Option Jvm.ClassFile.FieldType) ∈ wd := wd_in (i := 147) (by decide +kernel) (by decide +kernel)
theorem x_148 : Jvm.Cond.methodLink "ShockTube$Row" 3 ⟨"java/lang/Object", "<init>", "()V"⟩ ∈ wd := wd_in (i := 148) (by decide +kernel) (by decide +kernel)
theorem x_149 : Jvm.Cond.fieldLink "ShockTube$Row" 27 "ShockTube$Row" "count" "I" ∈ wd := wd_in (i := 149) (by decide +kernel) (by decide +kernel)
theorem x_150 : Jvm.Cond.fieldLink "ShockTube" 160 "ShockTube$Row" "count" "I" ∈ wd := wd_in (i := 150) (by decide +kernel) (by decide +kernel)
theorem x_151 : Jvm.Cond.fieldLink "ShockTube$Row" 9 "ShockTube$Row" "kind" "[I" ∈ wd := wd_in (i := 151) (by decide +kernel) (by decide +kernel)
theorem x_152 : Jvm.Cond.fieldLink "ShockTube$Row" 15 "ShockTube$Row" "place" "[I" ∈ wd := wd_in (i := 152) (by decide +kernel) (by decide +kernel)
theorem x_153 : Jvm.Cond.fieldLink "ShockTube$Row" 18 "ShockTube$Row" "ahead" "[I" ∈ wd := wd_in (i := 153) (by decide +kernel) (by decide +kernel)
theorem x_154 : Jvm.Cond.fieldLink "ShockTube$Row" 21 "ShockTube$Row" "speed" "[I" ∈ wd := wd_in (i := 154) (by decide +kernel) (by decide +kernel)
theorem x_155 : Jvm.Cond.fieldLink "ShockTube$Row" 24 "ShockTube$Row" "strength" "[I" ∈ wd := wd_in (i := 155) (by decide +kernel) (by decide +kernel)
theorem x_168 : Jvm.Cond.superclass "ShockTube$Row" "java/lang/Object" ∈ wd := wd_in (i := 168) (by decide +kernel) (by decide +kernel)
theorem x_169 : Jvm.Cond.classLink "ShockTube$State" 30 "ShockTube$Pipe" ∈ wd := wd_in (i := 169) (by decide +kernel) (by decide +kernel)
theorem x_170 : Jvm.Cond.instantiable "ShockTube$Pipe" 13 ∈ wd := wd_in (i := 170) (by decide +kernel) (by decide +kernel)
theorem x_172 : Jvm.Cond.instanceMethod y_Pipe_init ∈ wd := wd_in (i := 172) (by decide +kernel) (by decide +kernel)
theorem x_173 : Jvm.Cond.code y_Pipe_init prog_3_method_1_code 1 (Option.none : Option Jvm.ClassFile.FieldType) ∈ wd := wd_in (i := 173) (by decide +kernel) (by decide +kernel)
theorem x_174 : Jvm.Cond.methodLink "ShockTube$Pipe" 3 ⟨"java/lang/Object", "<init>", "()V"⟩ ∈ wd := wd_in (i := 174) (by decide +kernel) (by decide +kernel)
theorem x_175 : Jvm.Cond.fieldLink "ShockTube$Pipe" 40 "ShockTube$Pipe" "nodes" "I" ∈ wd := wd_in (i := 175) (by decide +kernel) (by decide +kernel)
theorem x_176 : Jvm.Cond.fieldLink "ShockTube" 226 "ShockTube$Pipe" "nodes" "I" ∈ wd := wd_in (i := 176) (by decide +kernel) (by decide +kernel)
theorem x_177 : Jvm.Cond.fieldLink "ShockTube$Pipe" 9 "ShockTube$Pipe" "impedance" "I" ∈ wd := wd_in (i := 177) (by decide +kernel) (by decide +kernel)
theorem x_178 : Jvm.Cond.fieldLink "ShockTube" 197 "ShockTube$Pipe" "impedance" "I" ∈ wd := wd_in (i := 178) (by decide +kernel) (by decide +kernel)
theorem x_179 : Jvm.Cond.fieldLink "ShockTube$Pipe" 70 "ShockTube$Pipe" "friction" "I" ∈ wd := wd_in (i := 179) (by decide +kernel) (by decide +kernel)
theorem x_180 : Jvm.Cond.fieldLink "ShockTube" 202 "ShockTube$Pipe" "friction" "I" ∈ wd := wd_in (i := 180) (by decide +kernel) (by decide +kernel)
theorem x_181 : Jvm.Cond.fieldLink "ShockTube$Pipe" 15 "ShockTube$Pipe" "loss" "I" ∈ wd := wd_in (i := 181) (by decide +kernel) (by decide +kernel)
theorem x_182 : Jvm.Cond.fieldLink "ShockTube" 205 "ShockTube$Pipe" "loss" "I" ∈ wd := wd_in (i := 182) (by decide +kernel) (by decide +kernel)
theorem x_183 : Jvm.Cond.fieldLink "ShockTube$Pipe" 43 "ShockTube$Pipe" "opening" "I" ∈ wd := wd_in (i := 183) (by decide +kernel) (by decide +kernel)
theorem x_184 : Jvm.Cond.fieldLink "ShockTube" 214 "ShockTube$Pipe" "opening" "I" ∈ wd := wd_in (i := 184) (by decide +kernel) (by decide +kernel)
theorem x_185 : Jvm.Cond.fieldLink "ShockTube$Pipe" 46 "ShockTube$Pipe" "reservoirHead" "I" ∈ wd := wd_in (i := 185) (by decide +kernel) (by decide +kernel)
theorem x_186 : Jvm.Cond.fieldLink "ShockTube$Pipe" 18 "ShockTube$Pipe" "head" "[J" ∈ wd := wd_in (i := 186) (by decide +kernel) (by decide +kernel)
theorem x_187 : Jvm.Cond.fieldLink "ShockTube$Pipe" 22 "ShockTube$Pipe" "flow" "[J" ∈ wd := wd_in (i := 187) (by decide +kernel) (by decide +kernel)
theorem x_188 : Jvm.Cond.fieldLink "ShockTube$Pipe" 25 "ShockTube$Pipe" "cavity" "[J" ∈ wd := wd_in (i := 188) (by decide +kernel) (by decide +kernel)
theorem x_189 : Jvm.Cond.fieldLink "ShockTube$Pipe" 28 "ShockTube$Pipe" "greatest" "[J" ∈ wd := wd_in (i := 189) (by decide +kernel) (by decide +kernel)
theorem x_190 : Jvm.Cond.fieldLink "ShockTube$Pipe" 31 "ShockTube$Pipe" "nextHead" "[J" ∈ wd := wd_in (i := 190) (by decide +kernel) (by decide +kernel)
theorem x_191 : Jvm.Cond.fieldLink "ShockTube$Pipe" 34 "ShockTube$Pipe" "nextFlow" "[J" ∈ wd := wd_in (i := 191) (by decide +kernel) (by decide +kernel)
theorem x_192 : Jvm.Cond.fieldLink "ShockTube$Pipe" 37 "ShockTube$Pipe" "nextCavity" "[J" ∈ wd := wd_in (i := 192) (by decide +kernel) (by decide +kernel)
theorem x_219 : Jvm.Cond.superclass "ShockTube$Pipe" "java/lang/Object" ∈ wd := wd_in (i := 219) (by decide +kernel) (by decide +kernel)
theorem x_220 : Jvm.Cond.fieldLink "ShockTube$State" 10 "ShockTube$State" "tube" "LShockTube$Tube;" ∈ wd := wd_in (i := 220) (by decide +kernel) (by decide +kernel)
theorem x_221 : Jvm.Cond.fieldLink "ShockTube" 38 "ShockTube$State" "tube" "LShockTube$Tube;" ∈ wd := wd_in (i := 221) (by decide +kernel) (by decide +kernel)
theorem x_222 : Jvm.Cond.fieldLink "ShockTube$State" 19 "ShockTube$State" "story" "LShockTube$Story;" ∈ wd := wd_in (i := 222) (by decide +kernel) (by decide +kernel)
theorem x_223 : Jvm.Cond.fieldLink "ShockTube" 48 "ShockTube$State" "story" "LShockTube$Story;" ∈ wd := wd_in (i := 223) (by decide +kernel) (by decide +kernel)
theorem x_224 : Jvm.Cond.fieldLink "ShockTube$State" 26 "ShockTube$State" "row" "LShockTube$Row;" ∈ wd := wd_in (i := 224) (by decide +kernel) (by decide +kernel)
theorem x_225 : Jvm.Cond.fieldLink "ShockTube" 156 "ShockTube$State" "row" "LShockTube$Row;" ∈ wd := wd_in (i := 225) (by decide +kernel) (by decide +kernel)
theorem x_226 : Jvm.Cond.fieldLink "ShockTube$State" 33 "ShockTube$State" "pipe" "LShockTube$Pipe;" ∈ wd := wd_in (i := 226) (by decide +kernel) (by decide +kernel)
theorem x_227 : Jvm.Cond.fieldLink "ShockTube" 193 "ShockTube$State" "pipe" "LShockTube$Pipe;" ∈ wd := wd_in (i := 227) (by decide +kernel) (by decide +kernel)
theorem x_236 : Jvm.Cond.superclass "ShockTube$State" "java/lang/Object" ∈ wd := wd_in (i := 236) (by decide +kernel) (by decide +kernel)
theorem x_237 : Jvm.Cond.classLink "ShockTube" 16 "ShockTube$Step" ∈ wd := wd_in (i := 237) (by decide +kernel) (by decide +kernel)
theorem x_238 : Jvm.Cond.instantiable "ShockTube$Step" 8 ∈ wd := wd_in (i := 238) (by decide +kernel) (by decide +kernel)
theorem x_240 : Jvm.Cond.instanceMethod y_Step_init ∈ wd := wd_in (i := 240) (by decide +kernel) (by decide +kernel)
theorem x_241 : Jvm.Cond.code y_Step_init prog_6_method_1_code 1 (Option.none : Option Jvm.ClassFile.FieldType) ∈ wd := wd_in (i := 241) (by decide +kernel) (by decide +kernel)
theorem x_242 : Jvm.Cond.methodLink "ShockTube$Step" 3 ⟨"java/lang/Object", "<init>", "()V"⟩ ∈ wd := wd_in (i := 242) (by decide +kernel) (by decide +kernel)
theorem x_243 : Jvm.Cond.classLink "ShockTube$Step" 18 "[[J" ∈ wd := wd_in (i := 243) (by decide +kernel) (by decide +kernel)
theorem x_244 : Jvm.Cond.fieldLink "ShockTube$Step" 9 "ShockTube$Step" "speed" "[J" ∈ wd := wd_in (i := 244) (by decide +kernel) (by decide +kernel)
theorem x_245 : Jvm.Cond.fieldLink "ShockTube$Step" 15 "ShockTube$Step" "sound" "[J" ∈ wd := wd_in (i := 245) (by decide +kernel) (by decide +kernel)
theorem x_246 : Jvm.Cond.fieldLink "ShockTube$Step" 20 "ShockTube$Step" "carries" "[[J" ∈ wd := wd_in (i := 246) (by decide +kernel) (by decide +kernel)
theorem x_247 : Jvm.Cond.fieldLink "ShockTube$Step" 23 "ShockTube$Step" "pace" "[J" ∈ wd := wd_in (i := 247) (by decide +kernel) (by decide +kernel)
theorem x_248 : Jvm.Cond.fieldLink "ShockTube$Step" 26 "ShockTube$Step" "over" "[[J" ∈ wd := wd_in (i := 248) (by decide +kernel) (by decide +kernel)
theorem x_249 : Jvm.Cond.fieldLink "ShockTube$Step" 29 "ShockTube$Step" "next" "[[J" ∈ wd := wd_in (i := 249) (by decide +kernel) (by decide +kernel)
theorem x_250 : Jvm.Cond.fieldLink "ShockTube$Step" 32 "ShockTube$Step" "pressureBehind" "[J" ∈ wd := wd_in (i := 250) (by decide +kernel) (by decide +kernel)
theorem x_251 : Jvm.Cond.fieldLink "ShockTube$Step" 53 "ShockTube$Step" "burnt" "J" ∈ wd := wd_in (i := 251) (by decide +kernel) (by decide +kernel)
theorem x_268 : Jvm.Cond.superclass "ShockTube$Step" "java/lang/Object" ∈ wd := wd_in (i := 268) (by decide +kernel) (by decide +kernel)
theorem x_270 : Jvm.Cond.fieldLink "ShockTube" 10 "ShockTube" "now" "LShockTube$State;" ∈ wd := wd_in (i := 270) (by decide +kernel) (by decide +kernel)
theorem x_271 : Jvm.Cond.fieldLink "ShockTube" 19 "ShockTube" "step" "LShockTube$Step;" ∈ wd := wd_in (i := 271) (by decide +kernel) (by decide +kernel)
theorem x_272 : Jvm.Cond.fieldLink "ShockTube" 23 "ShockTube" "kept" "[LShockTube$State;" ∈ wd := wd_in (i := 272) (by decide +kernel) (by decide +kernel)
theorem x_279 : Jvm.Cond.superclass "ShockTube" "java/lang/Object" ∈ wd := wd_in (i := 279) (by decide +kernel) (by decide +kernel)
theorem x_280 : Jvm.Cond.methodLink "ShockTubeLaw" 21 y_X_shape ∈ wd := wd_in (i := 280) (by decide +kernel) (by decide +kernel)
theorem x_281 : Jvm.Cond.instanceMethod y_X_shape ∈ wd := wd_in (i := 281) (by decide +kernel) (by decide +kernel)
theorem x_282 : Jvm.Cond.selects "ShockTube" y_X_shape y_X_shape ∈ wd := wd_in (i := 282) (by decide +kernel) (by decide +kernel)
theorem x_283 : Jvm.Cond.code y_X_shape prog_1_method_2_code 4 (Option.none : Option Jvm.ClassFile.FieldType) ∈ wd := wd_in (i := 283) (by decide +kernel) (by decide +kernel)
theorem x_284 : Jvm.Cond.methodLink "ShockTube" 27 y_X_isFrom ∈ wd := wd_in (i := 284) (by decide +kernel) (by decide +kernel)
theorem x_285 : Jvm.Cond.static y_X_isFrom ∈ wd := wd_in (i := 285) (by decide +kernel) (by decide +kernel)
theorem x_286 : Jvm.Cond.code y_X_isFrom prog_1_method_30_code 3 (Option.some Jvm.ClassFile.FieldType.boolean) ∈ wd := wd_in (i := 286) (by decide +kernel) (by decide +kernel)
theorem x_287 : Jvm.Cond.classLink "ShockTube" 31 "java/lang/IllegalArgumentException" ∈ wd := wd_in (i := 287) (by decide +kernel) (by decide +kernel)
theorem x_288 : Jvm.Cond.instantiable "java/lang/IllegalArgumentException" 6 ∈ wd := wd_in (i := 288) (by decide +kernel) (by decide +kernel)
theorem x_296 : Jvm.Cond.selects "java/lang/IllegalArgumentException" ⟨"java/lang/Throwable", "fillInStackTrace", "(I)Ljava/lang/Throwable;"⟩ ⟨"java/lang/Throwable", "fillInStackTrace", "(I)Ljava/lang/Throwable;"⟩ ∈ wd := wd_in (i := 296) (by decide +kernel) (by decide +kernel)
theorem x_297 : Jvm.Cond.selects "java/lang/IllegalArgumentException" ⟨"java/lang/Throwable", "fillInStackTrace", "()Ljava/lang/Throwable;"⟩ ⟨"java/lang/Throwable", "fillInStackTrace", "()Ljava/lang/Throwable;"⟩ ∈ wd := wd_in (i := 297) (by decide +kernel) (by decide +kernel)
theorem x_308 : Jvm.Cond.fieldLink "java/lang/Throwable" 198 "java/lang/Throwable" "backtrace" "Ljava/lang/Object;" ∈ wd := wd_in (i := 308) (by decide +kernel) (by decide +kernel)
theorem x_309 : Jvm.Cond.superclass "java/lang/Throwable" "java/lang/Object" ∈ wd := wd_in (i := 309) (by decide +kernel) (by decide +kernel)
theorem x_310 : Jvm.Cond.instanceMethod ⟨"java/lang/Throwable", "<init>", "()V"⟩ ∈ wd := wd_in (i := 310) (by decide +kernel) (by decide +kernel)
theorem x_311 : Jvm.Cond.code ⟨"java/lang/Throwable", "<init>", "()V"⟩ prog_19_method_1_code 1 (Option.none : Option Jvm.ClassFile.FieldType) ∈ wd := wd_in (i := 311) (by decide +kernel) (by decide +kernel)
theorem x_312 : Jvm.Cond.methodLink "java/lang/Throwable" 1 ⟨"java/lang/Object", "<init>", "()V"⟩ ∈ wd := wd_in (i := 312) (by decide +kernel) (by decide +kernel)
theorem x_313 : Jvm.Cond.fieldLink "java/lang/Throwable" 13 "java/lang/Throwable" "UNASSIGNED_STACK" "[Ljava/lang/StackTraceElement;" ∈ wd := wd_in (i := 313) (by decide +kernel) (by decide +kernel)
theorem x_315 : Jvm.Cond.fieldLink "java/lang/Throwable" 20 "java/lang/Throwable" "SUPPRESSED_SENTINEL" "Ljava/util/List;" ∈ wd := wd_in (i := 315) (by decide +kernel) (by decide +kernel)
theorem x_317 : Jvm.Cond.methodLink "java/lang/Throwable" 27 ⟨"java/lang/Throwable", "fillInStackTrace", "()Ljava/lang/Throwable;"⟩ ∈ wd := wd_in (i := 317) (by decide +kernel) (by decide +kernel)
theorem x_318 : Jvm.Cond.instanceMethod ⟨"java/lang/Throwable", "fillInStackTrace", "()Ljava/lang/Throwable;"⟩ ∈ wd := wd_in (i := 318) (by decide +kernel) (by decide +kernel)
theorem x_319 : Jvm.Cond.sameMethod "java/lang/Throwable" "java/lang/Throwable" "fillInStackTrace" "()Ljava/lang/Throwable;" ∈ wd := wd_in (i := 319) (by decide +kernel) (by decide +kernel)
theorem x_320 : Jvm.Cond.selects "java/lang/IllegalStateException" ⟨"java/lang/Throwable", "fillInStackTrace", "()Ljava/lang/Throwable;"⟩ ⟨"java/lang/Throwable", "fillInStackTrace", "()Ljava/lang/Throwable;"⟩ ∈ wd := wd_in (i := 320) (by decide +kernel) (by decide +kernel)
theorem x_321 : Jvm.Cond.selects "java/lang/IndexOutOfBoundsException" ⟨"java/lang/Throwable", "fillInStackTrace", "()Ljava/lang/Throwable;"⟩ ⟨"java/lang/Throwable", "fillInStackTrace", "()Ljava/lang/Throwable;"⟩ ∈ wd := wd_in (i := 321) (by decide +kernel) (by decide +kernel)
theorem x_323 : Jvm.Cond.methodLink "java/lang/Throwable" 202 ⟨"java/lang/Throwable", "fillInStackTrace", "(I)Ljava/lang/Throwable;"⟩ ∈ wd := wd_in (i := 323) (by decide +kernel) (by decide +kernel)
theorem x_325 : Jvm.Cond.instanceMethod ⟨"java/lang/Throwable", "fillInStackTrace", "(I)Ljava/lang/Throwable;"⟩ ∈ wd := wd_in (i := 325) (by decide +kernel) (by decide +kernel)
theorem x_326 : Jvm.Cond.instantiable "java/lang/Throwable" 6 ∈ wd := wd_in (i := 326) (by decide +kernel) (by decide +kernel)
theorem x_327 : Jvm.Cond.native ⟨"java/lang/Throwable", "fillInStackTrace", "(I)Ljava/lang/Throwable;"⟩ ∈ wd := wd_in (i := 327) (by decide +kernel) (by decide +kernel)
theorem x_329 : Jvm.Cond.methodLink "ShockTube" 35 y_IllegalArgumentException_init ∈ wd := wd_in (i := 329) (by decide +kernel) (by decide +kernel)
theorem x_330 : Jvm.Cond.instanceMethod y_IllegalArgumentException_init ∈ wd := wd_in (i := 330) (by decide +kernel) (by decide +kernel)
theorem x_331 : Jvm.Cond.code y_IllegalArgumentException_init prog_12_method_2_code 2 (Option.none : Option Jvm.ClassFile.FieldType) ∈ wd := wd_in (i := 331) (by decide +kernel) (by decide +kernel)
theorem x_332 : Jvm.Cond.methodLink "java/lang/IllegalArgumentException" 7 y_RuntimeException_init ∈ wd := wd_in (i := 332) (by decide +kernel) (by decide +kernel)
theorem x_333 : Jvm.Cond.instanceMethod y_RuntimeException_init ∈ wd := wd_in (i := 333) (by decide +kernel) (by decide +kernel)
theorem x_334 : Jvm.Cond.code y_RuntimeException_init prog_16_method_2_code 2 (Option.none : Option Jvm.ClassFile.FieldType) ∈ wd := wd_in (i := 334) (by decide +kernel) (by decide +kernel)
theorem x_335 : Jvm.Cond.methodLink "java/lang/RuntimeException" 7 y_Exception_init ∈ wd := wd_in (i := 335) (by decide +kernel) (by decide +kernel)
theorem x_336 : Jvm.Cond.instanceMethod y_Exception_init ∈ wd := wd_in (i := 336) (by decide +kernel) (by decide +kernel)
theorem x_337 : Jvm.Cond.code y_Exception_init prog_11_method_2_code 2 (Option.none : Option Jvm.ClassFile.FieldType) ∈ wd := wd_in (i := 337) (by decide +kernel) (by decide +kernel)
theorem x_338 : Jvm.Cond.methodLink "java/lang/Exception" 7 y_Throwable_init ∈ wd := wd_in (i := 338) (by decide +kernel) (by decide +kernel)
theorem x_339 : Jvm.Cond.instanceMethod y_Throwable_init ∈ wd := wd_in (i := 339) (by decide +kernel) (by decide +kernel)
theorem x_340 : Jvm.Cond.code y_Throwable_init prog_19_method_2_code 2 (Option.none : Option Jvm.ClassFile.FieldType) ∈ wd := wd_in (i := 340) (by decide +kernel) (by decide +kernel)
theorem x_341 : Jvm.Cond.fieldLink "java/lang/Throwable" 198 "java/lang/Throwable" "backtrace" "Ljava/lang/Object;" ∈ wd := wd_in (i := 341) (by decide +kernel) (by decide +kernel)
theorem x_342 : Jvm.Cond.fieldLink "java/lang/Throwable" 31 "java/lang/Throwable" "detailMessage" "Ljava/lang/String;" ∈ wd := wd_in (i := 342) (by decide +kernel) (by decide +kernel)
theorem x_343 : Jvm.Cond.fieldLink "java/lang/Throwable" 7 "java/lang/Throwable" "cause" "Ljava/lang/Throwable;" ∈ wd := wd_in (i := 343) (by decide +kernel) (by decide +kernel)
theorem x_344 : Jvm.Cond.fieldLink "java/lang/Throwable" 17 "java/lang/Throwable" "stackTrace" "[Ljava/lang/StackTraceElement;" ∈ wd := wd_in (i := 344) (by decide +kernel) (by decide +kernel)
theorem x_345 : Jvm.Cond.fieldLink "java/lang/Throwable" 24 "java/lang/Throwable" "suppressedExceptions" "Ljava/util/List;" ∈ wd := wd_in (i := 345) (by decide +kernel) (by decide +kernel)
theorem x_353 : Jvm.Cond.superclass "java/lang/IllegalArgumentException" "java/lang/RuntimeException" ∈ wd := wd_in (i := 353) (by decide +kernel) (by decide +kernel)
theorem x_354 : Jvm.Cond.arrayClass Jvm.ClassFile.FieldType.byte ∈ wd := wd_in (i := 354) (by decide +kernel) (by decide +kernel)
theorem x_355 : Jvm.Cond.methodLink "ShockTube" 42 y_Tube_begin ∈ wd := wd_in (i := 355) (by decide +kernel) (by decide +kernel)
theorem x_356 : Jvm.Cond.methodLink "ShockTube" 52 y_Story_begin ∈ wd := wd_in (i := 356) (by decide +kernel) (by decide +kernel)
theorem x_357 : Jvm.Cond.instanceMethod y_Story_begin ∈ wd := wd_in (i := 357) (by decide +kernel) (by decide +kernel)
theorem x_358 : Jvm.Cond.selects "ShockTube$Story" y_Story_begin y_Story_begin ∈ wd := wd_in (i := 358) (by decide +kernel) (by decide +kernel)
theorem x_359 : Jvm.Cond.code y_Story_begin prog_7_method_2_code 2 (Option.none : Option Jvm.ClassFile.FieldType) ∈ wd := wd_in (i := 359) (by decide +kernel) (by decide +kernel)
theorem x_360 : Jvm.Cond.methodLink "ShockTube$Story" 29 y_Tube_copyFrom ∈ wd := wd_in (i := 360) (by decide +kernel) (by decide +kernel)
theorem x_361 : Jvm.Cond.instanceMethod y_Tube_copyFrom ∈ wd := wd_in (i := 361) (by decide +kernel) (by decide +kernel)
theorem x_362 : Jvm.Cond.selects "ShockTube$Tube" y_Tube_copyFrom y_Tube_copyFrom ∈ wd := wd_in (i := 362) (by decide +kernel) (by decide +kernel)
theorem x_363 : Jvm.Cond.code y_Tube_copyFrom prog_8_method_11_code 3 (Option.none : Option Jvm.ClassFile.FieldType) ∈ wd := wd_in (i := 363) (by decide +kernel) (by decide +kernel)
theorem x_364 : Jvm.Cond.methodLink "ShockTube$Tube" 87 y_Laws_copyFrom ∈ wd := wd_in (i := 364) (by decide +kernel) (by decide +kernel)
theorem x_365 : Jvm.Cond.instanceMethod y_Laws_copyFrom ∈ wd := wd_in (i := 365) (by decide +kernel) (by decide +kernel)
theorem x_366 : Jvm.Cond.selects "ShockTube$Laws" y_Laws_copyFrom y_Laws_copyFrom ∈ wd := wd_in (i := 366) (by decide +kernel) (by decide +kernel)
theorem x_367 : Jvm.Cond.code y_Laws_copyFrom prog_2_method_3_code 2 (Option.none : Option Jvm.ClassFile.FieldType) ∈ wd := wd_in (i := 367) (by decide +kernel) (by decide +kernel)
theorem x_368 : Jvm.Cond.methodLink "ShockTube$Laws" 25 y_Laws_ignite ∈ wd := wd_in (i := 368) (by decide +kernel) (by decide +kernel)
theorem x_369 : Jvm.Cond.instanceMethod y_Laws_ignite ∈ wd := wd_in (i := 369) (by decide +kernel) (by decide +kernel)
theorem x_370 : Jvm.Cond.selects "ShockTube$Laws" y_Laws_ignite y_Laws_ignite ∈ wd := wd_in (i := 370) (by decide +kernel) (by decide +kernel)
theorem x_371 : Jvm.Cond.code y_Laws_ignite prog_2_method_2_code 4 (Option.none : Option Jvm.ClassFile.FieldType) ∈ wd := wd_in (i := 371) (by decide +kernel) (by decide +kernel)
theorem x_373 : Jvm.Cond.static y_X_copyRow_1 ∈ wd := wd_in (i := 373) (by decide +kernel) (by decide +kernel)
theorem x_374 : Jvm.Cond.code y_X_copyRow_1 prog_1_method_32_code 2 (Option.none : Option Jvm.ClassFile.FieldType) ∈ wd := wd_in (i := 374) (by decide +kernel) (by decide +kernel)
theorem x_375 : Jvm.Cond.methodLink "ShockTube" 259 y_Math_min_0 ∈ wd := wd_in (i := 375) (by decide +kernel) (by decide +kernel)
theorem x_376 : Jvm.Cond.static y_Math_min_0 ∈ wd := wd_in (i := 376) (by decide +kernel) (by decide +kernel)
theorem x_377 : Jvm.Cond.code y_Math_min_0 prog_15_method_69_code 2 (Option.some Jvm.ClassFile.FieldType.int) ∈ wd := wd_in (i := 377) (by decide +kernel) (by decide +kernel)
theorem x_378 : Jvm.Cond.methodLink "ShockTube" 261 y_System_arraycopy ∈ wd := wd_in (i := 378) (by decide +kernel) (by decide +kernel)
theorem x_379 : Jvm.Cond.static y_System_arraycopy ∈ wd := wd_in (i := 379) (by decide +kernel) (by decide +kernel)
theorem x_380 : Jvm.Cond.native y_System_arraycopy ∈ wd := wd_in (i := 380) (by decide +kernel) (by decide +kernel)
theorem x_382 : Jvm.Cond.static y_X_copyRow_0 ∈ wd := wd_in (i := 382) (by decide +kernel) (by decide +kernel)
theorem x_383 : Jvm.Cond.code y_X_copyRow_0 prog_1_method_33_code 2 (Option.none : Option Jvm.ClassFile.FieldType) ∈ wd := wd_in (i := 383) (by decide +kernel) (by decide +kernel)
theorem x_384 : Jvm.Cond.methodLink "ShockTubeLaw" 25 y_X_gas ∈ wd := wd_in (i := 384) (by decide +kernel) (by decide +kernel)
theorem x_385 : Jvm.Cond.instanceMethod y_X_gas ∈ wd := wd_in (i := 385) (by decide +kernel) (by decide +kernel)
theorem x_386 : Jvm.Cond.selects "ShockTube" y_X_gas y_X_gas ∈ wd := wd_in (i := 386) (by decide +kernel) (by decide +kernel)
theorem x_387 : Jvm.Cond.code y_X_gas prog_1_method_3_code 2 (Option.none : Option Jvm.ClassFile.FieldType) ∈ wd := wd_in (i := 387) (by decide +kernel) (by decide +kernel)
theorem x_389 : Jvm.Cond.methodLink "ShockTube" 69 y_Story_note ∈ wd := wd_in (i := 389) (by decide +kernel) (by decide +kernel)
theorem x_390 : Jvm.Cond.instanceMethod y_Story_note ∈ wd := wd_in (i := 390) (by decide +kernel) (by decide +kernel)
theorem x_391 : Jvm.Cond.selects "ShockTube$Story" y_Story_note y_Story_note ∈ wd := wd_in (i := 391) (by decide +kernel) (by decide +kernel)
theorem x_392 : Jvm.Cond.code y_Story_note prog_7_method_3_code 8 (Option.none : Option Jvm.ClassFile.FieldType) ∈ wd := wd_in (i := 392) (by decide +kernel) (by decide +kernel)
theorem x_393 : Jvm.Cond.methodLink "ShockTubeLaw" 36 y_X_cell ∈ wd := wd_in (i := 393) (by decide +kernel) (by decide +kernel)
theorem x_394 : Jvm.Cond.instanceMethod y_X_cell ∈ wd := wd_in (i := 394) (by decide +kernel) (by decide +kernel)
theorem x_395 : Jvm.Cond.selects "ShockTube" y_X_cell y_X_cell ∈ wd := wd_in (i := 395) (by decide +kernel) (by decide +kernel)
theorem x_396 : Jvm.Cond.code y_X_cell prog_1_method_4_code 6 (Option.none : Option Jvm.ClassFile.FieldType) ∈ wd := wd_in (i := 396) (by decide +kernel) (by decide +kernel)
theorem x_397 : Jvm.Cond.methodLink "ShockTube" 73 y_X_refuseCell ∈ wd := wd_in (i := 397) (by decide +kernel) (by decide +kernel)
theorem x_399 : Jvm.Cond.instanceMethod y_X_refuseCell ∈ wd := wd_in (i := 399) (by decide +kernel) (by decide +kernel)
theorem x_400 : Jvm.Cond.code y_X_refuseCell prog_1_method_25_code 2 (Option.none : Option Jvm.ClassFile.FieldType) ∈ wd := wd_in (i := 400) (by decide +kernel) (by decide +kernel)
theorem x_401 : Jvm.Cond.classLink "ShockTube" 183 "java/lang/IndexOutOfBoundsException" ∈ wd := wd_in (i := 401) (by decide +kernel) (by decide +kernel)
theorem x_402 : Jvm.Cond.instantiable "java/lang/IndexOutOfBoundsException" 6 ∈ wd := wd_in (i := 402) (by decide +kernel) (by decide +kernel)
theorem x_404 : Jvm.Cond.selects "java/lang/IndexOutOfBoundsException" ⟨"java/lang/Throwable", "fillInStackTrace", "(I)Ljava/lang/Throwable;"⟩ ⟨"java/lang/Throwable", "fillInStackTrace", "(I)Ljava/lang/Throwable;"⟩ ∈ wd := wd_in (i := 404) (by decide +kernel) (by decide +kernel)
theorem x_411 : Jvm.Cond.methodLink "ShockTube" 187 y_IndexOutOfBoundsException_init ∈ wd := wd_in (i := 411) (by decide +kernel) (by decide +kernel)
theorem x_412 : Jvm.Cond.instanceMethod y_IndexOutOfBoundsException_init ∈ wd := wd_in (i := 412) (by decide +kernel) (by decide +kernel)
theorem x_413 : Jvm.Cond.code y_IndexOutOfBoundsException_init prog_14_method_2_code 2 (Option.none : Option Jvm.ClassFile.FieldType) ∈ wd := wd_in (i := 413) (by decide +kernel) (by decide +kernel)
theorem x_414 : Jvm.Cond.methodLink "java/lang/IndexOutOfBoundsException" 7 y_RuntimeException_init ∈ wd := wd_in (i := 414) (by decide +kernel) (by decide +kernel)
theorem x_416 : Jvm.Cond.superclass "java/lang/IndexOutOfBoundsException" "java/lang/RuntimeException" ∈ wd := wd_in (i := 416) (by decide +kernel) (by decide +kernel)
theorem x_417 : Jvm.Cond.constant "ShockTube" 77 (1000000 : Int32) ∈ wd := wd_in (i := 417) (by decide +kernel) (by decide +kernel)
theorem x_418 : Jvm.Cond.constant "ShockTube" 78 (-10000000 : Int32) ∈ wd := wd_in (i := 418) (by decide +kernel) (by decide +kernel)
theorem x_419 : Jvm.Cond.constant "ShockTube" 79 (10000000 : Int32) ∈ wd := wd_in (i := 419) (by decide +kernel) (by decide +kernel)
theorem x_420 : Jvm.Cond.constant "ShockTube" 80 (1000000000 : Int32) ∈ wd := wd_in (i := 420) (by decide +kernel) (by decide +kernel)
theorem x_422 : Jvm.Cond.methodLink "ShockTube" 83 y_Laws_within ∈ wd := wd_in (i := 422) (by decide +kernel) (by decide +kernel)
theorem x_423 : Jvm.Cond.static y_Laws_within ∈ wd := wd_in (i := 423) (by decide +kernel) (by decide +kernel)
theorem x_424 : Jvm.Cond.code y_Laws_within prog_2_method_4_code 6 (Option.some Jvm.ClassFile.FieldType.long) ∈ wd := wd_in (i := 424) (by decide +kernel) (by decide +kernel)
theorem x_425 : Jvm.Cond.constantLong "ShockTube$Laws" 29 (2 : Int64) ∈ wd := wd_in (i := 425) (by decide +kernel) (by decide +kernel)
theorem x_426 : Jvm.Cond.methodLink "ShockTube$Laws" 31 y_Math_floorDiv ∈ wd := wd_in (i := 426) (by decide +kernel) (by decide +kernel)
theorem x_427 : Jvm.Cond.static y_Math_floorDiv ∈ wd := wd_in (i := 427) (by decide +kernel) (by decide +kernel)
theorem x_428 : Jvm.Cond.code y_Math_floorDiv prog_15_method_49_code 6 (Option.some Jvm.ClassFile.FieldType.long) ∈ wd := wd_in (i := 428) (by decide +kernel) (by decide +kernel)
theorem x_429 : Jvm.Cond.classLink "ShockTube" 87 "java/lang/IllegalStateException" ∈ wd := wd_in (i := 429) (by decide +kernel) (by decide +kernel)
theorem x_430 : Jvm.Cond.instantiable "java/lang/IllegalStateException" 6 ∈ wd := wd_in (i := 430) (by decide +kernel) (by decide +kernel)
theorem x_432 : Jvm.Cond.selects "java/lang/IllegalStateException" ⟨"java/lang/Throwable", "fillInStackTrace", "(I)Ljava/lang/Throwable;"⟩ ⟨"java/lang/Throwable", "fillInStackTrace", "(I)Ljava/lang/Throwable;"⟩ ∈ wd := wd_in (i := 432) (by decide +kernel) (by decide +kernel)
theorem x_439 : Jvm.Cond.methodLink "ShockTube" 91 y_IllegalStateException_init ∈ wd := wd_in (i := 439) (by decide +kernel) (by decide +kernel)
theorem x_440 : Jvm.Cond.instanceMethod y_IllegalStateException_init ∈ wd := wd_in (i := 440) (by decide +kernel) (by decide +kernel)
theorem x_441 : Jvm.Cond.code y_IllegalStateException_init prog_13_method_2_code 2 (Option.none : Option Jvm.ClassFile.FieldType) ∈ wd := wd_in (i := 441) (by decide +kernel) (by decide +kernel)
theorem x_442 : Jvm.Cond.methodLink "java/lang/IllegalStateException" 7 y_RuntimeException_init ∈ wd := wd_in (i := 442) (by decide +kernel) (by decide +kernel)
theorem x_444 : Jvm.Cond.superclass "java/lang/IllegalStateException" "java/lang/RuntimeException" ∈ wd := wd_in (i := 444) (by decide +kernel) (by decide +kernel)
theorem x_445 : Jvm.Cond.methodLink "ShockTube" 92 y_Tube_tell ∈ wd := wd_in (i := 445) (by decide +kernel) (by decide +kernel)
theorem x_446 : Jvm.Cond.methodLink "ShockTubeLaw" 29 y_X_ignition ∈ wd := wd_in (i := 446) (by decide +kernel) (by decide +kernel)
theorem x_447 : Jvm.Cond.instanceMethod y_X_ignition ∈ wd := wd_in (i := 447) (by decide +kernel) (by decide +kernel)
theorem x_448 : Jvm.Cond.selects "ShockTube" y_X_ignition y_X_ignition ∈ wd := wd_in (i := 448) (by decide +kernel) (by decide +kernel)
theorem x_449 : Jvm.Cond.code y_X_ignition prog_1_method_5_code 4 (Option.none : Option Jvm.ClassFile.FieldType) ∈ wd := wd_in (i := 449) (by decide +kernel) (by decide +kernel)
theorem x_450 : Jvm.Cond.constant "ShockTube" 96 (100000 : Int32) ∈ wd := wd_in (i := 450) (by decide +kernel) (by decide +kernel)
theorem x_452 : Jvm.Cond.methodLink "ShockTube" 99 y_Laws_ignite ∈ wd := wd_in (i := 452) (by decide +kernel) (by decide +kernel)
theorem x_453 : Jvm.Cond.methodLink "ShockTubeLaw" 43 y_X_step ∈ wd := wd_in (i := 453) (by decide +kernel) (by decide +kernel)
theorem x_454 : Jvm.Cond.instanceMethod y_X_step ∈ wd := wd_in (i := 454) (by decide +kernel) (by decide +kernel)
theorem x_455 : Jvm.Cond.selects "ShockTube" y_X_step y_X_step ∈ wd := wd_in (i := 455) (by decide +kernel) (by decide +kernel)
theorem x_456 : Jvm.Cond.code y_X_step prog_1_method_6_code 4 (Option.some Jvm.ClassFile.FieldType.int) ∈ wd := wd_in (i := 456) (by decide +kernel) (by decide +kernel)
theorem x_459 : Jvm.Cond.methodLink "ShockTube" 109 y_Step_isDone ∈ wd := wd_in (i := 459) (by decide +kernel) (by decide +kernel)
theorem x_460 : Jvm.Cond.instanceMethod y_Step_isDone ∈ wd := wd_in (i := 460) (by decide +kernel) (by decide +kernel)
theorem x_461 : Jvm.Cond.selects "ShockTube$Step" y_Step_isDone y_Step_isDone ∈ wd := wd_in (i := 461) (by decide +kernel) (by decide +kernel)
theorem x_462 : Jvm.Cond.code y_Step_isDone prog_6_method_2_code 4 (Option.some Jvm.ClassFile.FieldType.boolean) ∈ wd := wd_in (i := 462) (by decide +kernel) (by decide +kernel)
theorem x_463 : Jvm.Cond.methodLink "ShockTube$Step" 35 y_Step_lookAtCells ∈ wd := wd_in (i := 463) (by decide +kernel) (by decide +kernel)
theorem x_464 : Jvm.Cond.instanceMethod y_Step_lookAtCells ∈ wd := wd_in (i := 464) (by decide +kernel) (by decide +kernel)
theorem x_465 : Jvm.Cond.selects "ShockTube$Step" y_Step_lookAtCells y_Step_lookAtCells ∈ wd := wd_in (i := 465) (by decide +kernel) (by decide +kernel)
theorem x_466 : Jvm.Cond.code y_Step_lookAtCells prog_6_method_3_code 9 (Option.none : Option Jvm.ClassFile.FieldType) ∈ wd := wd_in (i := 466) (by decide +kernel) (by decide +kernel)
theorem x_467 : Jvm.Cond.methodLink "ShockTube$Step" 66 y_Tube_pressure ∈ wd := wd_in (i := 467) (by decide +kernel) (by decide +kernel)
theorem x_468 : Jvm.Cond.instanceMethod y_Tube_pressure ∈ wd := wd_in (i := 468) (by decide +kernel) (by decide +kernel)
theorem x_469 : Jvm.Cond.selects "ShockTube$Tube" y_Tube_pressure y_Tube_pressure ∈ wd := wd_in (i := 469) (by decide +kernel) (by decide +kernel)
theorem x_470 : Jvm.Cond.code y_Tube_pressure prog_8_method_7_code 2 (Option.some Jvm.ClassFile.FieldType.long) ∈ wd := wd_in (i := 470) (by decide +kernel) (by decide +kernel)
theorem x_471 : Jvm.Cond.methodLink "ShockTube$Tube" 66 y_Laws_within ∈ wd := wd_in (i := 471) (by decide +kernel) (by decide +kernel)
theorem x_472 : Jvm.Cond.methodLink "ShockTube$Tube" 70 y_Laws_pressure ∈ wd := wd_in (i := 472) (by decide +kernel) (by decide +kernel)
theorem x_473 : Jvm.Cond.instanceMethod y_Laws_pressure ∈ wd := wd_in (i := 473) (by decide +kernel) (by decide +kernel)
theorem x_474 : Jvm.Cond.selects "ShockTube$Laws" y_Laws_pressure y_Laws_pressure ∈ wd := wd_in (i := 474) (by decide +kernel) (by decide +kernel)
theorem x_475 : Jvm.Cond.code y_Laws_pressure prog_2_method_7_code 3 (Option.some Jvm.ClassFile.FieldType.long) ∈ wd := wd_in (i := 475) (by decide +kernel) (by decide +kernel)
theorem x_480 : Jvm.Cond.methodLink "ShockTube$Step" 70 y_Laws_speed ∈ wd := wd_in (i := 480) (by decide +kernel) (by decide +kernel)
theorem x_481 : Jvm.Cond.static y_Laws_speed ∈ wd := wd_in (i := 481) (by decide +kernel) (by decide +kernel)
theorem x_482 : Jvm.Cond.code y_Laws_speed prog_2_method_5_code 4 (Option.some Jvm.ClassFile.FieldType.long) ∈ wd := wd_in (i := 482) (by decide +kernel) (by decide +kernel)
theorem x_483 : Jvm.Cond.constantLong "ShockTube$Laws" 37 (1000 : Int64) ∈ wd := wd_in (i := 483) (by decide +kernel) (by decide +kernel)
theorem x_484 : Jvm.Cond.methodLink "ShockTube$Step" 79 y_Laws_sound ∈ wd := wd_in (i := 484) (by decide +kernel) (by decide +kernel)
theorem x_485 : Jvm.Cond.instanceMethod y_Laws_sound ∈ wd := wd_in (i := 485) (by decide +kernel) (by decide +kernel)
theorem x_486 : Jvm.Cond.selects "ShockTube$Laws" y_Laws_sound y_Laws_sound ∈ wd := wd_in (i := 486) (by decide +kernel) (by decide +kernel)
theorem x_487 : Jvm.Cond.code y_Laws_sound prog_2_method_8_code 7 (Option.some Jvm.ClassFile.FieldType.long) ∈ wd := wd_in (i := 487) (by decide +kernel) (by decide +kernel)
theorem x_490 : Jvm.Cond.constantLong "ShockTube$Laws" 51 (1000000 : Int64) ∈ wd := wd_in (i := 490) (by decide +kernel) (by decide +kernel)
theorem x_493 : Jvm.Cond.methodLink "ShockTube$Laws" 56 y_Laws_root ∈ wd := wd_in (i := 493) (by decide +kernel) (by decide +kernel)
theorem x_494 : Jvm.Cond.static y_Laws_root ∈ wd := wd_in (i := 494) (by decide +kernel) (by decide +kernel)
theorem x_495 : Jvm.Cond.code y_Laws_root prog_2_method_9_code 8 (Option.some Jvm.ClassFile.FieldType.long) ∈ wd := wd_in (i := 495) (by decide +kernel) (by decide +kernel)
theorem x_496 : Jvm.Cond.constantLong "ShockTube$Laws" 60 (67108864 : Int64) ∈ wd := wd_in (i := 496) (by decide +kernel) (by decide +kernel)
theorem x_497 : Jvm.Cond.methodLink "ShockTube$Step" 81 y_Math_floorDiv ∈ wd := wd_in (i := 497) (by decide +kernel) (by decide +kernel)
theorem x_498 : Jvm.Cond.methodLink "ShockTube$Step" 39 y_Step_isSlowEnough ∈ wd := wd_in (i := 498) (by decide +kernel) (by decide +kernel)
theorem x_499 : Jvm.Cond.instanceMethod y_Step_isSlowEnough ∈ wd := wd_in (i := 499) (by decide +kernel) (by decide +kernel)
theorem x_500 : Jvm.Cond.selects "ShockTube$Step" y_Step_isSlowEnough y_Step_isSlowEnough ∈ wd := wd_in (i := 500) (by decide +kernel) (by decide +kernel)
theorem x_501 : Jvm.Cond.code y_Step_isSlowEnough prog_6_method_4_code 5 (Option.some Jvm.ClassFile.FieldType.boolean) ∈ wd := wd_in (i := 501) (by decide +kernel) (by decide +kernel)
theorem x_502 : Jvm.Cond.methodLink "ShockTube$Step" 86 y_Step_paceAt ∈ wd := wd_in (i := 502) (by decide +kernel) (by decide +kernel)
theorem x_503 : Jvm.Cond.instanceMethod y_Step_paceAt ∈ wd := wd_in (i := 503) (by decide +kernel) (by decide +kernel)
theorem x_504 : Jvm.Cond.selects "ShockTube$Step" y_Step_paceAt y_Step_paceAt ∈ wd := wd_in (i := 504) (by decide +kernel) (by decide +kernel)
theorem x_505 : Jvm.Cond.code y_Step_paceAt prog_6_method_5_code 9 (Option.some Jvm.ClassFile.FieldType.long) ∈ wd := wd_in (i := 505) (by decide +kernel) (by decide +kernel)
theorem x_506 : Jvm.Cond.methodLink "ShockTube$Step" 92 y_Step_leftOf ∈ wd := wd_in (i := 506) (by decide +kernel) (by decide +kernel)
theorem x_507 : Jvm.Cond.static y_Step_leftOf ∈ wd := wd_in (i := 507) (by decide +kernel) (by decide +kernel)
theorem x_508 : Jvm.Cond.code y_Step_leftOf prog_6_method_6_code 1 (Option.some Jvm.ClassFile.FieldType.int) ∈ wd := wd_in (i := 508) (by decide +kernel) (by decide +kernel)
theorem x_509 : Jvm.Cond.methodLink "ShockTube$Step" 111 y_Math_max_0 ∈ wd := wd_in (i := 509) (by decide +kernel) (by decide +kernel)
theorem x_510 : Jvm.Cond.static y_Math_max_0 ∈ wd := wd_in (i := 510) (by decide +kernel) (by decide +kernel)
theorem x_511 : Jvm.Cond.code y_Math_max_0 prog_15_method_65_code 2 (Option.some Jvm.ClassFile.FieldType.int) ∈ wd := wd_in (i := 511) (by decide +kernel) (by decide +kernel)
theorem x_512 : Jvm.Cond.methodLink "ShockTube$Step" 96 y_Step_rightOf ∈ wd := wd_in (i := 512) (by decide +kernel) (by decide +kernel)
theorem x_513 : Jvm.Cond.static y_Step_rightOf ∈ wd := wd_in (i := 513) (by decide +kernel) (by decide +kernel)
theorem x_514 : Jvm.Cond.code y_Step_rightOf prog_6_method_7_code 2 (Option.some Jvm.ClassFile.FieldType.int) ∈ wd := wd_in (i := 514) (by decide +kernel) (by decide +kernel)
theorem x_515 : Jvm.Cond.methodLink "ShockTube$Step" 114 y_Math_min_0 ∈ wd := wd_in (i := 515) (by decide +kernel) (by decide +kernel)
theorem x_516 : Jvm.Cond.methodLink "ShockTube$Step" 100 y_Math_abs_1 ∈ wd := wd_in (i := 516) (by decide +kernel) (by decide +kernel)
theorem x_517 : Jvm.Cond.static y_Math_abs_1 ∈ wd := wd_in (i := 517) (by decide +kernel) (by decide +kernel)
theorem x_518 : Jvm.Cond.code y_Math_abs_1 prog_15_method_61_code 2 (Option.some Jvm.ClassFile.FieldType.long) ∈ wd := wd_in (i := 518) (by decide +kernel) (by decide +kernel)
theorem x_519 : Jvm.Cond.methodLink "ShockTube$Step" 104 y_Tube_isWall ∈ wd := wd_in (i := 519) (by decide +kernel) (by decide +kernel)
theorem x_520 : Jvm.Cond.instanceMethod y_Tube_isWall ∈ wd := wd_in (i := 520) (by decide +kernel) (by decide +kernel)
theorem x_521 : Jvm.Cond.selects "ShockTube$Tube" y_Tube_isWall y_Tube_isWall ∈ wd := wd_in (i := 521) (by decide +kernel) (by decide +kernel)
theorem x_522 : Jvm.Cond.code y_Tube_isWall prog_8_method_6_code 2 (Option.some Jvm.ClassFile.FieldType.boolean) ∈ wd := wd_in (i := 522) (by decide +kernel) (by decide +kernel)
theorem x_523 : Jvm.Cond.methodLink "ShockTube$Step" 108 y_Math_max_1 ∈ wd := wd_in (i := 523) (by decide +kernel) (by decide +kernel)
theorem x_524 : Jvm.Cond.static y_Math_max_1 ∈ wd := wd_in (i := 524) (by decide +kernel) (by decide +kernel)
theorem x_525 : Jvm.Cond.code y_Math_max_1 prog_15_method_66_code 4 (Option.some Jvm.ClassFile.FieldType.long) ∈ wd := wd_in (i := 525) (by decide +kernel) (by decide +kernel)
theorem x_526 : Jvm.Cond.constantLong "ShockTube$Step" 90 (500000 : Int64) ∈ wd := wd_in (i := 526) (by decide +kernel) (by decide +kernel)
theorem x_527 : Jvm.Cond.methodLink "ShockTube$Step" 49 y_Step_findBorder ∈ wd := wd_in (i := 527) (by decide +kernel) (by decide +kernel)
theorem x_528 : Jvm.Cond.instanceMethod y_Step_findBorder ∈ wd := wd_in (i := 528) (by decide +kernel) (by decide +kernel)
theorem x_529 : Jvm.Cond.selects "ShockTube$Step" y_Step_findBorder y_Step_findBorder ∈ wd := wd_in (i := 529) (by decide +kernel) (by decide +kernel)
theorem x_530 : Jvm.Cond.code y_Step_findBorder prog_6_method_8_code 11 (Option.none : Option Jvm.ClassFile.FieldType) ∈ wd := wd_in (i := 530) (by decide +kernel) (by decide +kernel)
theorem x_531 : Jvm.Cond.methodLink "ShockTube$Step" 117 y_Step_findWall ∈ wd := wd_in (i := 531) (by decide +kernel) (by decide +kernel)
theorem x_532 : Jvm.Cond.instanceMethod y_Step_findWall ∈ wd := wd_in (i := 532) (by decide +kernel) (by decide +kernel)
theorem x_533 : Jvm.Cond.selects "ShockTube$Step" y_Step_findWall y_Step_findWall ∈ wd := wd_in (i := 533) (by decide +kernel) (by decide +kernel)
theorem x_534 : Jvm.Cond.code y_Step_findWall prog_6_method_9_code 7 (Option.none : Option Jvm.ClassFile.FieldType) ∈ wd := wd_in (i := 534) (by decide +kernel) (by decide +kernel)
theorem x_535 : Jvm.Cond.constantLong "ShockTube$Step" 128 (2 : Int64) ∈ wd := wd_in (i := 535) (by decide +kernel) (by decide +kernel)
theorem x_536 : Jvm.Cond.methodLink "ShockTube$Step" 120 y_Step_goes ∈ wd := wd_in (i := 536) (by decide +kernel) (by decide +kernel)
theorem x_537 : Jvm.Cond.instanceMethod y_Step_goes ∈ wd := wd_in (i := 537) (by decide +kernel) (by decide +kernel)
theorem x_538 : Jvm.Cond.selects "ShockTube$Step" y_Step_goes y_Step_goes ∈ wd := wd_in (i := 538) (by decide +kernel) (by decide +kernel)
theorem x_539 : Jvm.Cond.code y_Step_goes prog_6_method_10_code 7 (Option.some Jvm.ClassFile.FieldType.long) ∈ wd := wd_in (i := 539) (by decide +kernel) (by decide +kernel)
theorem x_540 : Jvm.Cond.constantLong "ShockTube$Step" 130 (1000 : Int64) ∈ wd := wd_in (i := 540) (by decide +kernel) (by decide +kernel)
theorem x_541 : Jvm.Cond.constantLong "ShockTube$Step" 132 (2000000 : Int64) ∈ wd := wd_in (i := 541) (by decide +kernel) (by decide +kernel)
theorem x_542 : Jvm.Cond.methodLink "ShockTube$Step" 124 y_Step_fuelGoes ∈ wd := wd_in (i := 542) (by decide +kernel) (by decide +kernel)
theorem x_543 : Jvm.Cond.static y_Step_fuelGoes ∈ wd := wd_in (i := 543) (by decide +kernel) (by decide +kernel)
theorem x_544 : Jvm.Cond.code y_Step_fuelGoes prog_6_method_11_code 5 (Option.some Jvm.ClassFile.FieldType.long) ∈ wd := wd_in (i := 544) (by decide +kernel) (by decide +kernel)
theorem x_545 : Jvm.Cond.methodLink "ShockTube$Step" 134 y_Step_fuelWith ∈ wd := wd_in (i := 545) (by decide +kernel) (by decide +kernel)
theorem x_546 : Jvm.Cond.static y_Step_fuelWith ∈ wd := wd_in (i := 546) (by decide +kernel) (by decide +kernel)
theorem x_547 : Jvm.Cond.code y_Step_fuelWith prog_6_method_12_code 6 (Option.some Jvm.ClassFile.FieldType.long) ∈ wd := wd_in (i := 547) (by decide +kernel) (by decide +kernel)
theorem x_548 : Jvm.Cond.methodLink "ShockTube$Step" 138 y_Math_min_1 ∈ wd := wd_in (i := 548) (by decide +kernel) (by decide +kernel)
theorem x_549 : Jvm.Cond.static y_Math_min_1 ∈ wd := wd_in (i := 549) (by decide +kernel) (by decide +kernel)
theorem x_550 : Jvm.Cond.code y_Math_min_1 prog_15_method_70_code 4 (Option.some Jvm.ClassFile.FieldType.long) ∈ wd := wd_in (i := 550) (by decide +kernel) (by decide +kernel)
theorem x_551 : Jvm.Cond.methodLink "ShockTube$Step" 57 y_Step_isFound ∈ wd := wd_in (i := 551) (by decide +kernel) (by decide +kernel)
theorem x_552 : Jvm.Cond.instanceMethod y_Step_isFound ∈ wd := wd_in (i := 552) (by decide +kernel) (by decide +kernel)
theorem x_553 : Jvm.Cond.selects "ShockTube$Step" y_Step_isFound y_Step_isFound ∈ wd := wd_in (i := 553) (by decide +kernel) (by decide +kernel)
theorem x_554 : Jvm.Cond.code y_Step_isFound prog_6_method_13_code 7 (Option.some Jvm.ClassFile.FieldType.boolean) ∈ wd := wd_in (i := 554) (by decide +kernel) (by decide +kernel)
theorem x_555 : Jvm.Cond.methodLink "ShockTube$Step" 140 y_Step_isAllowed ∈ wd := wd_in (i := 555) (by decide +kernel) (by decide +kernel)
theorem x_556 : Jvm.Cond.instanceMethod y_Step_isAllowed ∈ wd := wd_in (i := 556) (by decide +kernel) (by decide +kernel)
theorem x_557 : Jvm.Cond.selects "ShockTube$Step" y_Step_isAllowed y_Step_isAllowed ∈ wd := wd_in (i := 557) (by decide +kernel) (by decide +kernel)
theorem x_558 : Jvm.Cond.code y_Step_isAllowed prog_6_method_14_code 8 (Option.some Jvm.ClassFile.FieldType.boolean) ∈ wd := wd_in (i := 558) (by decide +kernel) (by decide +kernel)
theorem x_559 : Jvm.Cond.constantLong "ShockTube$Step" 153 (1000000 : Int64) ∈ wd := wd_in (i := 559) (by decide +kernel) (by decide +kernel)
theorem x_560 : Jvm.Cond.constantLong "ShockTube$Step" 155 (1000000000 : Int64) ∈ wd := wd_in (i := 560) (by decide +kernel) (by decide +kernel)
theorem x_561 : Jvm.Cond.methodLink "ShockTube$Step" 157 y_Laws_within ∈ wd := wd_in (i := 561) (by decide +kernel) (by decide +kernel)
theorem x_562 : Jvm.Cond.methodLink "ShockTube$Step" 143 y_Step_pressureNext ∈ wd := wd_in (i := 562) (by decide +kernel) (by decide +kernel)
theorem x_563 : Jvm.Cond.instanceMethod y_Step_pressureNext ∈ wd := wd_in (i := 563) (by decide +kernel) (by decide +kernel)
theorem x_564 : Jvm.Cond.selects "ShockTube$Step" y_Step_pressureNext y_Step_pressureNext ∈ wd := wd_in (i := 564) (by decide +kernel) (by decide +kernel)
theorem x_565 : Jvm.Cond.code y_Step_pressureNext prog_6_method_15_code 3 (Option.some Jvm.ClassFile.FieldType.long) ∈ wd := wd_in (i := 565) (by decide +kernel) (by decide +kernel)
theorem x_566 : Jvm.Cond.methodLink "ShockTube$Step" 160 y_Laws_pressure ∈ wd := wd_in (i := 566) (by decide +kernel) (by decide +kernel)
theorem x_567 : Jvm.Cond.methodLink "ShockTube$Step" 146 y_Laws_burns ∈ wd := wd_in (i := 567) (by decide +kernel) (by decide +kernel)
theorem x_568 : Jvm.Cond.instanceMethod y_Laws_burns ∈ wd := wd_in (i := 568) (by decide +kernel) (by decide +kernel)
theorem x_569 : Jvm.Cond.selects "ShockTube$Laws" y_Laws_burns y_Laws_burns ∈ wd := wd_in (i := 569) (by decide +kernel) (by decide +kernel)
theorem x_570 : Jvm.Cond.code y_Laws_burns prog_2_method_10_code 7 (Option.some Jvm.ClassFile.FieldType.long) ∈ wd := wd_in (i := 570) (by decide +kernel) (by decide +kernel)
theorem x_571 : Jvm.Cond.methodLink "ShockTube$Laws" 62 y_Laws_temperature ∈ wd := wd_in (i := 571) (by decide +kernel) (by decide +kernel)
theorem x_572 : Jvm.Cond.static y_Laws_temperature ∈ wd := wd_in (i := 572) (by decide +kernel) (by decide +kernel)
theorem x_573 : Jvm.Cond.code y_Laws_temperature prog_2_method_6_code 4 (Option.some Jvm.ClassFile.FieldType.long) ∈ wd := wd_in (i := 573) (by decide +kernel) (by decide +kernel)
theorem x_574 : Jvm.Cond.constantLong "ShockTube$Laws" 39 (100 : Int64) ∈ wd := wd_in (i := 574) (by decide +kernel) (by decide +kernel)
theorem x_575 : Jvm.Cond.methodLink "ShockTube$Step" 60 y_Step_take ∈ wd := wd_in (i := 575) (by decide +kernel) (by decide +kernel)
theorem x_576 : Jvm.Cond.instanceMethod y_Step_take ∈ wd := wd_in (i := 576) (by decide +kernel) (by decide +kernel)
theorem x_577 : Jvm.Cond.selects "ShockTube$Step" y_Step_take y_Step_take ∈ wd := wd_in (i := 577) (by decide +kernel) (by decide +kernel)
theorem x_578 : Jvm.Cond.code y_Step_take prog_6_method_16_code 3 (Option.none : Option Jvm.ClassFile.FieldType) ∈ wd := wd_in (i := 578) (by decide +kernel) (by decide +kernel)
theorem x_580 : Jvm.Cond.methodLink "ShockTube$Step" 172 y_Tube_noteProbe ∈ wd := wd_in (i := 580) (by decide +kernel) (by decide +kernel)
theorem x_581 : Jvm.Cond.instanceMethod y_Tube_noteProbe ∈ wd := wd_in (i := 581) (by decide +kernel) (by decide +kernel)
theorem x_582 : Jvm.Cond.selects "ShockTube$Tube" y_Tube_noteProbe y_Tube_noteProbe ∈ wd := wd_in (i := 582) (by decide +kernel) (by decide +kernel)
theorem x_583 : Jvm.Cond.code y_Tube_noteProbe prog_8_method_10_code 4 (Option.none : Option Jvm.ClassFile.FieldType) ∈ wd := wd_in (i := 583) (by decide +kernel) (by decide +kernel)
theorem x_584 : Jvm.Cond.methodLink "ShockTubeLaw" 70 y_X_tube ∈ wd := wd_in (i := 584) (by decide +kernel) (by decide +kernel)
theorem x_585 : Jvm.Cond.instanceMethod y_X_tube ∈ wd := wd_in (i := 585) (by decide +kernel) (by decide +kernel)
theorem x_586 : Jvm.Cond.selects "ShockTube" y_X_tube y_X_tube ∈ wd := wd_in (i := 586) (by decide +kernel) (by decide +kernel)
theorem x_587 : Jvm.Cond.code y_X_tube prog_1_method_7_code 3 (Option.some Jvm.ClassFile.FieldType.int) ∈ wd := wd_in (i := 587) (by decide +kernel) (by decide +kernel)
theorem x_588 : Jvm.Cond.methodLink "ShockTube" 113 y_X_refuseWhat ∈ wd := wd_in (i := 588) (by decide +kernel) (by decide +kernel)
theorem x_589 : Jvm.Cond.static y_X_refuseWhat ∈ wd := wd_in (i := 589) (by decide +kernel) (by decide +kernel)
theorem x_590 : Jvm.Cond.code y_X_refuseWhat prog_1_method_26_code 2 (Option.none : Option Jvm.ClassFile.FieldType) ∈ wd := wd_in (i := 590) (by decide +kernel) (by decide +kernel)
theorem x_592 : Jvm.Cond.methodLink "ShockTube" 117 y_Tube_tells ∈ wd := wd_in (i := 592) (by decide +kernel) (by decide +kernel)
theorem x_593 : Jvm.Cond.instanceMethod y_Tube_tells ∈ wd := wd_in (i := 593) (by decide +kernel) (by decide +kernel)
theorem x_594 : Jvm.Cond.selects "ShockTube$Tube" y_Tube_tells y_Tube_tells ∈ wd := wd_in (i := 594) (by decide +kernel) (by decide +kernel)
theorem x_595 : Jvm.Cond.code y_Tube_tells prog_8_method_8_code 5 (Option.some Jvm.ClassFile.FieldType.long) ∈ wd := wd_in (i := 595) (by decide +kernel) (by decide +kernel)
theorem x_596 : Jvm.Cond.methodLink "ShockTube$Tube" 74 y_Tube_pressure ∈ wd := wd_in (i := 596) (by decide +kernel) (by decide +kernel)
theorem x_597 : Jvm.Cond.methodLink "ShockTube$Tube" 77 y_Laws_speed ∈ wd := wd_in (i := 597) (by decide +kernel) (by decide +kernel)
theorem x_598 : Jvm.Cond.methodLink "ShockTube$Tube" 81 y_Laws_sound ∈ wd := wd_in (i := 598) (by decide +kernel) (by decide +kernel)
theorem x_599 : Jvm.Cond.methodLink "ShockTube$Tube" 84 y_Laws_temperature ∈ wd := wd_in (i := 599) (by decide +kernel) (by decide +kernel)
theorem x_600 : Jvm.Cond.methodLink "ShockTube" 121 y_X_toInt ∈ wd := wd_in (i := 600) (by decide +kernel) (by decide +kernel)
theorem x_601 : Jvm.Cond.static y_X_toInt ∈ wd := wd_in (i := 601) (by decide +kernel) (by decide +kernel)
theorem x_602 : Jvm.Cond.code y_X_toInt prog_1_method_31_code 2 (Option.some Jvm.ClassFile.FieldType.int) ∈ wd := wd_in (i := 602) (by decide +kernel) (by decide +kernel)
theorem x_603 : Jvm.Cond.constantLong "ShockTube" 251 (2147483647 : Int64) ∈ wd := wd_in (i := 603) (by decide +kernel) (by decide +kernel)
theorem x_604 : Jvm.Cond.methodLink "ShockTube" 253 y_Math_min_1 ∈ wd := wd_in (i := 604) (by decide +kernel) (by decide +kernel)
theorem x_605 : Jvm.Cond.methodLink "ShockTubeLaw" 80 y_X_anew ∈ wd := wd_in (i := 605) (by decide +kernel) (by decide +kernel)
theorem x_606 : Jvm.Cond.instanceMethod y_X_anew ∈ wd := wd_in (i := 606) (by decide +kernel) (by decide +kernel)
theorem x_607 : Jvm.Cond.selects "ShockTube" y_X_anew y_X_anew ∈ wd := wd_in (i := 607) (by decide +kernel) (by decide +kernel)
theorem x_608 : Jvm.Cond.code y_X_anew prog_1_method_8_code 3 (Option.some Jvm.ClassFile.FieldType.int) ∈ wd := wd_in (i := 608) (by decide +kernel) (by decide +kernel)
theorem x_609 : Jvm.Cond.methodLink "ShockTube" 125 y_Story_goOn ∈ wd := wd_in (i := 609) (by decide +kernel) (by decide +kernel)
theorem x_610 : Jvm.Cond.instanceMethod y_Story_goOn ∈ wd := wd_in (i := 610) (by decide +kernel) (by decide +kernel)
theorem x_611 : Jvm.Cond.selects "ShockTube$Story" y_Story_goOn y_Story_goOn ∈ wd := wd_in (i := 611) (by decide +kernel) (by decide +kernel)
theorem x_612 : Jvm.Cond.code y_Story_goOn prog_7_method_4_code 2 (Option.none : Option Jvm.ClassFile.FieldType) ∈ wd := wd_in (i := 612) (by decide +kernel) (by decide +kernel)
theorem x_613 : Jvm.Cond.methodLink "ShockTube$Story" 33 y_Story_goThrough ∈ wd := wd_in (i := 613) (by decide +kernel) (by decide +kernel)
theorem x_614 : Jvm.Cond.instanceMethod y_Story_goThrough ∈ wd := wd_in (i := 614) (by decide +kernel) (by decide +kernel)
theorem x_615 : Jvm.Cond.selects "ShockTube$Story" y_Story_goThrough y_Story_goThrough ∈ wd := wd_in (i := 615) (by decide +kernel) (by decide +kernel)
theorem x_616 : Jvm.Cond.code y_Story_goThrough prog_7_method_5_code 7 (Option.none : Option Jvm.ClassFile.FieldType) ∈ wd := wd_in (i := 616) (by decide +kernel) (by decide +kernel)
theorem x_617 : Jvm.Cond.methodLink "ShockTube$Story" 37 y_Tube_tell ∈ wd := wd_in (i := 617) (by decide +kernel) (by decide +kernel)
theorem x_618 : Jvm.Cond.methodLink "ShockTube$Story" 50 y_Laws_ignite ∈ wd := wd_in (i := 618) (by decide +kernel) (by decide +kernel)
theorem x_619 : Jvm.Cond.methodLink "ShockTube$Story" 54 y_Step_isDone ∈ wd := wd_in (i := 619) (by decide +kernel) (by decide +kernel)
theorem x_620 : Jvm.Cond.methodLink "ShockTubeLaw" 76 y_X_isKept ∈ wd := wd_in (i := 620) (by decide +kernel) (by decide +kernel)
theorem x_621 : Jvm.Cond.instanceMethod y_X_isKept ∈ wd := wd_in (i := 621) (by decide +kernel) (by decide +kernel)
theorem x_622 : Jvm.Cond.selects "ShockTube" y_X_isKept y_X_isKept ∈ wd := wd_in (i := 622) (by decide +kernel) (by decide +kernel)
theorem x_623 : Jvm.Cond.code y_X_isKept prog_1_method_11_code 2 (Option.some Jvm.ClassFile.FieldType.boolean) ∈ wd := wd_in (i := 623) (by decide +kernel) (by decide +kernel)
theorem x_624 : Jvm.Cond.methodLink "ShockTube" 147 y_Tube_isBalanced ∈ wd := wd_in (i := 624) (by decide +kernel) (by decide +kernel)
theorem x_625 : Jvm.Cond.instanceMethod y_Tube_isBalanced ∈ wd := wd_in (i := 625) (by decide +kernel) (by decide +kernel)
theorem x_626 : Jvm.Cond.selects "ShockTube$Tube" y_Tube_isBalanced y_Tube_isBalanced ∈ wd := wd_in (i := 626) (by decide +kernel) (by decide +kernel)
theorem x_627 : Jvm.Cond.code y_Tube_isBalanced prog_8_method_9_code 6 (Option.some Jvm.ClassFile.FieldType.boolean) ∈ wd := wd_in (i := 627) (by decide +kernel) (by decide +kernel)
theorem x_628 : Jvm.Cond.methodLink "ShockTubeLaw" 39 y_X_steps ∈ wd := wd_in (i := 628) (by decide +kernel) (by decide +kernel)
theorem x_629 : Jvm.Cond.instanceMethod y_X_steps ∈ wd := wd_in (i := 629) (by decide +kernel) (by decide +kernel)
theorem x_630 : Jvm.Cond.selects "ShockTube" y_X_steps y_X_steps ∈ wd := wd_in (i := 630) (by decide +kernel) (by decide +kernel)
theorem x_631 : Jvm.Cond.code y_X_steps prog_1_method_13_code 1 (Option.some Jvm.ClassFile.FieldType.int) ∈ wd := wd_in (i := 631) (by decide +kernel) (by decide +kernel)
theorem x_632 : Jvm.Cond.methodLink "ShockTubeLaw" 47 y_X_front ∈ wd := wd_in (i := 632) (by decide +kernel) (by decide +kernel)
theorem x_633 : Jvm.Cond.instanceMethod y_X_front ∈ wd := wd_in (i := 633) (by decide +kernel) (by decide +kernel)
theorem x_634 : Jvm.Cond.selects "ShockTube" y_X_front y_X_front ∈ wd := wd_in (i := 634) (by decide +kernel) (by decide +kernel)
theorem x_635 : Jvm.Cond.code y_X_front prog_1_method_14_code 6 (Option.some Jvm.ClassFile.FieldType.int) ∈ wd := wd_in (i := 635) (by decide +kernel) (by decide +kernel)
theorem x_638 : Jvm.Cond.methodLink "ShockTube" 167 y_Row_placeFor ∈ wd := wd_in (i := 638) (by decide +kernel) (by decide +kernel)
theorem x_639 : Jvm.Cond.instanceMethod y_Row_placeFor ∈ wd := wd_in (i := 639) (by decide +kernel) (by decide +kernel)
theorem x_640 : Jvm.Cond.selects "ShockTube$Row" y_Row_placeFor y_Row_placeFor ∈ wd := wd_in (i := 640) (by decide +kernel) (by decide +kernel)
theorem x_641 : Jvm.Cond.code y_Row_placeFor prog_4_method_2_code 4 (Option.some Jvm.ClassFile.FieldType.int) ∈ wd := wd_in (i := 641) (by decide +kernel) (by decide +kernel)
theorem x_642 : Jvm.Cond.methodLink "ShockTube" 171 y_Row_putIn ∈ wd := wd_in (i := 642) (by decide +kernel) (by decide +kernel)
theorem x_643 : Jvm.Cond.instanceMethod y_Row_putIn ∈ wd := wd_in (i := 643) (by decide +kernel) (by decide +kernel)
theorem x_644 : Jvm.Cond.selects "ShockTube$Row" y_Row_putIn y_Row_putIn ∈ wd := wd_in (i := 644) (by decide +kernel) (by decide +kernel)
theorem x_645 : Jvm.Cond.code y_Row_putIn prog_4_method_3_code 7 (Option.none : Option Jvm.ClassFile.FieldType) ∈ wd := wd_in (i := 645) (by decide +kernel) (by decide +kernel)
theorem x_646 : Jvm.Cond.methodLink "ShockTube$Row" 31 y_Row_copyFront ∈ wd := wd_in (i := 646) (by decide +kernel) (by decide +kernel)
theorem x_647 : Jvm.Cond.instanceMethod y_Row_copyFront ∈ wd := wd_in (i := 647) (by decide +kernel) (by decide +kernel)
theorem x_648 : Jvm.Cond.selects "ShockTube$Row" y_Row_copyFront y_Row_copyFront ∈ wd := wd_in (i := 648) (by decide +kernel) (by decide +kernel)
theorem x_649 : Jvm.Cond.code y_Row_copyFront prog_4_method_5_code 3 (Option.none : Option Jvm.ClassFile.FieldType) ∈ wd := wd_in (i := 649) (by decide +kernel) (by decide +kernel)
theorem x_650 : Jvm.Cond.methodLink "ShockTubeLaw" 54 y_X_tick ∈ wd := wd_in (i := 650) (by decide +kernel) (by decide +kernel)
theorem x_651 : Jvm.Cond.instanceMethod y_X_tick ∈ wd := wd_in (i := 651) (by decide +kernel) (by decide +kernel)
theorem x_652 : Jvm.Cond.selects "ShockTube" y_X_tick y_X_tick ∈ wd := wd_in (i := 652) (by decide +kernel) (by decide +kernel)
theorem x_653 : Jvm.Cond.code y_X_tick prog_1_method_15_code 3 (Option.some Jvm.ClassFile.FieldType.int) ∈ wd := wd_in (i := 653) (by decide +kernel) (by decide +kernel)
theorem x_654 : Jvm.Cond.methodLink "ShockTube" 174 y_X_refuseTicks ∈ wd := wd_in (i := 654) (by decide +kernel) (by decide +kernel)
theorem x_655 : Jvm.Cond.static y_X_refuseTicks ∈ wd := wd_in (i := 655) (by decide +kernel) (by decide +kernel)
theorem x_656 : Jvm.Cond.code y_X_refuseTicks prog_1_method_27_code 1 (Option.none : Option Jvm.ClassFile.FieldType) ∈ wd := wd_in (i := 656) (by decide +kernel) (by decide +kernel)
theorem x_658 : Jvm.Cond.methodLink "ShockTube" 177 y_Row_move ∈ wd := wd_in (i := 658) (by decide +kernel) (by decide +kernel)
theorem x_659 : Jvm.Cond.instanceMethod y_Row_move ∈ wd := wd_in (i := 659) (by decide +kernel) (by decide +kernel)
theorem x_660 : Jvm.Cond.selects "ShockTube$Row" y_Row_move y_Row_move ∈ wd := wd_in (i := 660) (by decide +kernel) (by decide +kernel)
theorem x_661 : Jvm.Cond.code y_Row_move prog_4_method_6_code 5 (Option.none : Option Jvm.ClassFile.FieldType) ∈ wd := wd_in (i := 661) (by decide +kernel) (by decide +kernel)
theorem x_662 : Jvm.Cond.constant "ShockTube$Row" 35 (100000 : Int32) ∈ wd := wd_in (i := 662) (by decide +kernel) (by decide +kernel)
theorem x_663 : Jvm.Cond.methodLink "ShockTube$Row" 36 y_Math_min_0 ∈ wd := wd_in (i := 663) (by decide +kernel) (by decide +kernel)
theorem x_664 : Jvm.Cond.methodLink "ShockTube$Row" 42 y_Math_max_0 ∈ wd := wd_in (i := 664) (by decide +kernel) (by decide +kernel)
theorem x_665 : Jvm.Cond.methodLink "ShockTube$Row" 45 y_Row_turn ∈ wd := wd_in (i := 665) (by decide +kernel) (by decide +kernel)
theorem x_666 : Jvm.Cond.instanceMethod y_Row_turn ∈ wd := wd_in (i := 666) (by decide +kernel) (by decide +kernel)
theorem x_667 : Jvm.Cond.selects "ShockTube$Row" y_Row_turn y_Row_turn ∈ wd := wd_in (i := 667) (by decide +kernel) (by decide +kernel)
theorem x_668 : Jvm.Cond.code y_Row_turn prog_4_method_7_code 2 (Option.none : Option Jvm.ClassFile.FieldType) ∈ wd := wd_in (i := 668) (by decide +kernel) (by decide +kernel)
theorem x_669 : Jvm.Cond.methodLink "ShockTube" 180 y_Row_meetAll ∈ wd := wd_in (i := 669) (by decide +kernel) (by decide +kernel)
theorem x_670 : Jvm.Cond.instanceMethod y_Row_meetAll ∈ wd := wd_in (i := 670) (by decide +kernel) (by decide +kernel)
theorem x_671 : Jvm.Cond.selects "ShockTube$Row" y_Row_meetAll y_Row_meetAll ∈ wd := wd_in (i := 671) (by decide +kernel) (by decide +kernel)
theorem x_672 : Jvm.Cond.code y_Row_meetAll prog_4_method_8_code 3 (Option.none : Option Jvm.ClassFile.FieldType) ∈ wd := wd_in (i := 672) (by decide +kernel) (by decide +kernel)
theorem x_673 : Jvm.Cond.methodLink "ShockTube$Row" 49 y_Row_isMeeting ∈ wd := wd_in (i := 673) (by decide +kernel) (by decide +kernel)
theorem x_674 : Jvm.Cond.instanceMethod y_Row_isMeeting ∈ wd := wd_in (i := 674) (by decide +kernel) (by decide +kernel)
theorem x_675 : Jvm.Cond.selects "ShockTube$Row" y_Row_isMeeting y_Row_isMeeting ∈ wd := wd_in (i := 675) (by decide +kernel) (by decide +kernel)
theorem x_676 : Jvm.Cond.code y_Row_isMeeting prog_4_method_9_code 2 (Option.some Jvm.ClassFile.FieldType.boolean) ∈ wd := wd_in (i := 676) (by decide +kernel) (by decide +kernel)
theorem x_677 : Jvm.Cond.methodLink "ShockTube$Row" 53 y_Row_meet ∈ wd := wd_in (i := 677) (by decide +kernel) (by decide +kernel)
theorem x_678 : Jvm.Cond.instanceMethod y_Row_meet ∈ wd := wd_in (i := 678) (by decide +kernel) (by decide +kernel)
theorem x_679 : Jvm.Cond.selects "ShockTube$Row" y_Row_meet y_Row_meet ∈ wd := wd_in (i := 679) (by decide +kernel) (by decide +kernel)
theorem x_680 : Jvm.Cond.code y_Row_meet prog_4_method_10_code 4 (Option.some Jvm.ClassFile.FieldType.int) ∈ wd := wd_in (i := 680) (by decide +kernel) (by decide +kernel)
theorem x_681 : Jvm.Cond.methodLink "ShockTube$Row" 57 y_Row_setPlace ∈ wd := wd_in (i := 681) (by decide +kernel) (by decide +kernel)
theorem x_682 : Jvm.Cond.instanceMethod y_Row_setPlace ∈ wd := wd_in (i := 682) (by decide +kernel) (by decide +kernel)
theorem x_683 : Jvm.Cond.selects "ShockTube$Row" y_Row_setPlace y_Row_setPlace ∈ wd := wd_in (i := 683) (by decide +kernel) (by decide +kernel)
theorem x_684 : Jvm.Cond.code y_Row_setPlace prog_4_method_11_code 3 (Option.none : Option Jvm.ClassFile.FieldType) ∈ wd := wd_in (i := 684) (by decide +kernel) (by decide +kernel)
theorem x_685 : Jvm.Cond.methodLink "ShockTube$Row" 60 y_Row_meetShocks ∈ wd := wd_in (i := 685) (by decide +kernel) (by decide +kernel)
theorem x_686 : Jvm.Cond.instanceMethod y_Row_meetShocks ∈ wd := wd_in (i := 686) (by decide +kernel) (by decide +kernel)
theorem x_687 : Jvm.Cond.selects "ShockTube$Row" y_Row_meetShocks y_Row_meetShocks ∈ wd := wd_in (i := 687) (by decide +kernel) (by decide +kernel)
theorem x_688 : Jvm.Cond.code y_Row_meetShocks prog_4_method_12_code 5 (Option.some Jvm.ClassFile.FieldType.int) ∈ wd := wd_in (i := 688) (by decide +kernel) (by decide +kernel)
theorem x_689 : Jvm.Cond.methodLink "ShockTube$Row" 69 y_Row_merge ∈ wd := wd_in (i := 689) (by decide +kernel) (by decide +kernel)
theorem x_690 : Jvm.Cond.instanceMethod y_Row_merge ∈ wd := wd_in (i := 690) (by decide +kernel) (by decide +kernel)
theorem x_691 : Jvm.Cond.selects "ShockTube$Row" y_Row_merge y_Row_merge ∈ wd := wd_in (i := 691) (by decide +kernel) (by decide +kernel)
theorem x_692 : Jvm.Cond.code y_Row_merge prog_4_method_13_code 4 (Option.none : Option Jvm.ClassFile.FieldType) ∈ wd := wd_in (i := 692) (by decide +kernel) (by decide +kernel)
theorem x_693 : Jvm.Cond.methodLink "ShockTube$Row" 66 y_Row_takeOut ∈ wd := wd_in (i := 693) (by decide +kernel) (by decide +kernel)
theorem x_694 : Jvm.Cond.instanceMethod y_Row_takeOut ∈ wd := wd_in (i := 694) (by decide +kernel) (by decide +kernel)
theorem x_695 : Jvm.Cond.selects "ShockTube$Row" y_Row_takeOut y_Row_takeOut ∈ wd := wd_in (i := 695) (by decide +kernel) (by decide +kernel)
theorem x_696 : Jvm.Cond.code y_Row_takeOut prog_4_method_4_code 3 (Option.none : Option Jvm.ClassFile.FieldType) ∈ wd := wd_in (i := 696) (by decide +kernel) (by decide +kernel)
theorem x_697 : Jvm.Cond.methodLink "ShockTube$Row" 72 y_Row_changePlaces ∈ wd := wd_in (i := 697) (by decide +kernel) (by decide +kernel)
theorem x_698 : Jvm.Cond.instanceMethod y_Row_changePlaces ∈ wd := wd_in (i := 698) (by decide +kernel) (by decide +kernel)
theorem x_699 : Jvm.Cond.selects "ShockTube$Row" y_Row_changePlaces y_Row_changePlaces ∈ wd := wd_in (i := 699) (by decide +kernel) (by decide +kernel)
theorem x_700 : Jvm.Cond.code y_Row_changePlaces prog_4_method_16_code 6 (Option.none : Option Jvm.ClassFile.FieldType) ∈ wd := wd_in (i := 700) (by decide +kernel) (by decide +kernel)
theorem x_701 : Jvm.Cond.methodLink "ShockTube$Row" 75 y_Math_abs_0 ∈ wd := wd_in (i := 701) (by decide +kernel) (by decide +kernel)
theorem x_702 : Jvm.Cond.static y_Math_abs_0 ∈ wd := wd_in (i := 702) (by decide +kernel) (by decide +kernel)
theorem x_703 : Jvm.Cond.code y_Math_abs_0 prog_15_method_59_code 1 (Option.some Jvm.ClassFile.FieldType.int) ∈ wd := wd_in (i := 703) (by decide +kernel) (by decide +kernel)
theorem x_704 : Jvm.Cond.methodLink "ShockTube$Row" 78 y_Row_putIn ∈ wd := wd_in (i := 704) (by decide +kernel) (by decide +kernel)
theorem x_705 : Jvm.Cond.methodLink "ShockTube$Row" 63 y_Row_goThroughOther ∈ wd := wd_in (i := 705) (by decide +kernel) (by decide +kernel)
theorem x_706 : Jvm.Cond.instanceMethod y_Row_goThroughOther ∈ wd := wd_in (i := 706) (by decide +kernel) (by decide +kernel)
theorem x_707 : Jvm.Cond.selects "ShockTube$Row" y_Row_goThroughOther y_Row_goThroughOther ∈ wd := wd_in (i := 707) (by decide +kernel) (by decide +kernel)
theorem x_708 : Jvm.Cond.code y_Row_goThroughOther prog_4_method_14_code 4 (Option.some Jvm.ClassFile.FieldType.int) ∈ wd := wd_in (i := 708) (by decide +kernel) (by decide +kernel)
theorem x_709 : Jvm.Cond.methodLink "ShockTube$Row" 82 y_Row_held ∈ wd := wd_in (i := 709) (by decide +kernel) (by decide +kernel)
theorem x_710 : Jvm.Cond.static y_Row_held ∈ wd := wd_in (i := 710) (by decide +kernel) (by decide +kernel)
theorem x_711 : Jvm.Cond.code y_Row_held prog_4_method_15_code 1 (Option.some Jvm.ClassFile.FieldType.int) ∈ wd := wd_in (i := 711) (by decide +kernel) (by decide +kernel)
theorem x_712 : Jvm.Cond.methodLink "ShockTubeLaw" 51 y_X_fronts ∈ wd := wd_in (i := 712) (by decide +kernel) (by decide +kernel)
theorem x_713 : Jvm.Cond.instanceMethod y_X_fronts ∈ wd := wd_in (i := 713) (by decide +kernel) (by decide +kernel)
theorem x_714 : Jvm.Cond.selects "ShockTube" y_X_fronts y_X_fronts ∈ wd := wd_in (i := 714) (by decide +kernel) (by decide +kernel)
theorem x_715 : Jvm.Cond.code y_X_fronts prog_1_method_16_code 1 (Option.some Jvm.ClassFile.FieldType.int) ∈ wd := wd_in (i := 715) (by decide +kernel) (by decide +kernel)
theorem x_716 : Jvm.Cond.methodLink "ShockTubeLaw" 32 y_X_pipe ∈ wd := wd_in (i := 716) (by decide +kernel) (by decide +kernel)
theorem x_717 : Jvm.Cond.instanceMethod y_X_pipe ∈ wd := wd_in (i := 717) (by decide +kernel) (by decide +kernel)
theorem x_718 : Jvm.Cond.selects "ShockTube" y_X_pipe y_X_pipe ∈ wd := wd_in (i := 718) (by decide +kernel) (by decide +kernel)
theorem x_719 : Jvm.Cond.code y_X_pipe prog_1_method_18_code 7 (Option.none : Option Jvm.ClassFile.FieldType) ∈ wd := wd_in (i := 719) (by decide +kernel) (by decide +kernel)
theorem x_721 : Jvm.Cond.methodLink "ShockTube" 208 y_Pipe_begin ∈ wd := wd_in (i := 721) (by decide +kernel) (by decide +kernel)
theorem x_722 : Jvm.Cond.instanceMethod y_Pipe_begin ∈ wd := wd_in (i := 722) (by decide +kernel) (by decide +kernel)
theorem x_723 : Jvm.Cond.selects "ShockTube$Pipe" y_Pipe_begin y_Pipe_begin ∈ wd := wd_in (i := 723) (by decide +kernel) (by decide +kernel)
theorem x_724 : Jvm.Cond.code y_Pipe_begin prog_3_method_2_code 5 (Option.none : Option Jvm.ClassFile.FieldType) ∈ wd := wd_in (i := 724) (by decide +kernel) (by decide +kernel)
theorem x_725 : Jvm.Cond.methodLink "ShockTubeLaw" 58 y_X_valve ∈ wd := wd_in (i := 725) (by decide +kernel) (by decide +kernel)
theorem x_726 : Jvm.Cond.instanceMethod y_X_valve ∈ wd := wd_in (i := 726) (by decide +kernel) (by decide +kernel)
theorem x_727 : Jvm.Cond.selects "ShockTube" y_X_valve y_X_valve ∈ wd := wd_in (i := 727) (by decide +kernel) (by decide +kernel)
theorem x_728 : Jvm.Cond.code y_X_valve prog_1_method_19_code 3 (Option.some Jvm.ClassFile.FieldType.int) ∈ wd := wd_in (i := 728) (by decide +kernel) (by decide +kernel)
theorem x_730 : Jvm.Cond.methodLink "ShockTube" 211 y_X_refuseNoPipe ∈ wd := wd_in (i := 730) (by decide +kernel) (by decide +kernel)
theorem x_732 : Jvm.Cond.instanceMethod y_X_refuseNoPipe ∈ wd := wd_in (i := 732) (by decide +kernel) (by decide +kernel)
theorem x_733 : Jvm.Cond.code y_X_refuseNoPipe prog_1_method_28_code 1 (Option.none : Option Jvm.ClassFile.FieldType) ∈ wd := wd_in (i := 733) (by decide +kernel) (by decide +kernel)
theorem x_735 : Jvm.Cond.methodLink "ShockTubeLaw" 61 y_X_flow ∈ wd := wd_in (i := 735) (by decide +kernel) (by decide +kernel)
theorem x_736 : Jvm.Cond.instanceMethod y_X_flow ∈ wd := wd_in (i := 736) (by decide +kernel) (by decide +kernel)
theorem x_737 : Jvm.Cond.selects "ShockTube" y_X_flow y_X_flow ∈ wd := wd_in (i := 737) (by decide +kernel) (by decide +kernel)
theorem x_738 : Jvm.Cond.code y_X_flow prog_1_method_21_code 3 (Option.some Jvm.ClassFile.FieldType.int) ∈ wd := wd_in (i := 738) (by decide +kernel) (by decide +kernel)
theorem x_739 : Jvm.Cond.methodLink "ShockTube" 222 y_Pipe_isTicked ∈ wd := wd_in (i := 739) (by decide +kernel) (by decide +kernel)
theorem x_740 : Jvm.Cond.instanceMethod y_Pipe_isTicked ∈ wd := wd_in (i := 740) (by decide +kernel) (by decide +kernel)
theorem x_741 : Jvm.Cond.selects "ShockTube$Pipe" y_Pipe_isTicked y_Pipe_isTicked ∈ wd := wd_in (i := 741) (by decide +kernel) (by decide +kernel)
theorem x_742 : Jvm.Cond.code y_Pipe_isTicked prog_3_method_3_code 2 (Option.some Jvm.ClassFile.FieldType.boolean) ∈ wd := wd_in (i := 742) (by decide +kernel) (by decide +kernel)
theorem x_743 : Jvm.Cond.methodLink "ShockTube$Pipe" 49 y_Pipe_findReservoir ∈ wd := wd_in (i := 743) (by decide +kernel) (by decide +kernel)
theorem x_744 : Jvm.Cond.instanceMethod y_Pipe_findReservoir ∈ wd := wd_in (i := 744) (by decide +kernel) (by decide +kernel)
theorem x_745 : Jvm.Cond.selects "ShockTube$Pipe" y_Pipe_findReservoir y_Pipe_findReservoir ∈ wd := wd_in (i := 745) (by decide +kernel) (by decide +kernel)
theorem x_746 : Jvm.Cond.code y_Pipe_findReservoir prog_3_method_7_code 1 (Option.none : Option Jvm.ClassFile.FieldType) ∈ wd := wd_in (i := 746) (by decide +kernel) (by decide +kernel)
theorem x_747 : Jvm.Cond.methodLink "ShockTube$Pipe" 81 y_Pipe_fromRight ∈ wd := wd_in (i := 747) (by decide +kernel) (by decide +kernel)
theorem x_748 : Jvm.Cond.instanceMethod y_Pipe_fromRight ∈ wd := wd_in (i := 748) (by decide +kernel) (by decide +kernel)
theorem x_749 : Jvm.Cond.selects "ShockTube$Pipe" y_Pipe_fromRight y_Pipe_fromRight ∈ wd := wd_in (i := 749) (by decide +kernel) (by decide +kernel)
theorem x_750 : Jvm.Cond.code y_Pipe_fromRight prog_3_method_5_code 3 (Option.some Jvm.ClassFile.FieldType.long) ∈ wd := wd_in (i := 750) (by decide +kernel) (by decide +kernel)
theorem x_751 : Jvm.Cond.methodLink "ShockTube$Pipe" 66 y_Pipe_rubbed ∈ wd := wd_in (i := 751) (by decide +kernel) (by decide +kernel)
theorem x_752 : Jvm.Cond.instanceMethod y_Pipe_rubbed ∈ wd := wd_in (i := 752) (by decide +kernel) (by decide +kernel)
theorem x_753 : Jvm.Cond.selects "ShockTube$Pipe" y_Pipe_rubbed y_Pipe_rubbed ∈ wd := wd_in (i := 753) (by decide +kernel) (by decide +kernel)
theorem x_754 : Jvm.Cond.code y_Pipe_rubbed prog_3_method_6_code 2 (Option.some Jvm.ClassFile.FieldType.long) ∈ wd := wd_in (i := 754) (by decide +kernel) (by decide +kernel)
theorem x_755 : Jvm.Cond.methodLink "ShockTube$Pipe" 73 y_Math_abs_1 ∈ wd := wd_in (i := 755) (by decide +kernel) (by decide +kernel)
theorem x_756 : Jvm.Cond.constantLong "ShockTube$Pipe" 79 (100 : Int64) ∈ wd := wd_in (i := 756) (by decide +kernel) (by decide +kernel)
theorem x_757 : Jvm.Cond.methodLink "ShockTube$Pipe" 52 y_Pipe_findBetween ∈ wd := wd_in (i := 757) (by decide +kernel) (by decide +kernel)
theorem x_758 : Jvm.Cond.instanceMethod y_Pipe_findBetween ∈ wd := wd_in (i := 758) (by decide +kernel) (by decide +kernel)
theorem x_759 : Jvm.Cond.selects "ShockTube$Pipe" y_Pipe_findBetween y_Pipe_findBetween ∈ wd := wd_in (i := 759) (by decide +kernel) (by decide +kernel)
theorem x_760 : Jvm.Cond.code y_Pipe_findBetween prog_3_method_8_code 6 (Option.none : Option Jvm.ClassFile.FieldType) ∈ wd := wd_in (i := 760) (by decide +kernel) (by decide +kernel)
theorem x_761 : Jvm.Cond.methodLink "ShockTube$Pipe" 84 y_Pipe_fromLeft ∈ wd := wd_in (i := 761) (by decide +kernel) (by decide +kernel)
theorem x_762 : Jvm.Cond.instanceMethod y_Pipe_fromLeft ∈ wd := wd_in (i := 762) (by decide +kernel) (by decide +kernel)
theorem x_763 : Jvm.Cond.selects "ShockTube$Pipe" y_Pipe_fromLeft y_Pipe_fromLeft ∈ wd := wd_in (i := 763) (by decide +kernel) (by decide +kernel)
theorem x_764 : Jvm.Cond.code y_Pipe_fromLeft prog_3_method_4_code 3 (Option.some Jvm.ClassFile.FieldType.long) ∈ wd := wd_in (i := 764) (by decide +kernel) (by decide +kernel)
theorem x_765 : Jvm.Cond.constantLong "ShockTube$Pipe" 87 (2 : Int64) ∈ wd := wd_in (i := 765) (by decide +kernel) (by decide +kernel)
theorem x_766 : Jvm.Cond.methodLink "ShockTube$Pipe" 89 y_Math_floorDiv ∈ wd := wd_in (i := 766) (by decide +kernel) (by decide +kernel)
theorem x_767 : Jvm.Cond.constantLong "ShockTube$Pipe" 93 (-100 : Int64) ∈ wd := wd_in (i := 767) (by decide +kernel) (by decide +kernel)
theorem x_768 : Jvm.Cond.methodLink "ShockTube$Pipe" 95 y_Pipe_findCavity ∈ wd := wd_in (i := 768) (by decide +kernel) (by decide +kernel)
theorem x_769 : Jvm.Cond.instanceMethod y_Pipe_findCavity ∈ wd := wd_in (i := 769) (by decide +kernel) (by decide +kernel)
theorem x_770 : Jvm.Cond.selects "ShockTube$Pipe" y_Pipe_findCavity y_Pipe_findCavity ∈ wd := wd_in (i := 770) (by decide +kernel) (by decide +kernel)
theorem x_771 : Jvm.Cond.code y_Pipe_findCavity prog_3_method_10_code 10 (Option.none : Option Jvm.ClassFile.FieldType) ∈ wd := wd_in (i := 771) (by decide +kernel) (by decide +kernel)
theorem x_772 : Jvm.Cond.methodLink "ShockTube$Pipe" 56 y_Pipe_findValve ∈ wd := wd_in (i := 772) (by decide +kernel) (by decide +kernel)
theorem x_773 : Jvm.Cond.instanceMethod y_Pipe_findValve ∈ wd := wd_in (i := 773) (by decide +kernel) (by decide +kernel)
theorem x_774 : Jvm.Cond.selects "ShockTube$Pipe" y_Pipe_findValve y_Pipe_findValve ∈ wd := wd_in (i := 774) (by decide +kernel) (by decide +kernel)
theorem x_775 : Jvm.Cond.code y_Pipe_findValve prog_3_method_9_code 4 (Option.none : Option Jvm.ClassFile.FieldType) ∈ wd := wd_in (i := 775) (by decide +kernel) (by decide +kernel)
theorem x_776 : Jvm.Cond.methodLink "ShockTube$Pipe" 59 y_Pipe_isAllowed ∈ wd := wd_in (i := 776) (by decide +kernel) (by decide +kernel)
theorem x_777 : Jvm.Cond.instanceMethod y_Pipe_isAllowed ∈ wd := wd_in (i := 777) (by decide +kernel) (by decide +kernel)
theorem x_778 : Jvm.Cond.selects "ShockTube$Pipe" y_Pipe_isAllowed y_Pipe_isAllowed ∈ wd := wd_in (i := 778) (by decide +kernel) (by decide +kernel)
theorem x_779 : Jvm.Cond.code y_Pipe_isAllowed prog_3_method_11_code 2 (Option.some Jvm.ClassFile.FieldType.boolean) ∈ wd := wd_in (i := 779) (by decide +kernel) (by decide +kernel)
theorem x_780 : Jvm.Cond.constantLong "ShockTube$Pipe" 99 (1000000 : Int64) ∈ wd := wd_in (i := 780) (by decide +kernel) (by decide +kernel)
theorem x_781 : Jvm.Cond.constantLong "ShockTube$Pipe" 101 (100000 : Int64) ∈ wd := wd_in (i := 781) (by decide +kernel) (by decide +kernel)
theorem x_782 : Jvm.Cond.methodLink "ShockTube$Pipe" 63 y_Pipe_take ∈ wd := wd_in (i := 782) (by decide +kernel) (by decide +kernel)
theorem x_783 : Jvm.Cond.instanceMethod y_Pipe_take ∈ wd := wd_in (i := 783) (by decide +kernel) (by decide +kernel)
theorem x_784 : Jvm.Cond.selects "ShockTube$Pipe" y_Pipe_take y_Pipe_take ∈ wd := wd_in (i := 784) (by decide +kernel) (by decide +kernel)
theorem x_785 : Jvm.Cond.code y_Pipe_take prog_3_method_12_code 2 (Option.none : Option Jvm.ClassFile.FieldType) ∈ wd := wd_in (i := 785) (by decide +kernel) (by decide +kernel)
theorem x_787 : Jvm.Cond.methodLink "ShockTube$Pipe" 107 y_Math_max_1 ∈ wd := wd_in (i := 787) (by decide +kernel) (by decide +kernel)
theorem x_788 : Jvm.Cond.methodLink "ShockTubeLaw" 64 y_X_node ∈ wd := wd_in (i := 788) (by decide +kernel) (by decide +kernel)
theorem x_789 : Jvm.Cond.instanceMethod y_X_node ∈ wd := wd_in (i := 789) (by decide +kernel) (by decide +kernel)
theorem x_790 : Jvm.Cond.selects "ShockTube" y_X_node y_X_node ∈ wd := wd_in (i := 790) (by decide +kernel) (by decide +kernel)
theorem x_791 : Jvm.Cond.code y_X_node prog_1_method_22_code 3 (Option.some Jvm.ClassFile.FieldType.int) ∈ wd := wd_in (i := 791) (by decide +kernel) (by decide +kernel)
theorem x_793 : Jvm.Cond.methodLink "ShockTube" 231 y_Pipe_tells ∈ wd := wd_in (i := 793) (by decide +kernel) (by decide +kernel)
theorem x_794 : Jvm.Cond.instanceMethod y_Pipe_tells ∈ wd := wd_in (i := 794) (by decide +kernel) (by decide +kernel)
theorem x_795 : Jvm.Cond.selects "ShockTube$Pipe" y_Pipe_tells y_Pipe_tells ∈ wd := wd_in (i := 795) (by decide +kernel) (by decide +kernel)
theorem x_796 : Jvm.Cond.code y_Pipe_tells prog_3_method_13_code 3 (Option.some Jvm.ClassFile.FieldType.long) ∈ wd := wd_in (i := 796) (by decide +kernel) (by decide +kernel)
theorem x_797 : Jvm.Cond.methodLink "ShockTubeLaw" 67 y_X_keep ∈ wd := wd_in (i := 797) (by decide +kernel) (by decide +kernel)
theorem x_798 : Jvm.Cond.instanceMethod y_X_keep ∈ wd := wd_in (i := 798) (by decide +kernel) (by decide +kernel)
theorem x_799 : Jvm.Cond.selects "ShockTube" y_X_keep y_X_keep ∈ wd := wd_in (i := 799) (by decide +kernel) (by decide +kernel)
theorem x_800 : Jvm.Cond.code y_X_keep prog_1_method_23_code 3 (Option.none : Option Jvm.ClassFile.FieldType) ∈ wd := wd_in (i := 800) (by decide +kernel) (by decide +kernel)
theorem x_801 : Jvm.Cond.methodLink "ShockTube" 232 y_X_refuseSlot ∈ wd := wd_in (i := 801) (by decide +kernel) (by decide +kernel)
theorem x_802 : Jvm.Cond.static y_X_refuseSlot ∈ wd := wd_in (i := 802) (by decide +kernel) (by decide +kernel)
theorem x_803 : Jvm.Cond.code y_X_refuseSlot prog_1_method_29_code 1 (Option.none : Option Jvm.ClassFile.FieldType) ∈ wd := wd_in (i := 803) (by decide +kernel) (by decide +kernel)
theorem x_805 : Jvm.Cond.methodLink "ShockTube" 235 y_State_copyFrom ∈ wd := wd_in (i := 805) (by decide +kernel) (by decide +kernel)
theorem x_806 : Jvm.Cond.instanceMethod y_State_copyFrom ∈ wd := wd_in (i := 806) (by decide +kernel) (by decide +kernel)
theorem x_807 : Jvm.Cond.selects "ShockTube$State" y_State_copyFrom y_State_copyFrom ∈ wd := wd_in (i := 807) (by decide +kernel) (by decide +kernel)
theorem x_808 : Jvm.Cond.code y_State_copyFrom prog_5_method_2_code 2 (Option.none : Option Jvm.ClassFile.FieldType) ∈ wd := wd_in (i := 808) (by decide +kernel) (by decide +kernel)
theorem x_809 : Jvm.Cond.methodLink "ShockTube$State" 37 y_Tube_copyFrom ∈ wd := wd_in (i := 809) (by decide +kernel) (by decide +kernel)
theorem x_810 : Jvm.Cond.methodLink "ShockTube$State" 41 y_Story_copyFrom ∈ wd := wd_in (i := 810) (by decide +kernel) (by decide +kernel)
theorem x_811 : Jvm.Cond.instanceMethod y_Story_copyFrom ∈ wd := wd_in (i := 811) (by decide +kernel) (by decide +kernel)
theorem x_812 : Jvm.Cond.selects "ShockTube$Story" y_Story_copyFrom y_Story_copyFrom ∈ wd := wd_in (i := 812) (by decide +kernel) (by decide +kernel)
theorem x_813 : Jvm.Cond.code y_Story_copyFrom prog_7_method_6_code 2 (Option.none : Option Jvm.ClassFile.FieldType) ∈ wd := wd_in (i := 813) (by decide +kernel) (by decide +kernel)
theorem x_814 : Jvm.Cond.methodLink "ShockTube$Story" 60 y_System_arraycopy ∈ wd := wd_in (i := 814) (by decide +kernel) (by decide +kernel)
theorem x_815 : Jvm.Cond.methodLink "ShockTube$State" 44 y_Row_copyFrom ∈ wd := wd_in (i := 815) (by decide +kernel) (by decide +kernel)
theorem x_816 : Jvm.Cond.instanceMethod y_Row_copyFrom ∈ wd := wd_in (i := 816) (by decide +kernel) (by decide +kernel)
theorem x_817 : Jvm.Cond.selects "ShockTube$Row" y_Row_copyFrom y_Row_copyFrom ∈ wd := wd_in (i := 817) (by decide +kernel) (by decide +kernel)
theorem x_818 : Jvm.Cond.code y_Row_copyFrom prog_4_method_18_code 2 (Option.none : Option Jvm.ClassFile.FieldType) ∈ wd := wd_in (i := 818) (by decide +kernel) (by decide +kernel)
theorem x_820 : Jvm.Cond.methodLink "ShockTube$State" 47 y_Pipe_copyFrom ∈ wd := wd_in (i := 820) (by decide +kernel) (by decide +kernel)
theorem x_821 : Jvm.Cond.instanceMethod y_Pipe_copyFrom ∈ wd := wd_in (i := 821) (by decide +kernel) (by decide +kernel)
theorem x_822 : Jvm.Cond.selects "ShockTube$Pipe" y_Pipe_copyFrom y_Pipe_copyFrom ∈ wd := wd_in (i := 822) (by decide +kernel) (by decide +kernel)
theorem x_823 : Jvm.Cond.code y_Pipe_copyFrom prog_3_method_14_code 2 (Option.none : Option Jvm.ClassFile.FieldType) ∈ wd := wd_in (i := 823) (by decide +kernel) (by decide +kernel)
theorem x_824 : Jvm.Cond.methodLink "ShockTubeLaw" 73 y_X_goBack ∈ wd := wd_in (i := 824) (by decide +kernel) (by decide +kernel)
theorem x_825 : Jvm.Cond.instanceMethod y_X_goBack ∈ wd := wd_in (i := 825) (by decide +kernel) (by decide +kernel)
theorem x_826 : Jvm.Cond.selects "ShockTube" y_X_goBack y_X_goBack ∈ wd := wd_in (i := 826) (by decide +kernel) (by decide +kernel)
theorem x_827 : Jvm.Cond.code y_X_goBack prog_1_method_24_code 3 (Option.none : Option Jvm.ClassFile.FieldType) ∈ wd := wd_in (i := 827) (by decide +kernel) (by decide +kernel)
theorem x_829 : Jvm.Cond.methodLink "ShockTubeLaw" 11 y_L_cell ∈ wd := wd_in (i := 829) (by decide +kernel) (by decide +kernel)
theorem x_830 : Jvm.Cond.static y_L_cell ∈ wd := wd_in (i := 830) (by decide +kernel) (by decide +kernel)
theorem x_831 : Jvm.Cond.code y_L_cell method_2_code 2 (Option.some Jvm.ClassFile.FieldType.int) ∈ wd := wd_in (i := 831) (by decide +kernel) (by decide +kernel)
theorem x_832 : Jvm.Cond.methodLink "ShockTubeLaw" 17 y_L_low ∈ wd := wd_in (i := 832) (by decide +kernel) (by decide +kernel)
theorem x_833 : Jvm.Cond.static y_L_low ∈ wd := wd_in (i := 833) (by decide +kernel) (by decide +kernel)
theorem x_834 : Jvm.Cond.code y_L_low method_3_code 2 (Option.some Jvm.ClassFile.FieldType.int) ∈ wd := wd_in (i := 834) (by decide +kernel) (by decide +kernel)
theorem x_835 : Jvm.Cond.constant "ShockTubeLaw" 7 (2147483647 : Int32) ∈ wd := wd_in (i := 835) (by decide +kernel) (by decide +kernel)
theorem x_836 : Jvm.Cond.constant "ShockTubeLaw" 46 (100001 : Int32) ∈ wd := wd_in (i := 836) (by decide +kernel) (by decide +kernel)
theorem x_837 : Jvm.Cond.sameMethod "java/lang/Throwable" "java/lang/Throwable" "fillInStackTrace" "(I)Ljava/lang/Throwable;" ∈ wd := wd_in (i := 837) (by decide +kernel) (by decide +kernel)
theorem s_X_refuseCell : Cond.selects "ShockTube" y_X_refuseCell y_X_refuseCell ∈ wd := wd_sel (i := 1) (by decide +kernel) (by decide +kernel)
theorem s_X_refuseNoPipe : Cond.selects "ShockTube" y_X_refuseNoPipe y_X_refuseNoPipe ∈ wd := wd_sel (i := 2) (by decide +kernel) (by decide +kernel)
def F_X : u_T := fun k => match k with
  | 0 => ("ShockTube", "now", "LShockTube$State;", true)
  | 1 => ("ShockTube", "step", "LShockTube$Step;", true)
  | _ => ("ShockTube", "kept", "[LShockTube$State;", true)
def t_X : Nat → FieldType := fun k => match k with
  | 0 => .object "ShockTube$State"
  | 1 => .object "ShockTube$Step"
  | _ => .array (.object "ShockTube$State")
theorem n_X : ∀ a, a < 3 → ∀ b, b < 3 → a ≠ b → (F_X a).2.1 ≠ (F_X b).2.1 := by decide +kernel
theorem t_X_ok : ∀ k, k < 3 → parseFieldDescriptor (F_X k).2.2.1 = some (t_X k) := by decide +kernel
theorem i_X : ∀ w ∈ u_ws "ShockTube" F_X 3, w ∈ wd := by decide +kernel
def F_Laws : u_T := fun k => match k with
  | 0 => ("ShockTube$Laws", "gas", "I", false)
  | 1 => ("ShockTube$Laws", "ignition", "I", false)
  | 2 => ("ShockTube$Laws", "part", "I", false)
  | _ => ("ShockTube$Laws", "heat", "I", false)
def t_Laws : Nat → FieldType := fun k => match k with
  | 0 => .int
  | 1 => .int
  | 2 => .int
  | _ => .int
theorem n_Laws : ∀ a, a < 4 → ∀ b, b < 4 → a ≠ b → (F_Laws a).2.1 ≠ (F_Laws b).2.1 := by decide +kernel
theorem t_Laws_ok : ∀ k, k < 4 → parseFieldDescriptor (F_Laws k).2.2.1 = some (t_Laws k) := by decide +kernel
theorem i_Laws : ∀ w ∈ u_ws "ShockTube$Laws" F_Laws 4, w ∈ wd := by decide +kernel
def F_Pipe : u_T := fun k => match k with
  | 0 => ("ShockTube$Pipe", "nodes", "I", false)
  | 1 => ("ShockTube$Pipe", "impedance", "I", false)
  | 2 => ("ShockTube$Pipe", "friction", "I", false)
  | 3 => ("ShockTube$Pipe", "loss", "I", false)
  | 4 => ("ShockTube$Pipe", "opening", "I", false)
  | 5 => ("ShockTube$Pipe", "reservoirHead", "I", false)
  | 6 => ("ShockTube$Pipe", "head", "[J", true)
  | 7 => ("ShockTube$Pipe", "flow", "[J", true)
  | 8 => ("ShockTube$Pipe", "cavity", "[J", true)
  | 9 => ("ShockTube$Pipe", "greatest", "[J", true)
  | 10 => ("ShockTube$Pipe", "nextHead", "[J", true)
  | 11 => ("ShockTube$Pipe", "nextFlow", "[J", true)
  | _ => ("ShockTube$Pipe", "nextCavity", "[J", true)
def t_Pipe : Nat → FieldType := fun k => match k with
  | 0 => .int
  | 1 => .int
  | 2 => .int
  | 3 => .int
  | 4 => .int
  | 5 => .int
  | 6 => .array (.long)
  | 7 => .array (.long)
  | 8 => .array (.long)
  | 9 => .array (.long)
  | 10 => .array (.long)
  | 11 => .array (.long)
  | _ => .array (.long)
theorem n_Pipe : ∀ a, a < 13 → ∀ b, b < 13 → a ≠ b → (F_Pipe a).2.1 ≠ (F_Pipe b).2.1 := by decide +kernel
theorem t_Pipe_ok : ∀ k, k < 13 → parseFieldDescriptor (F_Pipe k).2.2.1 = some (t_Pipe k) := by decide +kernel
theorem i_Pipe : ∀ w ∈ u_ws "ShockTube$Pipe" F_Pipe 13, w ∈ wd := by decide +kernel
def F_Row : u_T := fun k => match k with
  | 0 => ("ShockTube$Row", "count", "I", false)
  | 1 => ("ShockTube$Row", "kind", "[I", true)
  | 2 => ("ShockTube$Row", "place", "[I", true)
  | 3 => ("ShockTube$Row", "ahead", "[I", true)
  | 4 => ("ShockTube$Row", "speed", "[I", true)
  | _ => ("ShockTube$Row", "strength", "[I", true)
def t_Row : Nat → FieldType := fun k => match k with
  | 0 => .int
  | 1 => .array (.int)
  | 2 => .array (.int)
  | 3 => .array (.int)
  | 4 => .array (.int)
  | _ => .array (.int)
theorem n_Row : ∀ a, a < 6 → ∀ b, b < 6 → a ≠ b → (F_Row a).2.1 ≠ (F_Row b).2.1 := by decide +kernel
theorem t_Row_ok : ∀ k, k < 6 → parseFieldDescriptor (F_Row k).2.2.1 = some (t_Row k) := by decide +kernel
theorem i_Row : ∀ w ∈ u_ws "ShockTube$Row" F_Row 6, w ∈ wd := by decide +kernel
def F_State : u_T := fun k => match k with
  | 0 => ("ShockTube$State", "tube", "LShockTube$Tube;", true)
  | 1 => ("ShockTube$State", "story", "LShockTube$Story;", true)
  | 2 => ("ShockTube$State", "row", "LShockTube$Row;", true)
  | _ => ("ShockTube$State", "pipe", "LShockTube$Pipe;", true)
def t_State : Nat → FieldType := fun k => match k with
  | 0 => .object "ShockTube$Tube"
  | 1 => .object "ShockTube$Story"
  | 2 => .object "ShockTube$Row"
  | _ => .object "ShockTube$Pipe"
theorem n_State : ∀ a, a < 4 → ∀ b, b < 4 → a ≠ b → (F_State a).2.1 ≠ (F_State b).2.1 := by decide +kernel
theorem t_State_ok : ∀ k, k < 4 → parseFieldDescriptor (F_State k).2.2.1 = some (t_State k) := by decide +kernel
theorem i_State : ∀ w ∈ u_ws "ShockTube$State" F_State 4, w ∈ wd := by decide +kernel
def F_Step : u_T := fun k => match k with
  | 0 => ("ShockTube$Step", "speed", "[J", true)
  | 1 => ("ShockTube$Step", "sound", "[J", true)
  | 2 => ("ShockTube$Step", "carries", "[[J", true)
  | 3 => ("ShockTube$Step", "pace", "[J", true)
  | 4 => ("ShockTube$Step", "over", "[[J", true)
  | 5 => ("ShockTube$Step", "next", "[[J", true)
  | 6 => ("ShockTube$Step", "pressureBehind", "[J", true)
  | _ => ("ShockTube$Step", "burnt", "J", false)
def t_Step : Nat → FieldType := fun k => match k with
  | 0 => .array (.long)
  | 1 => .array (.long)
  | 2 => .array (.array (.long))
  | 3 => .array (.long)
  | 4 => .array (.array (.long))
  | 5 => .array (.array (.long))
  | 6 => .array (.long)
  | _ => .long
theorem n_Step : ∀ a, a < 8 → ∀ b, b < 8 → a ≠ b → (F_Step a).2.1 ≠ (F_Step b).2.1 := by decide +kernel
theorem t_Step_ok : ∀ k, k < 8 → parseFieldDescriptor (F_Step k).2.2.1 = some (t_Step k) := by decide +kernel
theorem i_Step : ∀ w ∈ u_ws "ShockTube$Step" F_Step 8, w ∈ wd := by decide +kernel
def F_Story : u_T := fun k => match k with
  | 0 => ("ShockTube$Story", "notes", "[I", true)
  | 1 => ("ShockTube$Story", "count", "I", false)
  | 2 => ("ShockTube$Story", "gone", "I", false)
  | _ => ("ShockTube$Story", "anew", "LShockTube$Tube;", true)
def t_Story : Nat → FieldType := fun k => match k with
  | 0 => .array (.int)
  | 1 => .int
  | 2 => .int
  | _ => .object "ShockTube$Tube"
theorem n_Story : ∀ a, a < 4 → ∀ b, b < 4 → a ≠ b → (F_Story a).2.1 ≠ (F_Story b).2.1 := by decide +kernel
theorem t_Story_ok : ∀ k, k < 4 → parseFieldDescriptor (F_Story k).2.2.1 = some (t_Story k) := by decide +kernel
theorem i_Story : ∀ w ∈ u_ws "ShockTube$Story" F_Story 4, w ∈ wd := by decide +kernel
def F_Tube : u_T := fun k => match k with
  | 0 => ("ShockTube$Tube", "laws", "LShockTube$Laws;", true)
  | 1 => ("ShockTube$Tube", "many", "I", false)
  | 2 => ("ShockTube$Tube", "leftEnd", "I", false)
  | 3 => ("ShockTube$Tube", "rightEnd", "I", false)
  | 4 => ("ShockTube$Tube", "steps", "I", false)
  | 5 => ("ShockTube$Tube", "has", "[[J", true)
  | 6 => ("ShockTube$Tube", "told", "[J", true)
  | 7 => ("ShockTube$Tube", "came", "[J", true)
  | 8 => ("ShockTube$Tube", "greatest", "[J", true)
  | _ => ("ShockTube$Tube", "greatestStep", "[I", true)
def t_Tube : Nat → FieldType := fun k => match k with
  | 0 => .object "ShockTube$Laws"
  | 1 => .int
  | 2 => .int
  | 3 => .int
  | 4 => .int
  | 5 => .array (.array (.long))
  | 6 => .array (.long)
  | 7 => .array (.long)
  | 8 => .array (.long)
  | _ => .array (.int)
theorem n_Tube : ∀ a, a < 10 → ∀ b, b < 10 → a ≠ b → (F_Tube a).2.1 ≠ (F_Tube b).2.1 := by decide +kernel
theorem t_Tube_ok : ∀ k, k < 10 → parseFieldDescriptor (F_Tube k).2.2.1 = some (t_Tube k) := by decide +kernel
theorem i_Tube : ∀ w ∈ u_ws "ShockTube$Tube" F_Tube 10, w ∈ wd := by decide +kernel
abbrev classes : List vw_C := [("ShockTube", F_X, 3), ("ShockTube$Laws", F_Laws, 4), ("ShockTube$Pipe", F_Pipe, 13), ("ShockTube$Row", F_Row, 6), ("ShockTube$State", F_State, 4), ("ShockTube$Step", F_Step, 8), ("ShockTube$Story", F_Story, 4), ("ShockTube$Tube", F_Tube, 10)]
def nestw : List Cond := [Cond.methodLinkNest "ShockTube" 9 y_State_init "ShockTube", Cond.methodLinkNest "ShockTube$Tube" 11 y_Laws_init "ShockTube", Cond.methodLinkNest "ShockTube$State" 18 y_Story_init "ShockTube", Cond.methodLinkNest "ShockTube$State" 25 y_Row_init "ShockTube", Cond.methodLinkNest "ShockTube$State" 32 y_Pipe_init "ShockTube", Cond.methodLinkNest "ShockTube" 18 y_Step_init "ShockTube", Cond.methodLinkNest "ShockTube$Tube" 91 y_X_copyRow_1 "ShockTube", Cond.methodLinkNest "ShockTube$Tube" 95 y_X_copyRow_0 "ShockTube", Cond.fieldLinkNest "ShockTube$Laws" 41 "ShockTube" "PRESSURE_TIMES" "[I" "ShockTube", Cond.fieldLinkNest "ShockTube$Laws" 45 "ShockTube" "PRESSURE_PARTS" "[I" "ShockTube", Cond.fieldLinkNest "ShockTube$Laws" 48 "ShockTube" "SOUND_TIMES" "[I" "ShockTube", Cond.fieldLinkNest "ShockTube$Laws" 53 "ShockTube" "SOUND_PARTS" "[I" "ShockTube", Cond.methodLinkNest "ShockTube$Step" 165 y_X_copyRow_1 "ShockTube", Cond.methodLinkNest "ShockTube$Pipe" 103 y_X_copyRow_1 "ShockTube", Cond.methodLinkNest "ShockTube$Row" 85 y_X_copyRow_0 "ShockTube"]
def strsw : List (String × Nat × String) := [("ShockTube", 33, "a tube has 2 to 32 cells and ends that are OPEN or a WALL"), ("ShockTube", 57, "the gas is AIR, HELIUM or STEAM"), ("ShockTube", 241, "there is no such cell"), ("ShockTube", 81, "a cell with a part out of its range"), ("ShockTube", 89, "the cell would move with more energy than it has"), ("ShockTube", 97, "an ignition with a part out of its range"), ("ShockTube", 102, "t is 1 to 400, and steps are 1 to 50"), ("ShockTube", 107, "a tube does at most 300 steps"), ("ShockTube", 243, "nothing is told under this number"), ("ShockTube", 154, "a front with a part out of its range"), ("ShockTube", 165, "there are at most 8 fronts"), ("ShockTube", 245, "ticks are 1 to 100"), ("ShockTube", 191, "a pipe with a part out of its range"), ("ShockTube", 209, "a valve is open by 0 to 100"), ("ShockTube", 247, "there is no pipe"), ("ShockTube", 229, "there is no such node"), ("ShockTube", 249, "slots are 0 to 3"), ("ShockTube", 239, "nothing was kept there")]
