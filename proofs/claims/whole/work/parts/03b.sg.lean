/-! the signatures: name, bytes, locals, return type, parameters, places of its words -/
def y_H_init : MethodName := ⟨"PatchHouse", "<init>", "()V"⟩
def y_H_feed : MethodName := ⟨"PatchHouse", "feed", "(IIIII)I"⟩
def y_H_end : MethodName := ⟨"PatchHouse", "end", "(I)I"⟩
def y_H_patch : MethodName := ⟨"PatchHouse", "patch", "(I)I"⟩
def y_H_load : MethodName := ⟨"PatchHouse", "load", "(I)I"⟩
def y_H_save : MethodName := ⟨"PatchHouse", "save", "(I)I"⟩
def y_H_out : MethodName := ⟨"PatchHouse", "out", "(I)I"⟩
def y_H_run : MethodName := ⟨"PatchHouse", "run", "(II)I"⟩
def y_H_look : MethodName := ⟨"PatchHouse", "look", "(I)I"⟩
def y_H_number : MethodName := ⟨"PatchHouse", "number", "(I)I"⟩
def y_H_real : MethodName := ⟨"PatchHouse", "real", "(I)J"⟩
def y_H_slot : MethodName := ⟨"PatchHouse", "slot", "(II)I"⟩
def y_H_member : MethodName := ⟨"PatchHouse", "member", "(II)J"⟩
def y_H_same : MethodName := ⟨"PatchHouse", "same", "(II)I"⟩
def y_M_init : MethodName := ⟨"PatchHouseModel", "<init>", "()V"⟩
def y_M_thrown : MethodName := ⟨"PatchHouseModel", "thrown", "()I"⟩
def y_M_isNo : MethodName := ⟨"PatchHouseModel", "isNo", "(J)Z"⟩
def y_M_isInfinite : MethodName := ⟨"PatchHouseModel", "isInfinite", "(J)Z"⟩
def y_M_isZero : MethodName := ⟨"PatchHouseModel", "isZero", "(J)Z"⟩
def y_M_kept : MethodName := ⟨"PatchHouseModel", "kept", "(J)J"⟩
def y_M_mantissa : MethodName := ⟨"PatchHouseModel", "mantissa", "(J)J"⟩
def y_M_power : MethodName := ⟨"PatchHouseModel", "power", "(J)I"⟩
def y_M_bits : MethodName := ⟨"PatchHouseModel", "bits", "(J)I"⟩
def y_M_packed : MethodName := ⟨"PatchHouseModel", "packed", "(JIZII)J"⟩
def y_M_signed : MethodName := ⟨"PatchHouseModel", "signed", "(ZJIZ)J"⟩
def y_M_added : MethodName := ⟨"PatchHouseModel", "added", "(JJ)J"⟩
def y_M_times : MethodName := ⟨"PatchHouseModel", "times", "(JJ)J"⟩
def y_M_by : MethodName := ⟨"PatchHouseModel", "by", "(JJ)J"⟩
def y_M_left : MethodName := ⟨"PatchHouseModel", "left", "(JJ)J"⟩
def y_M_root : MethodName := ⟨"PatchHouseModel", "root", "(J)J"⟩
def y_M_order : MethodName := ⟨"PatchHouseModel", "order", "(JJ)I"⟩
def y_M_realOf : MethodName := ⟨"PatchHouseModel", "realOf", "(J)J"⟩
def y_M_whole : MethodName := ⟨"PatchHouseModel", "whole", "(J)I"⟩
def y_M_even : MethodName := ⟨"PatchHouseModel", "even", "(JI)J"⟩
def y_M_above : MethodName := ⟨"PatchHouseModel", "above", "(J)J"⟩
def y_M_step : MethodName := ⟨"PatchHouseModel", "step", "(J)J"⟩
def y_M_narrow : MethodName := ⟨"PatchHouseModel", "narrow", "(J)I"⟩
def y_M_wide : MethodName := ⟨"PatchHouseModel", "wide", "(I)J"⟩
def y_M_keptNarrow : MethodName := ⟨"PatchHouseModel", "keptNarrow", "(I)I"⟩
def y_M_two : MethodName := ⟨"PatchHouseModel", "two", "(JJI)J"⟩
def y_M_one : MethodName := ⟨"PatchHouseModel", "one", "(JI)J"⟩
def y_M_isRow : MethodName := ⟨"PatchHouseModel", "isRow", "(I)Z"⟩
def y_M_isPart : MethodName := ⟨"PatchHouseModel", "isPart", "(I)Z"⟩
def y_M_hasMembers : MethodName := ⟨"PatchHouseModel", "hasMembers", "(I)Z"⟩
def y_M_isBelow : MethodName := ⟨"PatchHouseModel", "isBelow", "(II)Z"⟩
def y_M_pays : MethodName := ⟨"PatchHouseModel", "pays", "(J)Z"⟩
def y_M_thing : MethodName := ⟨"PatchHouseModel", "thing", "(III)I"⟩
def y_M_fault : MethodName := ⟨"PatchHouseModel", "fault", "(II)I"⟩
def y_M_fails : MethodName := ⟨"PatchHouseModel", "fails", "(I)I"⟩
def y_M_takes : MethodName := ⟨"PatchHouseModel", "takes", "(J)I"⟩
def y_M_takesFor : MethodName := ⟨"PatchHouseModel", "takesFor", "(J)I"⟩
def y_M_feed : MethodName := ⟨"PatchHouseModel", "feed", "(IIIII)I"⟩
def y_M_four : MethodName := ⟨"PatchHouseModel", "four", "(I)V"⟩
def y_M_end : MethodName := ⟨"PatchHouseModel", "end", "(I)I"⟩
def y_M_wholeOf : MethodName := ⟨"PatchHouseModel", "wholeOf", "(I)I"⟩
def y_M_mostOf : MethodName := ⟨"PatchHouseModel", "mostOf", "(III)I"⟩
def y_M_leastOf : MethodName := ⟨"PatchHouseModel", "leastOf", "(II)I"⟩
def y_M_wrong : MethodName := ⟨"PatchHouseModel", "wrong", "(III)I"⟩
def y_M_patch : MethodName := ⟨"PatchHouseModel", "patch", "(I)I"⟩
def y_M_run : MethodName := ⟨"PatchHouseModel", "run", "(II)I"⟩
def y_M_part : MethodName := ⟨"PatchHouseModel", "part", "(II)I"⟩
def y_M_patches : MethodName := ⟨"PatchHouseModel", "patches", "(I)I"⟩
def y_M_scope : MethodName := ⟨"PatchHouseModel", "scope", "(II)I"⟩
def y_M_back : MethodName := ⟨"PatchHouseModel", "back", "(II)V"⟩
def y_M_cloned : MethodName := ⟨"PatchHouseModel", "cloned", "(I)I"⟩
def y_M_eight : MethodName := ⟨"PatchHouseModel", "eight", "(II)I"⟩
def y_M_act : MethodName := ⟨"PatchHouseModel", "act", "(II)I"⟩
def y_M_reckons : MethodName := ⟨"PatchHouseModel", "reckons", "(II)I"⟩
def y_M_ints : MethodName := ⟨"PatchHouseModel", "ints", "(IIII)I"⟩
def y_M_makes : MethodName := ⟨"PatchHouseModel", "makes", "(II)I"⟩
def y_M_grid : MethodName := ⟨"PatchHouseModel", "grid", "(III)I"⟩
def y_M_is : MethodName := ⟨"PatchHouseModel", "is", "(II)Z"⟩
def y_M_members : MethodName := ⟨"PatchHouseModel", "members", "(II)I"⟩
def y_M_cut : MethodName := ⟨"PatchHouseModel", "cut", "(II)J"⟩
def y_M_goes : MethodName := ⟨"PatchHouseModel", "goes", "(II)Z"⟩
def y_M_copies : MethodName := ⟨"PatchHouseModel", "copies", "(IIIII)I"⟩
def y_M_places : MethodName := ⟨"PatchHouseModel", "places", "(II)I"⟩
def y_M_fields : MethodName := ⟨"PatchHouseModel", "fields", "(II)I"⟩
def y_M_asks : MethodName := ⟨"PatchHouseModel", "asks", "(I)I"⟩
def y_M_weighs : MethodName := ⟨"PatchHouseModel", "weighs", "(II)I"⟩
def y_M_load : MethodName := ⟨"PatchHouseModel", "load", "(I)I"⟩
def y_M_has : MethodName := ⟨"PatchHouseModel", "has", "(I)Z"⟩
def y_M_next : MethodName := ⟨"PatchHouseModel", "next", "(I)J"⟩
def y_M_wideOf : MethodName := ⟨"PatchHouseModel", "wideOf", "(I)I"⟩
def y_M_parse : MethodName := ⟨"PatchHouseModel", "parse", "(I)I"⟩
def y_M_parseMany : MethodName := ⟨"PatchHouseModel", "parseMany", "(II)I"⟩
def y_M_parseTrouble : MethodName := ⟨"PatchHouseModel", "parseTrouble", "()I"⟩
def y_M_parsePart : MethodName := ⟨"PatchHouseModel", "parsePart", "(II)I"⟩
def y_M_save : MethodName := ⟨"PatchHouseModel", "save", "(I)I"⟩
def y_M_tell : MethodName := ⟨"PatchHouseModel", "tell", "(JI)I"⟩
def y_M_write : MethodName := ⟨"PatchHouseModel", "write", "(II)I"⟩
def y_M_out : MethodName := ⟨"PatchHouseModel", "out", "(I)I"⟩
def y_M_look : MethodName := ⟨"PatchHouseModel", "look", "(I)I"⟩
def y_M_number : MethodName := ⟨"PatchHouseModel", "number", "(I)I"⟩
def y_M_real : MethodName := ⟨"PatchHouseModel", "real", "(I)J"⟩
def y_M_slot : MethodName := ⟨"PatchHouseModel", "slot", "(II)I"⟩
def y_M_member : MethodName := ⟨"PatchHouseModel", "member", "(II)J"⟩
def y_M_same : MethodName := ⟨"PatchHouseModel", "same", "(II)I"⟩
def y_En_init : MethodName := ⟨"PatchHouse$Engine", "<init>", "(LPatchHouse$Patches;LPatchHouse$Ops;LPatchHouse$Ledger;)V"⟩
def y_En_perform : MethodName := ⟨"PatchHouse$Engine", "perform", "(I)I"⟩
def y_En_byteAt : MethodName := ⟨"PatchHouse$Engine", "byteAt", "(I)I"⟩
def y_En_push : MethodName := ⟨"PatchHouse$Engine", "push", "(IIII)V"⟩
def y_En_pop : MethodName := ⟨"PatchHouse$Engine", "pop", "(I)V"⟩
def y_En_beginPatch : MethodName := ⟨"PatchHouse$Engine", "beginPatch", "(I)V"⟩
def y_En_beginOp : MethodName := ⟨"PatchHouse$Engine", "beginOp", "(I)V"⟩
def y_En_isOn : MethodName := ⟨"PatchHouse$Engine", "isOn", "(I)Z"⟩
def y_En_choose : MethodName := ⟨"PatchHouse$Engine", "choose", "(III)V"⟩
def y_En_beginScope : MethodName := ⟨"PatchHouse$Engine", "beginScope", "(III)V"⟩
def y_En_saves : MethodName := ⟨"PatchHouse$Engine", "saves", "(II)Z"⟩
def y_En_keepSlots : MethodName := ⟨"PatchHouse$Engine", "keepSlots", "(I)V"⟩
def y_En_keepSlot : MethodName := ⟨"PatchHouse$Engine", "keepSlot", "(ILPatchHouse$Thing;)V"⟩
def y_En_putSlotsBack : MethodName := ⟨"PatchHouse$Engine", "putSlotsBack", "(I)V"⟩
def y_En_leave : MethodName := ⟨"PatchHouse$Engine", "leave", "(I)V"⟩
def y_En_beginFurtherRound : MethodName := ⟨"PatchHouse$Engine", "beginFurtherRound", "(I)V"⟩
def y_En_beginAlways : MethodName := ⟨"PatchHouse$Engine", "beginAlways", "(III)V"⟩
def y_En_beginHandler : MethodName := ⟨"PatchHouse$Engine", "beginHandler", "(III)V"⟩
def y_En_leaveByFault : MethodName := ⟨"PatchHouse$Engine", "leaveByFault", "(I)V"⟩
def y_Fo_init : MethodName := ⟨"PatchHouse$Form", "<init>", "(LPatchHouse$Ledger;)V"⟩
def y_Fo_append : MethodName := ⟨"PatchHouse$Form", "append", "(I)V"⟩
def y_Fo_bytesOf : MethodName := ⟨"PatchHouse$Form", "bytesOf", "(I)I"⟩
def y_Fo_readTape : MethodName := ⟨"PatchHouse$Form", "readTape", "(I)LPatchHouse$Thing;"⟩
def y_Fo_readThing : MethodName := ⟨"PatchHouse$Form", "readThing", "(I)LPatchHouse$Thing;"⟩
def y_Fo_readBytes : MethodName := ⟨"PatchHouse$Form", "readBytes", "(I)J"⟩
def y_Fo_readSize : MethodName := ⟨"PatchHouse$Form", "readSize", "()I"⟩
def y_Fo_readRow : MethodName := ⟨"PatchHouse$Form", "readRow", "(I)LPatchHouse$Thing;"⟩
def y_Fo_readShelf : MethodName := ⟨"PatchHouse$Form", "readShelf", "(II)LPatchHouse$Thing;"⟩
def y_Fo_readPart : MethodName := ⟨"PatchHouse$Form", "readPart", "(II)LPatchHouse$Thing;"⟩
def y_Fo_readInner : MethodName := ⟨"PatchHouse$Form", "readInner", "(LPatchHouse$Part;I)V"⟩
def y_Fo_writeOut : MethodName := ⟨"PatchHouse$Form", "writeOut", "(LPatchHouse$Thing;)I"⟩
def y_Fo_writeThing : MethodName := ⟨"PatchHouse$Form", "writeThing", "(LPatchHouse$Thing;I)V"⟩
def y_Fo_writeBytes : MethodName := ⟨"PatchHouse$Form", "writeBytes", "(JI)V"⟩
def y_Fo_writeRow : MethodName := ⟨"PatchHouse$Form", "writeRow", "(LPatchHouse$Row;)V"⟩
def y_Fo_writeShelf : MethodName := ⟨"PatchHouse$Form", "writeShelf", "(LPatchHouse$Shelf;I)V"⟩
def y_Fo_writePart : MethodName := ⟨"PatchHouse$Form", "writePart", "(LPatchHouse$Part;I)V"⟩
def y_Le_init : MethodName := ⟨"PatchHouse$Ledger", "<init>", "()V"⟩
def y_Le_settle : MethodName := ⟨"PatchHouse$Ledger", "settle", "()V"⟩
def y_Le_stopped : MethodName := ⟨"PatchHouse$Ledger", "stopped", "()Z"⟩
def y_Le_make : MethodName := ⟨"PatchHouse$Ledger", "make", "(J)Z"⟩
def y_Le_burn : MethodName := ⟨"PatchHouse$Ledger", "burn", "(J)Z"⟩
def y_Le_fault : MethodName := ⟨"PatchHouse$Ledger", "fault", "(I)V"⟩
def y_Le_faultTold : MethodName := ⟨"PatchHouse$Ledger", "faultTold", "(I)V"⟩
def y_Le_handOn : MethodName := ⟨"PatchHouse$Ledger", "handOn", "(II)V"⟩
def y_Op_init : MethodName := ⟨"PatchHouse$Ops", "<init>", "([BLPatchHouse$Ledger;)V"⟩
def y_Op_perform : MethodName := ⟨"PatchHouse$Ops", "perform", "(I)V"⟩
def y_Op_operand : MethodName := ⟨"PatchHouse$Ops", "operand", "(I)I"⟩
def y_Op_bytes : MethodName := ⟨"PatchHouse$Ops", "bytes", "(II)J"⟩
def y_Op_numberAt : MethodName := ⟨"PatchHouse$Ops", "numberAt", "(I)I"⟩
def y_Op_setNumber : MethodName := ⟨"PatchHouse$Ops", "setNumber", "(II)V"⟩
def y_Op_realAt : MethodName := ⟨"PatchHouse$Ops", "realAt", "(I)J"⟩
def y_Op_setReal : MethodName := ⟨"PatchHouse$Ops", "setReal", "(IJ)V"⟩
def y_Op_slotAt : MethodName := ⟨"PatchHouse$Ops", "slotAt", "(I)LPatchHouse$Thing;"⟩
def y_Op_setSlot : MethodName := ⟨"PatchHouse$Ops", "setSlot", "(ILPatchHouse$Thing;)V"⟩
def y_Op_miss : MethodName := ⟨"PatchHouse$Ops", "miss", "(LPatchHouse$Thing;)V"⟩
def y_Op_isWithin : MethodName := ⟨"PatchHouse$Ops", "isWithin", "(II)Z"⟩
def y_Op_eighths : MethodName := ⟨"PatchHouse$Ops", "eighths", "(J)J"⟩
def y_Op_calculate : MethodName := ⟨"PatchHouse$Ops", "calculate", "(III)V"⟩
def y_Op_calculated : MethodName := ⟨"PatchHouse$Ops", "calculated", "(III)I"⟩
def y_Op_makeRow : MethodName := ⟨"PatchHouse$Ops", "makeRow", "(I)V"⟩
def y_Op_makeGrid : MethodName := ⟨"PatchHouse$Ops", "makeGrid", "(II)V"⟩
def y_Op_makeBox : MethodName := ⟨"PatchHouse$Ops", "makeBox", "(I)V"⟩
def y_Op_makePart : MethodName := ⟨"PatchHouse$Ops", "makePart", "()V"⟩
def y_Op_makeTrouble : MethodName := ⟨"PatchHouse$Ops", "makeTrouble", "()V"⟩
def y_Op_makeTwin : MethodName := ⟨"PatchHouse$Ops", "makeTwin", "(LPatchHouse$Thing;)V"⟩
def y_Op_countMembers : MethodName := ⟨"PatchHouse$Ops", "countMembers", "(LPatchHouse$Thing;)V"⟩
def y_Op_fits : MethodName := ⟨"PatchHouse$Ops", "fits", "(LPatchHouse$Thing;I)Z"⟩
def y_Op_takeMember : MethodName := ⟨"PatchHouse$Ops", "takeMember", "(LPatchHouse$Thing;I)V"⟩
def y_Op_putMember : MethodName := ⟨"PatchHouse$Ops", "putMember", "(LPatchHouse$Thing;I)V"⟩
def y_Op_areAlike : MethodName := ⟨"PatchHouse$Ops", "areAlike", "(LPatchHouse$Thing;LPatchHouse$Thing;)Z"⟩
def y_Op_copyMembers : MethodName := ⟨"PatchHouse$Ops", "copyMembers", "(LPatchHouse$Thing;LPatchHouse$Thing;)V"⟩
def y_Op_takeThing : MethodName := ⟨"PatchHouse$Ops", "takeThing", "(ILPatchHouse$Thing;I)V"⟩
def y_Op_putThing : MethodName := ⟨"PatchHouse$Ops", "putThing", "(ILPatchHouse$Thing;ILPatchHouse$Thing;)V"⟩
def y_Op_takeField : MethodName := ⟨"PatchHouse$Ops", "takeField", "(ILPatchHouse$Thing;)V"⟩
def y_Op_putField : MethodName := ⟨"PatchHouse$Ops", "putField", "(ILPatchHouse$Thing;)V"⟩
def y_Op_putInner : MethodName := ⟨"PatchHouse$Ops", "putInner", "(LPatchHouse$Thing;LPatchHouse$Thing;)V"⟩
def y_Op_ask : MethodName := ⟨"PatchHouse$Ops", "ask", "(ILPatchHouse$Thing;I)V"⟩
def y_Op_tell : MethodName := ⟨"PatchHouse$Ops", "tell", "(LPatchHouse$Thing;)V"⟩
def y_Pa_init : MethodName := ⟨"PatchHouse$Part", "<init>", "(I)V"⟩
def y_Pa_kind : MethodName := ⟨"PatchHouse$Part", "kind", "()I"⟩
def y_Pa_tellable : MethodName := ⟨"PatchHouse$Part", "tellable", "()I"⟩
def y_Pa_told : MethodName := ⟨"PatchHouse$Part", "told", "(I)J"⟩
def y_Pa_isBelow : MethodName := ⟨"PatchHouse$Part", "isBelow", "(II)Z"⟩
def y_Pa_isWeighed : MethodName := ⟨"PatchHouse$Part", "isWeighed", "()Z"⟩
def y_Pa_isPriced : MethodName := ⟨"PatchHouse$Part", "isPriced", "()Z"⟩
def y_Pa_has : MethodName := ⟨"PatchHouse$Part", "has", "(I)Z"⟩
def y_Pa_answers : MethodName := ⟨"PatchHouse$Part", "answers", "(I)Z"⟩
def y_Pa_weighs : MethodName := ⟨"PatchHouse$Part", "weighs", "(LPatchHouse$Ledger;I)J"⟩
def y_Pa_loadOf : MethodName := ⟨"PatchHouse$Part", "loadOf", "(IJ)J"⟩
def y_Pa_label : MethodName := ⟨"PatchHouse$Part", "label", "()I"⟩
def y_Pt_init : MethodName := ⟨"PatchHouse$Patches", "<init>", "()V"⟩
def y_Pt_take : MethodName := ⟨"PatchHouse$Patches", "take", "(I[BI)I"⟩
def y_Pt_operands : MethodName := ⟨"PatchHouse$Patches", "operands", "(I)Ljava/lang/String;"⟩
def y_Pt_choices : MethodName := ⟨"PatchHouse$Patches", "choices", "(I)I"⟩
def y_Pt_greatest : MethodName := ⟨"PatchHouse$Patches", "greatest", "(CII)I"⟩
def y_Pt_parts : MethodName := ⟨"PatchHouse$Patches", "parts", "(I)I"⟩
def y_Pt_firstWrong : MethodName := ⟨"PatchHouse$Patches", "firstWrong", "([BIII)I"⟩
def y_Pt_wrongOperand : MethodName := ⟨"PatchHouse$Patches", "wrongOperand", "([BILjava/lang/String;)I"⟩
def y_Pt_wrongPart : MethodName := ⟨"PatchHouse$Patches", "wrongPart", "([BIIII)I"⟩
def y_Re_size : MethodName := ⟨"PatchHouse$Real", "size", "(J)J"⟩
def y_Re_isNan : MethodName := ⟨"PatchHouse$Real", "isNan", "(J)Z"⟩
def y_Re_plain : MethodName := ⟨"PatchHouse$Real", "plain", "(J)J"⟩
def y_Re_plainFloat : MethodName := ⟨"PatchHouse$Real", "plainFloat", "(I)I"⟩
def y_Re_field : MethodName := ⟨"PatchHouse$Real", "field", "(J)I"⟩
def y_Re_mantissa : MethodName := ⟨"PatchHouse$Real", "mantissa", "(J)J"⟩
def y_Re_exponent : MethodName := ⟨"PatchHouse$Real", "exponent", "(J)I"⟩
def y_Re_gap : MethodName := ⟨"PatchHouse$Real", "gap", "(J)I"⟩
def y_Re_rounded : MethodName := ⟨"PatchHouse$Real", "rounded", "(JIII)J"⟩
def y_Re_ofInt : MethodName := ⟨"PatchHouse$Real", "ofInt", "(I)J"⟩
def y_Re_toInt : MethodName := ⟨"PatchHouse$Real", "toInt", "(J)I"⟩
def y_Re_toFloat : MethodName := ⟨"PatchHouse$Real", "toFloat", "(J)I"⟩
def y_Re_ofFloat : MethodName := ⟨"PatchHouse$Real", "ofFloat", "(I)J"⟩
def y_Re_sum : MethodName := ⟨"PatchHouse$Real", "sum", "(JJ)J"⟩
def y_Re_movedRight : MethodName := ⟨"PatchHouse$Real", "movedRight", "(JI)J"⟩
def y_Re_turned : MethodName := ⟨"PatchHouse$Real", "turned", "(J)J"⟩
def y_Re_product : MethodName := ⟨"PatchHouse$Real", "product", "(JJ)J"⟩
def y_Re_quotient : MethodName := ⟨"PatchHouse$Real", "quotient", "(JJ)J"⟩
def y_Re_remainder : MethodName := ⟨"PatchHouse$Real", "remainder", "(JJ)J"⟩
def y_Re_root : MethodName := ⟨"PatchHouse$Real", "root", "(J)J"⟩
def y_Re_whole : MethodName := ⟨"PatchHouse$Real", "whole", "(IJ)J"⟩
def y_Re_signOf : MethodName := ⟨"PatchHouse$Real", "signOf", "(J)J"⟩
def y_Re_step : MethodName := ⟨"PatchHouse$Real", "step", "(J)J"⟩
def y_Re_above : MethodName := ⟨"PatchHouse$Real", "above", "(J)J"⟩
def y_Re_rank : MethodName := ⟨"PatchHouse$Real", "rank", "(J)J"⟩
def y_Re_greater : MethodName := ⟨"PatchHouse$Real", "greater", "(JJ)J"⟩
def y_Re_lesser : MethodName := ⟨"PatchHouse$Real", "lesser", "(JJ)J"⟩
def y_Re_withSign : MethodName := ⟨"PatchHouse$Real", "withSign", "(JJ)J"⟩
def y_Re_paired : MethodName := ⟨"PatchHouse$Real", "paired", "(IJJ)J"⟩
def y_Re_changed : MethodName := ⟨"PatchHouse$Real", "changed", "(IJ)J"⟩
def y_Re_holds : MethodName := ⟨"PatchHouse$Real", "holds", "(IJJ)Z"⟩
def y_Ro_init : MethodName := ⟨"PatchHouse$Row", "<init>", "(II)V"⟩
def y_Ro_kind : MethodName := ⟨"PatchHouse$Row", "kind", "()I"⟩
def y_Ro_tellable : MethodName := ⟨"PatchHouse$Row", "tellable", "()I"⟩
def y_Ro_told : MethodName := ⟨"PatchHouse$Row", "told", "(I)J"⟩
def y_Ro_size : MethodName := ⟨"PatchHouse$Row", "size", "()I"⟩
def y_Ro_twin : MethodName := ⟨"PatchHouse$Row", "twin", "()LPatchHouse$Thing;"⟩
def y_Ro_putBack : MethodName := ⟨"PatchHouse$Row", "putBack", "(LPatchHouse$Thing;)V"⟩
def y_Ro_put : MethodName := ⟨"PatchHouse$Row", "put", "(IJ)V"⟩
def y_Ro_narrowed : MethodName := ⟨"PatchHouse$Row", "narrowed", "(IJ)J"⟩
def y_Sh_init : MethodName := ⟨"PatchHouse$Shelf", "<init>", "(II)V"⟩
def y_Sh_kind : MethodName := ⟨"PatchHouse$Shelf", "kind", "()I"⟩
def y_Sh_tellable : MethodName := ⟨"PatchHouse$Shelf", "tellable", "()I"⟩
def y_Sh_told : MethodName := ⟨"PatchHouse$Shelf", "told", "(I)J"⟩
def y_Sh_size : MethodName := ⟨"PatchHouse$Shelf", "size", "()I"⟩
def y_Sh_twin : MethodName := ⟨"PatchHouse$Shelf", "twin", "()LPatchHouse$Thing;"⟩
def y_Sh_putBack : MethodName := ⟨"PatchHouse$Shelf", "putBack", "(LPatchHouse$Thing;)V"⟩
def y_Sh_refusal : MethodName := ⟨"PatchHouse$Shelf", "refusal", "(LPatchHouse$Thing;)I"⟩
def y_Sh_takeFrom : MethodName := ⟨"PatchHouse$Shelf", "takeFrom", "(LPatchHouse$Shelf;III)Z"⟩
def y_Th_init : MethodName := ⟨"PatchHouse$Thing", "<init>", "()V"⟩
def y_Th_size : MethodName := ⟨"PatchHouse$Thing", "size", "()I"⟩
def y_Th_twin : MethodName := ⟨"PatchHouse$Thing", "twin", "()LPatchHouse$Thing;"⟩
def y_Th_putBack : MethodName := ⟨"PatchHouse$Thing", "putBack", "(LPatchHouse$Thing;)V"⟩
def y_Tr_init : MethodName := ⟨"PatchHouse$Trouble", "<init>", "(I)V"⟩
def y_Tr_kind : MethodName := ⟨"PatchHouse$Trouble", "kind", "()I"⟩
def y_Tr_tellable : MethodName := ⟨"PatchHouse$Trouble", "tellable", "()I"⟩
def y_Tr_told : MethodName := ⟨"PatchHouse$Trouble", "told", "(I)J"⟩
def y_S_length : MethodName := ⟨"java/lang/String", "length", "()I"⟩
def y_S_coder : MethodName := ⟨"java/lang/String", "coder", "()B"⟩
def y_S_isEmpty : MethodName := ⟨"java/lang/String", "isEmpty", "()Z"⟩
def y_S_charAt : MethodName := ⟨"java/lang/String", "charAt", "(I)C"⟩
def y_S_isLatin1 : MethodName := ⟨"java/lang/String", "isLatin1", "()Z"⟩
def y_SL_charAt : MethodName := ⟨"java/lang/StringLatin1", "charAt", "([BI)C"⟩
def y_S_checkIndex : MethodName := ⟨"java/lang/String", "checkIndex", "(II)V"⟩
def y_PC_checkIndex : MethodName := ⟨"jdk/internal/util/Preconditions", "checkIndex", "(IILjava/util/function/BiFunction;)I"⟩
def y_S_indexOf : MethodName := ⟨"java/lang/String", "indexOf", "(I)I"⟩
def y_S_indexOf2 : MethodName := ⟨"java/lang/String", "indexOf", "(II)I"⟩
def y_SL_indexOf : MethodName := ⟨"java/lang/StringLatin1", "indexOf", "([BIII)I"⟩
def y_SL_canEncode : MethodName := ⟨"java/lang/StringLatin1", "canEncode", "(I)Z"⟩
def y_SL_indexOfChar : MethodName := ⟨"java/lang/StringLatin1", "indexOfChar", "([BIII)I"⟩
abbrev SGt : Type := MethodName × ByteArray × Nat × Option FieldType × Nat × Nat × Nat
def am_sg_0 : List SGt := [(y_H_init, prog_1_method_1_code, 1, (Option.none : Option FieldType), 0, 125, 97), (y_H_feed, prog_1_method_2_code, 6, (Option.some FieldType.int), 5, 328, 97), (y_H_end, prog_1_method_3_code, 2, (Option.some FieldType.int), 1, 336, 97), (y_H_patch, prog_1_method_4_code, 3, (Option.some FieldType.int), 1, 340, 97), (y_H_load, prog_1_method_5_code, 4, (Option.some FieldType.int), 1, 517, 97), (y_H_save, prog_1_method_6_code, 2, (Option.some FieldType.int), 1, 714, 97), (y_H_out, prog_1_method_7_code, 2, (Option.some FieldType.int), 1, 1199, 97), (y_H_run, prog_1_method_8_code, 4, (Option.some FieldType.int), 2, 743, 97), (y_H_look, prog_1_method_9_code, 2, (Option.some FieldType.int), 1, 1180, 97), (y_H_number, prog_1_method_10_code, 2, (Option.some FieldType.int), 1, 1271, 97), (y_H_real, prog_1_method_11_code, 2, (Option.some FieldType.long), 1, 1279, 97), (y_H_slot, prog_1_method_12_code, 5, (Option.some FieldType.int), 2, 1184, 97), (y_H_member, prog_1_method_13_code, 4, (Option.some FieldType.long), 2, 1287, 97), (y_H_same, prog_1_method_14_code, 3, (Option.some FieldType.int), 2, 1191, 97), (y_M_init, prog_14_method_1_code, 1, (Option.none : Option FieldType), 0, 1326, 103), (y_M_thrown, prog_14_method_2_code, 1, (Option.some FieldType.int), 0, 1428, 103), (y_M_isNo, prog_14_method_3_code, 2, (Option.some FieldType.boolean), 1, 1535, 103), (y_M_isInfinite, prog_14_method_4_code, 2, (Option.some FieldType.boolean), 1, 1577, 103), (y_M_isZero, prog_14_method_5_code, 2, (Option.some FieldType.boolean), 1, 1580, 103), (y_M_kept, prog_14_method_6_code, 2, (Option.some FieldType.long), 1, 1532, 103), (y_M_mantissa, prog_14_method_7_code, 4, (Option.some FieldType.long), 1, 1562, 103), (y_M_power, prog_14_method_8_code, 3, (Option.some FieldType.int), 1, 1559, 103), (y_M_bits, prog_14_method_9_code, 5, (Option.some FieldType.int), 1, 1550, 103), (y_M_packed, prog_14_method_10_code, 16, (Option.some FieldType.long), 5, 1547, 103), (y_M_signed, prog_14_method_11_code, 5, (Option.some FieldType.long), 4, 1544, 103), (y_M_added, prog_14_method_12_code, 17, (Option.some FieldType.long), 2, 1574, 103), (y_M_times, prog_14_method_13_code, 21, (Option.some FieldType.long), 2, 1583, 103), (y_M_by, prog_14_method_14_code, 13, (Option.some FieldType.long), 2, 1589, 103), (y_M_left, prog_14_method_15_code, 11, (Option.some FieldType.long), 2, 1592, 103), (y_M_root, prog_14_method_16_code, 12, (Option.some FieldType.long), 1, 1605, 103)]
def am_sg_1 : List SGt := [(y_M_order, prog_14_method_17_code, 8, (Option.some FieldType.int), 2, 1595, 103), (y_M_realOf, prog_14_method_18_code, 4, (Option.some FieldType.long), 1, 1541, 103), (y_M_whole, prog_14_method_19_code, 7, (Option.some FieldType.int), 1, 1556, 103), (y_M_even, prog_14_method_20_code, 14, (Option.some FieldType.long), 2, 1601, 103), (y_M_above, prog_14_method_21_code, 2, (Option.some FieldType.long), 1, 1612, 103), (y_M_step, prog_14_method_22_code, 2, (Option.some FieldType.long), 1, 1609, 103), (y_M_narrow, prog_14_method_23_code, 3, (Option.some FieldType.int), 1, 1615, 103), (y_M_wide, prog_14_method_24_code, 4, (Option.some FieldType.long), 1, 1620, 103), (y_M_keptNarrow, prog_14_method_25_code, 1, (Option.some FieldType.int), 1, 1707, 103), (y_M_two, prog_14_method_26_code, 5, (Option.some FieldType.long), 3, 1571, 103), (y_M_one, prog_14_method_27_code, 3, (Option.some FieldType.long), 2, 1598, 103), (y_M_isRow, prog_14_method_28_code, 2, (Option.some FieldType.boolean), 1, 1654, 103), (y_M_isPart, prog_14_method_29_code, 2, (Option.some FieldType.boolean), 1, 1643, 103), (y_M_hasMembers, prog_14_method_30_code, 2, (Option.some FieldType.boolean), 1, 1477, 103), (y_M_isBelow, prog_14_method_31_code, 2, (Option.some FieldType.boolean), 2, 1646, 103), (y_M_pays, prog_14_method_32_code, 3, (Option.some FieldType.boolean), 1, 1481, 103), (y_M_thing, prog_14_method_33_code, 4, (Option.some FieldType.int), 3, 1490, 103), (y_M_fault, prog_14_method_34_code, 3, (Option.some FieldType.int), 2, 1512, 103), (y_M_fails, prog_14_method_35_code, 2, (Option.some FieldType.int), 1, 1508, 103), (y_M_takes, prog_14_method_36_code, 3, (Option.some FieldType.int), 1, 1469, 103), (y_M_takesFor, prog_14_method_37_code, 3, (Option.some FieldType.int), 1, 1494, 103), (y_M_feed, prog_14_method_38_code, 6, (Option.some FieldType.int), 5, 1432, 103), (y_M_four, prog_14_method_39_code, 3, (Option.none : Option FieldType), 1, 1436, 103), (y_M_end, prog_14_method_40_code, 2, (Option.some FieldType.int), 1, 1440, 103), (y_M_wholeOf, prog_14_method_41_code, 1, (Option.some FieldType.int), 1, 1451, 103), (y_M_mostOf, prog_14_method_42_code, 4, (Option.some FieldType.int), 3, 1454, 103), (y_M_leastOf, prog_14_method_43_code, 2, (Option.some FieldType.int), 2, 1457, 103), (y_M_wrong, prog_14_method_44_code, 12, (Option.some FieldType.int), 3, 1448, 103), (y_M_patch, prog_14_method_45_code, 5, (Option.some FieldType.int), 1, 1444, 103), (y_M_run, prog_14_method_46_code, 4, (Option.some FieldType.int), 2, 1461, 103)]
def am_sg_2 : List SGt := [(y_M_part, prog_14_method_47_code, 9, (Option.some FieldType.int), 2, 1465, 103), (y_M_patches, prog_14_method_48_code, 3, (Option.some FieldType.int), 1, 1504, 103), (y_M_scope, prog_14_method_49_code, 11, (Option.some FieldType.int), 2, 1473, 103), (y_M_back, prog_14_method_50_code, 7, (Option.none : Option FieldType), 2, 1500, 103), (y_M_cloned, prog_14_method_51_code, 4, (Option.some FieldType.int), 1, 1486, 103), (y_M_eight, prog_14_method_52_code, 5, (Option.some FieldType.int), 2, 1524, 103), (y_M_act, prog_14_method_53_code, 4, (Option.some FieldType.int), 2, 1516, 103), (y_M_reckons, prog_14_method_54_code, 8, (Option.some FieldType.int), 2, 1520, 103), (y_M_ints, prog_14_method_55_code, 5, (Option.some FieldType.int), 4, 1528, 103), (y_M_makes, prog_14_method_56_code, 6, (Option.some FieldType.int), 2, 1626, 103), (y_M_grid, prog_14_method_57_code, 6, (Option.some FieldType.int), 3, 1630, 103), (y_M_is, prog_14_method_58_code, 3, (Option.some FieldType.boolean), 2, 1639, 103), (y_M_members, prog_14_method_60_code, 8, (Option.some FieldType.int), 2, 1635, 103), (y_M_cut, prog_14_method_61_code, 2, (Option.some FieldType.long), 2, 1661, 103), (y_M_goes, prog_14_method_62_code, 3, (Option.some FieldType.boolean), 2, 1658, 103), (y_M_copies, prog_14_method_63_code, 11, (Option.some FieldType.int), 5, 1650, 103), (y_M_places, prog_14_method_64_code, 9, (Option.some FieldType.int), 2, 1666, 103), (y_M_fields, prog_14_method_65_code, 8, (Option.some FieldType.int), 2, 1670, 103), (y_M_asks, prog_14_method_66_code, 11, (Option.some FieldType.int), 1, 1674, 103), (y_M_weighs, prog_14_method_67_code, 11, (Option.some FieldType.int), 2, 1681, 103), (y_M_load, prog_14_method_68_code, 3, (Option.some FieldType.int), 1, 1685, 103), (y_M_has, prog_14_method_69_code, 2, (Option.some FieldType.boolean), 1, 1693, 103), (y_M_next, prog_14_method_70_code, 5, (Option.some FieldType.long), 1, 1697, 103), (y_M_wideOf, prog_14_method_71_code, 1, (Option.some FieldType.int), 1, 1704, 103), (y_M_parse, prog_14_method_72_code, 3, (Option.some FieldType.int), 1, 1689, 103), (y_M_parseMany, prog_14_method_73_code, 10, (Option.some FieldType.int), 2, 1701, 103), (y_M_parseTrouble, prog_14_method_74_code, 2, (Option.some FieldType.int), 0, 1711, 103), (y_M_parsePart, prog_14_method_75_code, 6, (Option.some FieldType.int), 2, 1715, 103), (y_M_save, prog_14_method_76_code, 3, (Option.some FieldType.int), 1, 1719, 103), (y_M_tell, prog_14_method_77_code, 5, (Option.some FieldType.int), 2, 1727, 103)]
def am_sg_3 : List SGt := [(y_M_write, prog_14_method_78_code, 7, (Option.some FieldType.int), 2, 1723, 103), (y_M_out, prog_14_method_79_code, 2, (Option.some FieldType.int), 1, 1731, 103), (y_M_look, prog_14_method_80_code, 2, (Option.some FieldType.int), 1, 1735, 103), (y_M_number, prog_14_method_81_code, 2, (Option.some FieldType.int), 1, 1739, 103), (y_M_real, prog_14_method_82_code, 2, (Option.some FieldType.long), 1, 1743, 103), (y_M_slot, prog_14_method_83_code, 4, (Option.some FieldType.int), 2, 1747, 103), (y_M_member, prog_14_method_84_code, 8, (Option.some FieldType.long), 2, 1751, 103), (y_M_same, prog_14_method_85_code, 3, (Option.some FieldType.int), 2, 1756, 103), (y_En_init, prog_2_method_1_code, 4, (Option.none : Option FieldType), 3, 254, 102), (y_En_perform, prog_2_method_2_code, 4, (Option.some FieldType.int), 1, 747, 102), (y_En_byteAt, prog_2_method_3_code, 2, (Option.some FieldType.int), 1, 770, 102), (y_En_push, prog_2_method_4_code, 5, (Option.none : Option FieldType), 4, 756, 102), (y_En_pop, prog_2_method_5_code, 2, (Option.none : Option FieldType), 1, 765, 102), (y_En_beginPatch, prog_2_method_6_code, 3, (Option.none : Option FieldType), 1, 751, 102), (y_En_beginOp, prog_2_method_7_code, 5, (Option.none : Option FieldType), 1, 805, 102), (y_En_isOn, prog_2_method_8_code, 2, (Option.some FieldType.boolean), 1, 819, 102), (y_En_choose, prog_2_method_9_code, 6, (Option.none : Option FieldType), 3, 815, 102), (y_En_beginScope, prog_2_method_10_code, 4, (Option.none : Option FieldType), 3, 823, 102), (y_En_saves, prog_2_method_11_code, 5, (Option.some FieldType.boolean), 2, 782, 102), (y_En_keepSlots, prog_2_method_12_code, 3, (Option.none : Option FieldType), 1, 827, 102), (y_En_keepSlot, prog_2_method_13_code, 3, (Option.none : Option FieldType), 2, 832, 102), (y_En_putSlotsBack, prog_2_method_14_code, 4, (Option.none : Option FieldType), 1, 778, 102), (y_En_leave, prog_2_method_15_code, 2, (Option.none : Option FieldType), 1, 1171, 102), (y_En_beginFurtherRound, prog_2_method_16_code, 3, (Option.none : Option FieldType), 1, 1175, 102), (y_En_beginAlways, prog_2_method_17_code, 5, (Option.none : Option FieldType), 3, 801, 102), (y_En_beginHandler, prog_2_method_18_code, 5, (Option.none : Option FieldType), 3, 774, 102), (y_En_leaveByFault, prog_2_method_19_code, 4, (Option.none : Option FieldType), 1, 761, 102), (y_Fo_init, prog_3_method_1_code, 2, (Option.none : Option FieldType), 1, 167, 99), (y_Fo_append, prog_3_method_2_code, 3, (Option.none : Option FieldType), 1, 332, 99), (y_Fo_bytesOf, prog_3_method_3_code, 1, (Option.some FieldType.int), 1, 583, 99)]
def am_sg_4 : List SGt := [(y_Fo_readTape, prog_3_method_4_code, 2, (Option.some (FieldType.object "PatchHouse$Thing")), 1, 525, 99), (y_Fo_readThing, prog_3_method_5_code, 3, (Option.some (FieldType.object "PatchHouse$Thing")), 1, 529, 99), (y_Fo_readBytes, prog_3_method_6_code, 5, (Option.some FieldType.long), 1, 547, 99), (y_Fo_readSize, prog_3_method_7_code, 2, (Option.some FieldType.int), 0, 559, 99), (y_Fo_readRow, prog_3_method_8_code, 5, (Option.some (FieldType.object "PatchHouse$Thing")), 1, 555, 99), (y_Fo_readShelf, prog_3_method_9_code, 9, (Option.some (FieldType.object "PatchHouse$Thing")), 2, 606, 99), (y_Fo_readPart, prog_3_method_10_code, 4, (Option.some (FieldType.object "PatchHouse$Thing")), 2, 653, 99), (y_Fo_readInner, prog_3_method_11_code, 5, (Option.none : Option FieldType), 2, 697, 99), (y_Fo_writeOut, prog_3_method_12_code, 2, (Option.some FieldType.int), 1, 718, 99), (y_Fo_writeThing, prog_3_method_13_code, 7, (Option.none : Option FieldType), 2, 722, 99), (y_Fo_writeBytes, prog_3_method_14_code, 5, (Option.none : Option FieldType), 2, 727, 99), (y_Fo_writeRow, prog_3_method_15_code, 3, (Option.none : Option FieldType), 1, 731, 99), (y_Fo_writeShelf, prog_3_method_16_code, 4, (Option.none : Option FieldType), 2, 735, 99), (y_Fo_writePart, prog_3_method_17_code, 3, (Option.none : Option FieldType), 2, 739, 99), (y_Le_init, prog_4_method_1_code, 1, (Option.none : Option FieldType), 0, 133, 98), (y_Le_settle, prog_4_method_2_code, 1, (Option.none : Option FieldType), 0, 521, 98), (y_Le_stopped, prog_4_method_3_code, 1, (Option.some FieldType.boolean), 0, 551, 98), (y_Le_make, prog_4_method_4_code, 3, (Option.some FieldType.boolean), 1, 538, 98), (y_Le_burn, prog_4_method_5_code, 3, (Option.some FieldType.boolean), 1, 809, 98), (y_Le_fault, prog_4_method_6_code, 2, (Option.none : Option FieldType), 1, 533, 98), (y_Le_faultTold, prog_4_method_7_code, 2, (Option.none : Option FieldType), 1, 1167, 98), (y_Le_handOn, prog_4_method_8_code, 3, (Option.none : Option FieldType), 2, 543, 98), (y_Op_init, prog_5_method_1_code, 3, (Option.none : Option FieldType), 2, 221, 101), (y_Op_perform, prog_5_method_2_code, 3, (Option.none : Option FieldType), 1, 869, 101), (y_Op_operand, prog_5_method_3_code, 3, (Option.some FieldType.int), 1, 873, 101), (y_Op_bytes, prog_5_method_4_code, 6, (Option.some FieldType.long), 2, 877, 101), (y_Op_numberAt, prog_5_method_5_code, 2, (Option.some FieldType.int), 1, 885, 101), (y_Op_setNumber, prog_5_method_6_code, 3, (Option.none : Option FieldType), 2, 881, 101), (y_Op_realAt, prog_5_method_7_code, 2, (Option.some FieldType.long), 1, 914, 101), (y_Op_setReal, prog_5_method_8_code, 4, (Option.none : Option FieldType), 2, 898, 101)]
def am_sg_5 : List SGt := [(y_Op_slotAt, prog_5_method_9_code, 2, (Option.some (FieldType.object "PatchHouse$Thing")), 1, 1012, 101), (y_Op_setSlot, prog_5_method_10_code, 3, (Option.none : Option FieldType), 2, 1016, 101), (y_Op_miss, prog_5_method_11_code, 2, (Option.none : Option FieldType), 1, 1057, 101), (y_Op_isWithin, prog_5_method_12_code, 3, (Option.some FieldType.boolean), 2, 1076, 101), (y_Op_eighths, prog_5_method_13_code, 2, (Option.some FieldType.long), 1, 863, 101), (y_Op_calculate, prog_5_method_14_code, 4, (Option.none : Option FieldType), 3, 889, 101), (y_Op_calculated, prog_5_method_15_code, 3, (Option.some FieldType.int), 3, 893, 101), (y_Op_makeRow, prog_5_method_16_code, 2, (Option.none : Option FieldType), 1, 1020, 101), (y_Op_makeGrid, prog_5_method_17_code, 5, (Option.none : Option FieldType), 2, 1029, 101), (y_Op_makeBox, prog_5_method_18_code, 2, (Option.none : Option FieldType), 1, 1035, 101), (y_Op_makePart, prog_5_method_19_code, 1, (Option.none : Option FieldType), 0, 1039, 101), (y_Op_makeTrouble, prog_5_method_20_code, 1, (Option.none : Option FieldType), 0, 1046, 101), (y_Op_makeTwin, prog_5_method_21_code, 2, (Option.none : Option FieldType), 1, 1100, 101), (y_Op_countMembers, prog_5_method_22_code, 2, (Option.none : Option FieldType), 1, 1052, 101), (y_Op_fits, prog_5_method_23_code, 3, (Option.some FieldType.boolean), 2, 1060, 101), (y_Op_takeMember, prog_5_method_24_code, 5, (Option.none : Option FieldType), 2, 1072, 101), (y_Op_putMember, prog_5_method_25_code, 5, (Option.none : Option FieldType), 2, 1081, 101), (y_Op_areAlike, prog_5_method_26_code, 4, (Option.some FieldType.boolean), 2, 1090, 101), (y_Op_copyMembers, prog_5_method_27_code, 10, (Option.none : Option FieldType), 2, 1087, 101), (y_Op_takeThing, prog_5_method_28_code, 5, (Option.none : Option FieldType), 3, 1105, 101), (y_Op_putThing, prog_5_method_29_code, 7, (Option.none : Option FieldType), 4, 1109, 101), (y_Op_takeField, prog_5_method_30_code, 4, (Option.none : Option FieldType), 2, 1114, 101), (y_Op_putField, prog_5_method_31_code, 4, (Option.none : Option FieldType), 2, 1123, 101), (y_Op_putInner, prog_5_method_32_code, 5, (Option.none : Option FieldType), 2, 1127, 101), (y_Op_ask, prog_5_method_33_code, 7, (Option.none : Option FieldType), 3, 1131, 101), (y_Op_tell, prog_5_method_34_code, 3, (Option.none : Option FieldType), 1, 1163, 101), (y_Pa_init, prog_6_method_1_code, 2, (Option.none : Option FieldType), 1, 659, 115), (y_Pa_kind, prog_6_method_2_code, 1, (Option.some FieldType.int), 0, 636, 115), (y_Pa_tellable, prog_6_method_3_code, 1, (Option.some FieldType.int), 0, 1293, 115), (y_Pa_told, prog_6_method_4_code, 2, (Option.some FieldType.long), 1, 1309, 115)]
def am_sg_6 : List SGt := [(y_Pa_isBelow, prog_6_method_5_code, 2, (Option.some FieldType.boolean), 2, 649, 115), (y_Pa_isWeighed, prog_6_method_6_code, 1, (Option.some FieldType.boolean), 0, 1067, 115), (y_Pa_isPriced, prog_6_method_7_code, 1, (Option.some FieldType.boolean), 0, 692, 115), (y_Pa_has, prog_6_method_8_code, 2, (Option.some FieldType.boolean), 1, 1118, 115), (y_Pa_answers, prog_6_method_9_code, 2, (Option.some FieldType.boolean), 1, 1135, 115), (y_Pa_weighs, prog_6_method_10_code, 8, (Option.some FieldType.long), 2, 1144, 115), (y_Pa_loadOf, prog_6_method_11_code, 8, (Option.some FieldType.long), 2, 1158, 115), (y_Pa_label, prog_6_method_12_code, 1, (Option.some FieldType.int), 0, 1140, 115), (y_Pt_init, prog_7_method_1_code, 1, (Option.none : Option FieldType), 0, 203, 100), (y_Pt_take, prog_7_method_2_code, 5, (Option.some FieldType.int), 3, 344, 100), (y_Pt_operands, prog_7_method_3_code, 1, (Option.some (FieldType.object "java/lang/String")), 1, 350, 100), (y_Pt_choices, prog_7_method_4_code, 1, (Option.some FieldType.int), 1, 445, 100), (y_Pt_greatest, prog_7_method_5_code, 4, (Option.some FieldType.int), 3, 442, 100), (y_Pt_parts, prog_7_method_6_code, 1, (Option.some FieldType.int), 1, 384, 100), (y_Pt_firstWrong, prog_7_method_7_code, 12, (Option.some FieldType.int), 4, 347, 100), (y_Pt_wrongOperand, prog_7_method_8_code, 8, (Option.some FieldType.int), 3, 401, 100), (y_Pt_wrongPart, prog_7_method_9_code, 11, (Option.some FieldType.int), 5, 510, 100), (y_Re_size, prog_8_method_2_code, 2, (Option.some FieldType.long), 1, 938, 113), (y_Re_isNan, prog_8_method_3_code, 2, (Option.some FieldType.boolean), 1, 923, 113), (y_Re_plain, prog_8_method_4_code, 2, (Option.some FieldType.long), 1, 599, 113), (y_Re_plainFloat, prog_8_method_5_code, 1, (Option.some FieldType.int), 1, 593, 113), (y_Re_field, prog_8_method_6_code, 2, (Option.some FieldType.int), 1, 920, 113), (y_Re_mantissa, prog_8_method_7_code, 4, (Option.some FieldType.long), 1, 927, 113), (y_Re_exponent, prog_8_method_8_code, 3, (Option.some FieldType.int), 1, 941, 113), (y_Re_gap, prog_8_method_9_code, 3, (Option.some FieldType.int), 1, 953, 113), (y_Re_rounded, prog_8_method_10_code, 15, (Option.some FieldType.long), 4, 908, 113), (y_Re_ofInt, prog_8_method_11_code, 1, (Option.some FieldType.long), 1, 901, 113), (y_Re_toInt, prog_8_method_12_code, 4, (Option.some FieldType.int), 1, 917, 113), (y_Re_toFloat, prog_8_method_13_code, 3, (Option.some FieldType.int), 1, 1000, 113), (y_Re_ofFloat, prog_8_method_14_code, 9, (Option.some FieldType.long), 1, 1003, 113)]
def am_sg_7 : List SGt := [(y_Re_sum, prog_8_method_15_code, 15, (Option.some FieldType.long), 2, 935, 113), (y_Re_movedRight, prog_8_method_16_code, 5, (Option.some FieldType.long), 2, 944, 113), (y_Re_turned, prog_8_method_17_code, 2, (Option.some FieldType.long), 1, 947, 113), (y_Re_product, prog_8_method_18_code, 24, (Option.some FieldType.long), 2, 950, 113), (y_Re_quotient, prog_8_method_19_code, 15, (Option.some FieldType.long), 2, 958, 113), (y_Re_remainder, prog_8_method_20_code, 12, (Option.some FieldType.long), 2, 961, 113), (y_Re_root, prog_8_method_21_code, 13, (Option.some FieldType.long), 1, 989, 113), (y_Re_whole, prog_8_method_22_code, 13, (Option.some FieldType.long), 2, 981, 113), (y_Re_signOf, prog_8_method_23_code, 2, (Option.some FieldType.long), 1, 986, 113), (y_Re_step, prog_8_method_24_code, 3, (Option.some FieldType.long), 1, 993, 113), (y_Re_above, prog_8_method_25_code, 2, (Option.some FieldType.long), 1, 997, 113), (y_Re_rank, prog_8_method_26_code, 2, (Option.some FieldType.long), 1, 968, 113), (y_Re_greater, prog_8_method_27_code, 4, (Option.some FieldType.long), 2, 965, 113), (y_Re_lesser, prog_8_method_28_code, 4, (Option.some FieldType.long), 2, 971, 113), (y_Re_withSign, prog_8_method_29_code, 4, (Option.some FieldType.long), 2, 974, 113), (y_Re_paired, prog_8_method_30_code, 5, (Option.some FieldType.long), 3, 932, 113), (y_Re_changed, prog_8_method_31_code, 3, (Option.some FieldType.long), 2, 977, 113), (y_Re_holds, prog_8_method_32_code, 5, (Option.some FieldType.boolean), 3, 1008, 113), (y_Ro_init, prog_9_method_1_code, 3, (Option.none : Option FieldType), 2, 565, 112), (y_Ro_kind, prog_9_method_2_code, 1, (Option.some FieldType.int), 0, 639, 112), (y_Ro_tellable, prog_9_method_3_code, 1, (Option.some FieldType.int), 0, 1296, 112), (y_Ro_told, prog_9_method_4_code, 2, (Option.some FieldType.long), 1, 1312, 112), (y_Ro_size, prog_9_method_5_code, 1, (Option.some FieldType.int), 0, 839, 112), (y_Ro_twin, prog_9_method_6_code, 2, (Option.some (FieldType.object "PatchHouse$Thing")), 0, 852, 112), (y_Ro_putBack, prog_9_method_7_code, 3, (Option.none : Option FieldType), 1, 789, 112), (y_Ro_put, prog_9_method_8_code, 4, (Option.none : Option FieldType), 2, 587, 112), (y_Ro_narrowed, prog_9_method_9_code, 3, (Option.some FieldType.long), 2, 590, 112), (y_Sh_init, prog_10_method_1_code, 3, (Option.none : Option FieldType), 2, 611, 114), (y_Sh_kind, prog_10_method_2_code, 1, (Option.some FieldType.int), 0, 642, 114), (y_Sh_tellable, prog_10_method_3_code, 1, (Option.some FieldType.int), 0, 1299, 114)]
def am_sg_8 : List SGt := [(y_Sh_told, prog_10_method_4_code, 4, (Option.some FieldType.long), 1, 1316, 114), (y_Sh_size, prog_10_method_5_code, 1, (Option.some FieldType.int), 0, 842, 114), (y_Sh_twin, prog_10_method_6_code, 2, (Option.some (FieldType.object "PatchHouse$Thing")), 0, 856, 114), (y_Sh_putBack, prog_10_method_7_code, 4, (Option.none : Option FieldType), 1, 794, 114), (y_Sh_refusal, prog_10_method_8_code, 3, (Option.some FieldType.int), 1, 630, 114), (y_Sh_takeFrom, prog_10_method_9_code, 7, (Option.some FieldType.boolean), 4, 1094, 114), (y_Th_init, prog_11_method_1_code, 1, (Option.none : Option FieldType), 0, 568, 111), (y_Th_size, prog_11_method_5_code, 1, (Option.some FieldType.int), 0, 844, 111), (y_Th_twin, prog_11_method_6_code, 1, (Option.some (FieldType.object "PatchHouse$Thing")), 0, 860, 111), (y_Th_putBack, prog_11_method_7_code, 2, (Option.none : Option FieldType), 1, 797, 111), (y_Tr_init, prog_12_method_1_code, 2, (Option.none : Option FieldType), 1, 703, 116), (y_Tr_kind, prog_12_method_2_code, 1, (Option.some FieldType.int), 0, 645, 116), (y_Tr_tellable, prog_12_method_3_code, 1, (Option.some FieldType.int), 0, 1302, 116), (y_Tr_told, prog_12_method_4_code, 2, (Option.some FieldType.long), 1, 1321, 116), (y_S_length, prog_19_method_54_code, 1, (Option.some FieldType.int), 0, 388, 104), (y_S_coder, prog_19_method_152_code, 1, (Option.some FieldType.byte), 0, 392, 104), (y_S_isEmpty, prog_19_method_55_code, 1, (Option.some FieldType.boolean), 0, 398, 104), (y_S_charAt, prog_19_method_56_code, 2, (Option.some FieldType.char), 1, 405, 104), (y_S_isLatin1, prog_19_method_154_code, 1, (Option.some FieldType.boolean), 0, 409, 104), (y_SL_charAt, prog_20_method_2_code, 2, (Option.some FieldType.char), 2, 412, 105), (y_S_checkIndex, prog_19_method_155_code, 2, (Option.none : Option FieldType), 2, 415, 104), (y_PC_checkIndex, prog_25_method_11_code, 3, (Option.some FieldType.int), 3, 420, 106), (y_S_indexOf, prog_19_method_79_code, 2, (Option.some FieldType.int), 1, 450, 104), (y_S_indexOf2, prog_19_method_80_code, 3, (Option.some FieldType.int), 2, 454, 104), (y_SL_indexOf, prog_20_method_22_code, 4, (Option.some FieldType.int), 4, 458, 105), (y_SL_canEncode, prog_20_method_4_code, 1, (Option.some FieldType.boolean), 1, 461, 105), (y_SL_indexOfChar, prog_20_method_23_code, 6, (Option.some FieldType.int), 4, 470, 105)]
def am_sg : List SGt := am_sg_0 ++ (am_sg_1 ++ (am_sg_2 ++ (am_sg_3 ++ (am_sg_4 ++ (am_sg_5 ++ (am_sg_6 ++ (am_sg_7 ++ (am_sg_8))))))))
def wq (n : Nat) : Option Cond := lw_tbl[n]?
theorem wq_in {n : Nat} {w : Cond} (h : wq n = some w) (hg : goodWord w = true) : w ∈ gtb := List.mem_filter.mpr ⟨List.mem_of_getElem? h, hg⟩
def okSP (q : SGt) : Prop := Cond.code q.1 q.2.1 q.2.2.1 q.2.2.2.1 ∈ gtb ∧ Cond.initialized q.1.cls ∈ gtb ∧ plainName q.1.cls = true ∧ (q.1.cls ≠ "java/lang/invoke/MethodHandle" ∧ q.1.cls ≠ "java/lang/invoke/VarHandle") ∧ (parseMethodDescriptor q.1.desc).map (fun z => z.parameters.length) = some q.2.2.2.2.1 ∧ q.2.2.1 ≤ 24
set_option maxRecDepth 100000 in
theorem sg_H_init : okSP (y_H_init, prog_1_method_1_code, 1, (Option.none : Option FieldType), 0, 125, 97) := ⟨wq_in (n := 125) rfl rfl, wq_in (n := 97) rfl rfl, by decide +kernel, by decide +kernel, by decide +kernel, by decide +kernel⟩
set_option maxRecDepth 100000 in
theorem sg_H_feed : okSP (y_H_feed, prog_1_method_2_code, 6, (Option.some FieldType.int), 5, 328, 97) := ⟨wq_in (n := 328) rfl rfl, wq_in (n := 97) rfl rfl, by decide +kernel, by decide +kernel, by decide +kernel, by decide +kernel⟩
set_option maxRecDepth 100000 in
theorem sg_H_end : okSP (y_H_end, prog_1_method_3_code, 2, (Option.some FieldType.int), 1, 336, 97) := ⟨wq_in (n := 336) rfl rfl, wq_in (n := 97) rfl rfl, by decide +kernel, by decide +kernel, by decide +kernel, by decide +kernel⟩
set_option maxRecDepth 100000 in
theorem sg_H_patch : okSP (y_H_patch, prog_1_method_4_code, 3, (Option.some FieldType.int), 1, 340, 97) := ⟨wq_in (n := 340) rfl rfl, wq_in (n := 97) rfl rfl, by decide +kernel, by decide +kernel, by decide +kernel, by decide +kernel⟩
set_option maxRecDepth 100000 in
theorem sg_H_load : okSP (y_H_load, prog_1_method_5_code, 4, (Option.some FieldType.int), 1, 517, 97) := ⟨wq_in (n := 517) rfl rfl, wq_in (n := 97) rfl rfl, by decide +kernel, by decide +kernel, by decide +kernel, by decide +kernel⟩
set_option maxRecDepth 100000 in
theorem sg_H_save : okSP (y_H_save, prog_1_method_6_code, 2, (Option.some FieldType.int), 1, 714, 97) := ⟨wq_in (n := 714) rfl rfl, wq_in (n := 97) rfl rfl, by decide +kernel, by decide +kernel, by decide +kernel, by decide +kernel⟩
set_option maxRecDepth 100000 in
theorem sg_H_out : okSP (y_H_out, prog_1_method_7_code, 2, (Option.some FieldType.int), 1, 1199, 97) := ⟨wq_in (n := 1199) rfl rfl, wq_in (n := 97) rfl rfl, by decide +kernel, by decide +kernel, by decide +kernel, by decide +kernel⟩
set_option maxRecDepth 100000 in
theorem sg_H_run : okSP (y_H_run, prog_1_method_8_code, 4, (Option.some FieldType.int), 2, 743, 97) := ⟨wq_in (n := 743) rfl rfl, wq_in (n := 97) rfl rfl, by decide +kernel, by decide +kernel, by decide +kernel, by decide +kernel⟩
set_option maxRecDepth 100000 in
theorem sg_H_look : okSP (y_H_look, prog_1_method_9_code, 2, (Option.some FieldType.int), 1, 1180, 97) := ⟨wq_in (n := 1180) rfl rfl, wq_in (n := 97) rfl rfl, by decide +kernel, by decide +kernel, by decide +kernel, by decide +kernel⟩
set_option maxRecDepth 100000 in
theorem sg_H_number : okSP (y_H_number, prog_1_method_10_code, 2, (Option.some FieldType.int), 1, 1271, 97) := ⟨wq_in (n := 1271) rfl rfl, wq_in (n := 97) rfl rfl, by decide +kernel, by decide +kernel, by decide +kernel, by decide +kernel⟩
set_option maxRecDepth 100000 in
theorem sg_H_real : okSP (y_H_real, prog_1_method_11_code, 2, (Option.some FieldType.long), 1, 1279, 97) := ⟨wq_in (n := 1279) rfl rfl, wq_in (n := 97) rfl rfl, by decide +kernel, by decide +kernel, by decide +kernel, by decide +kernel⟩
set_option maxRecDepth 100000 in
theorem sg_H_slot : okSP (y_H_slot, prog_1_method_12_code, 5, (Option.some FieldType.int), 2, 1184, 97) := ⟨wq_in (n := 1184) rfl rfl, wq_in (n := 97) rfl rfl, by decide +kernel, by decide +kernel, by decide +kernel, by decide +kernel⟩
set_option maxRecDepth 100000 in
theorem sg_H_member : okSP (y_H_member, prog_1_method_13_code, 4, (Option.some FieldType.long), 2, 1287, 97) := ⟨wq_in (n := 1287) rfl rfl, wq_in (n := 97) rfl rfl, by decide +kernel, by decide +kernel, by decide +kernel, by decide +kernel⟩
set_option maxRecDepth 100000 in
theorem sg_H_same : okSP (y_H_same, prog_1_method_14_code, 3, (Option.some FieldType.int), 2, 1191, 97) := ⟨wq_in (n := 1191) rfl rfl, wq_in (n := 97) rfl rfl, by decide +kernel, by decide +kernel, by decide +kernel, by decide +kernel⟩
set_option maxRecDepth 100000 in
theorem sg_M_init : okSP (y_M_init, prog_14_method_1_code, 1, (Option.none : Option FieldType), 0, 1326, 103) := ⟨wq_in (n := 1326) rfl rfl, wq_in (n := 103) rfl rfl, by decide +kernel, by decide +kernel, by decide +kernel, by decide +kernel⟩
set_option maxRecDepth 100000 in
theorem sg_M_thrown : okSP (y_M_thrown, prog_14_method_2_code, 1, (Option.some FieldType.int), 0, 1428, 103) := ⟨wq_in (n := 1428) rfl rfl, wq_in (n := 103) rfl rfl, by decide +kernel, by decide +kernel, by decide +kernel, by decide +kernel⟩
set_option maxRecDepth 100000 in
theorem sg_M_isNo : okSP (y_M_isNo, prog_14_method_3_code, 2, (Option.some FieldType.boolean), 1, 1535, 103) := ⟨wq_in (n := 1535) rfl rfl, wq_in (n := 103) rfl rfl, by decide +kernel, by decide +kernel, by decide +kernel, by decide +kernel⟩
set_option maxRecDepth 100000 in
theorem sg_M_isInfinite : okSP (y_M_isInfinite, prog_14_method_4_code, 2, (Option.some FieldType.boolean), 1, 1577, 103) := ⟨wq_in (n := 1577) rfl rfl, wq_in (n := 103) rfl rfl, by decide +kernel, by decide +kernel, by decide +kernel, by decide +kernel⟩
set_option maxRecDepth 100000 in
theorem sg_M_isZero : okSP (y_M_isZero, prog_14_method_5_code, 2, (Option.some FieldType.boolean), 1, 1580, 103) := ⟨wq_in (n := 1580) rfl rfl, wq_in (n := 103) rfl rfl, by decide +kernel, by decide +kernel, by decide +kernel, by decide +kernel⟩
set_option maxRecDepth 100000 in
theorem sg_M_kept : okSP (y_M_kept, prog_14_method_6_code, 2, (Option.some FieldType.long), 1, 1532, 103) := ⟨wq_in (n := 1532) rfl rfl, wq_in (n := 103) rfl rfl, by decide +kernel, by decide +kernel, by decide +kernel, by decide +kernel⟩
set_option maxRecDepth 100000 in
theorem sg_M_mantissa : okSP (y_M_mantissa, prog_14_method_7_code, 4, (Option.some FieldType.long), 1, 1562, 103) := ⟨wq_in (n := 1562) rfl rfl, wq_in (n := 103) rfl rfl, by decide +kernel, by decide +kernel, by decide +kernel, by decide +kernel⟩
set_option maxRecDepth 100000 in
theorem sg_M_power : okSP (y_M_power, prog_14_method_8_code, 3, (Option.some FieldType.int), 1, 1559, 103) := ⟨wq_in (n := 1559) rfl rfl, wq_in (n := 103) rfl rfl, by decide +kernel, by decide +kernel, by decide +kernel, by decide +kernel⟩
set_option maxRecDepth 100000 in
theorem sg_M_bits : okSP (y_M_bits, prog_14_method_9_code, 5, (Option.some FieldType.int), 1, 1550, 103) := ⟨wq_in (n := 1550) rfl rfl, wq_in (n := 103) rfl rfl, by decide +kernel, by decide +kernel, by decide +kernel, by decide +kernel⟩
set_option maxRecDepth 100000 in
theorem sg_M_packed : okSP (y_M_packed, prog_14_method_10_code, 16, (Option.some FieldType.long), 5, 1547, 103) := ⟨wq_in (n := 1547) rfl rfl, wq_in (n := 103) rfl rfl, by decide +kernel, by decide +kernel, by decide +kernel, by decide +kernel⟩
set_option maxRecDepth 100000 in
theorem sg_M_signed : okSP (y_M_signed, prog_14_method_11_code, 5, (Option.some FieldType.long), 4, 1544, 103) := ⟨wq_in (n := 1544) rfl rfl, wq_in (n := 103) rfl rfl, by decide +kernel, by decide +kernel, by decide +kernel, by decide +kernel⟩
set_option maxRecDepth 100000 in
theorem sg_M_added : okSP (y_M_added, prog_14_method_12_code, 17, (Option.some FieldType.long), 2, 1574, 103) := ⟨wq_in (n := 1574) rfl rfl, wq_in (n := 103) rfl rfl, by decide +kernel, by decide +kernel, by decide +kernel, by decide +kernel⟩
set_option maxRecDepth 100000 in
theorem sg_M_times : okSP (y_M_times, prog_14_method_13_code, 21, (Option.some FieldType.long), 2, 1583, 103) := ⟨wq_in (n := 1583) rfl rfl, wq_in (n := 103) rfl rfl, by decide +kernel, by decide +kernel, by decide +kernel, by decide +kernel⟩
set_option maxRecDepth 100000 in
theorem sg_M_by : okSP (y_M_by, prog_14_method_14_code, 13, (Option.some FieldType.long), 2, 1589, 103) := ⟨wq_in (n := 1589) rfl rfl, wq_in (n := 103) rfl rfl, by decide +kernel, by decide +kernel, by decide +kernel, by decide +kernel⟩
set_option maxRecDepth 100000 in
theorem sg_M_left : okSP (y_M_left, prog_14_method_15_code, 11, (Option.some FieldType.long), 2, 1592, 103) := ⟨wq_in (n := 1592) rfl rfl, wq_in (n := 103) rfl rfl, by decide +kernel, by decide +kernel, by decide +kernel, by decide +kernel⟩
set_option maxRecDepth 100000 in
theorem sg_M_root : okSP (y_M_root, prog_14_method_16_code, 12, (Option.some FieldType.long), 1, 1605, 103) := ⟨wq_in (n := 1605) rfl rfl, wq_in (n := 103) rfl rfl, by decide +kernel, by decide +kernel, by decide +kernel, by decide +kernel⟩
set_option maxRecDepth 100000 in
theorem sg_M_order : okSP (y_M_order, prog_14_method_17_code, 8, (Option.some FieldType.int), 2, 1595, 103) := ⟨wq_in (n := 1595) rfl rfl, wq_in (n := 103) rfl rfl, by decide +kernel, by decide +kernel, by decide +kernel, by decide +kernel⟩
set_option maxRecDepth 100000 in
theorem sg_M_realOf : okSP (y_M_realOf, prog_14_method_18_code, 4, (Option.some FieldType.long), 1, 1541, 103) := ⟨wq_in (n := 1541) rfl rfl, wq_in (n := 103) rfl rfl, by decide +kernel, by decide +kernel, by decide +kernel, by decide +kernel⟩
set_option maxRecDepth 100000 in
theorem sg_M_whole : okSP (y_M_whole, prog_14_method_19_code, 7, (Option.some FieldType.int), 1, 1556, 103) := ⟨wq_in (n := 1556) rfl rfl, wq_in (n := 103) rfl rfl, by decide +kernel, by decide +kernel, by decide +kernel, by decide +kernel⟩
set_option maxRecDepth 100000 in
theorem sg_M_even : okSP (y_M_even, prog_14_method_20_code, 14, (Option.some FieldType.long), 2, 1601, 103) := ⟨wq_in (n := 1601) rfl rfl, wq_in (n := 103) rfl rfl, by decide +kernel, by decide +kernel, by decide +kernel, by decide +kernel⟩
set_option maxRecDepth 100000 in
theorem sg_M_above : okSP (y_M_above, prog_14_method_21_code, 2, (Option.some FieldType.long), 1, 1612, 103) := ⟨wq_in (n := 1612) rfl rfl, wq_in (n := 103) rfl rfl, by decide +kernel, by decide +kernel, by decide +kernel, by decide +kernel⟩
set_option maxRecDepth 100000 in
theorem sg_M_step : okSP (y_M_step, prog_14_method_22_code, 2, (Option.some FieldType.long), 1, 1609, 103) := ⟨wq_in (n := 1609) rfl rfl, wq_in (n := 103) rfl rfl, by decide +kernel, by decide +kernel, by decide +kernel, by decide +kernel⟩
set_option maxRecDepth 100000 in
theorem sg_M_narrow : okSP (y_M_narrow, prog_14_method_23_code, 3, (Option.some FieldType.int), 1, 1615, 103) := ⟨wq_in (n := 1615) rfl rfl, wq_in (n := 103) rfl rfl, by decide +kernel, by decide +kernel, by decide +kernel, by decide +kernel⟩
set_option maxRecDepth 100000 in
theorem sg_M_wide : okSP (y_M_wide, prog_14_method_24_code, 4, (Option.some FieldType.long), 1, 1620, 103) := ⟨wq_in (n := 1620) rfl rfl, wq_in (n := 103) rfl rfl, by decide +kernel, by decide +kernel, by decide +kernel, by decide +kernel⟩
set_option maxRecDepth 100000 in
theorem sg_M_keptNarrow : okSP (y_M_keptNarrow, prog_14_method_25_code, 1, (Option.some FieldType.int), 1, 1707, 103) := ⟨wq_in (n := 1707) rfl rfl, wq_in (n := 103) rfl rfl, by decide +kernel, by decide +kernel, by decide +kernel, by decide +kernel⟩
set_option maxRecDepth 100000 in
theorem sg_M_two : okSP (y_M_two, prog_14_method_26_code, 5, (Option.some FieldType.long), 3, 1571, 103) := ⟨wq_in (n := 1571) rfl rfl, wq_in (n := 103) rfl rfl, by decide +kernel, by decide +kernel, by decide +kernel, by decide +kernel⟩
set_option maxRecDepth 100000 in
theorem sg_M_one : okSP (y_M_one, prog_14_method_27_code, 3, (Option.some FieldType.long), 2, 1598, 103) := ⟨wq_in (n := 1598) rfl rfl, wq_in (n := 103) rfl rfl, by decide +kernel, by decide +kernel, by decide +kernel, by decide +kernel⟩
set_option maxRecDepth 100000 in
theorem sg_M_isRow : okSP (y_M_isRow, prog_14_method_28_code, 2, (Option.some FieldType.boolean), 1, 1654, 103) := ⟨wq_in (n := 1654) rfl rfl, wq_in (n := 103) rfl rfl, by decide +kernel, by decide +kernel, by decide +kernel, by decide +kernel⟩
set_option maxRecDepth 100000 in
theorem sg_M_isPart : okSP (y_M_isPart, prog_14_method_29_code, 2, (Option.some FieldType.boolean), 1, 1643, 103) := ⟨wq_in (n := 1643) rfl rfl, wq_in (n := 103) rfl rfl, by decide +kernel, by decide +kernel, by decide +kernel, by decide +kernel⟩
set_option maxRecDepth 100000 in
theorem sg_M_hasMembers : okSP (y_M_hasMembers, prog_14_method_30_code, 2, (Option.some FieldType.boolean), 1, 1477, 103) := ⟨wq_in (n := 1477) rfl rfl, wq_in (n := 103) rfl rfl, by decide +kernel, by decide +kernel, by decide +kernel, by decide +kernel⟩
set_option maxRecDepth 100000 in
theorem sg_M_isBelow : okSP (y_M_isBelow, prog_14_method_31_code, 2, (Option.some FieldType.boolean), 2, 1646, 103) := ⟨wq_in (n := 1646) rfl rfl, wq_in (n := 103) rfl rfl, by decide +kernel, by decide +kernel, by decide +kernel, by decide +kernel⟩
set_option maxRecDepth 100000 in
theorem sg_M_pays : okSP (y_M_pays, prog_14_method_32_code, 3, (Option.some FieldType.boolean), 1, 1481, 103) := ⟨wq_in (n := 1481) rfl rfl, wq_in (n := 103) rfl rfl, by decide +kernel, by decide +kernel, by decide +kernel, by decide +kernel⟩
set_option maxRecDepth 100000 in
theorem sg_M_thing : okSP (y_M_thing, prog_14_method_33_code, 4, (Option.some FieldType.int), 3, 1490, 103) := ⟨wq_in (n := 1490) rfl rfl, wq_in (n := 103) rfl rfl, by decide +kernel, by decide +kernel, by decide +kernel, by decide +kernel⟩
set_option maxRecDepth 100000 in
theorem sg_M_fault : okSP (y_M_fault, prog_14_method_34_code, 3, (Option.some FieldType.int), 2, 1512, 103) := ⟨wq_in (n := 1512) rfl rfl, wq_in (n := 103) rfl rfl, by decide +kernel, by decide +kernel, by decide +kernel, by decide +kernel⟩
set_option maxRecDepth 100000 in
theorem sg_M_fails : okSP (y_M_fails, prog_14_method_35_code, 2, (Option.some FieldType.int), 1, 1508, 103) := ⟨wq_in (n := 1508) rfl rfl, wq_in (n := 103) rfl rfl, by decide +kernel, by decide +kernel, by decide +kernel, by decide +kernel⟩
set_option maxRecDepth 100000 in
theorem sg_M_takes : okSP (y_M_takes, prog_14_method_36_code, 3, (Option.some FieldType.int), 1, 1469, 103) := ⟨wq_in (n := 1469) rfl rfl, wq_in (n := 103) rfl rfl, by decide +kernel, by decide +kernel, by decide +kernel, by decide +kernel⟩
set_option maxRecDepth 100000 in
theorem sg_M_takesFor : okSP (y_M_takesFor, prog_14_method_37_code, 3, (Option.some FieldType.int), 1, 1494, 103) := ⟨wq_in (n := 1494) rfl rfl, wq_in (n := 103) rfl rfl, by decide +kernel, by decide +kernel, by decide +kernel, by decide +kernel⟩
set_option maxRecDepth 100000 in
theorem sg_M_feed : okSP (y_M_feed, prog_14_method_38_code, 6, (Option.some FieldType.int), 5, 1432, 103) := ⟨wq_in (n := 1432) rfl rfl, wq_in (n := 103) rfl rfl, by decide +kernel, by decide +kernel, by decide +kernel, by decide +kernel⟩
set_option maxRecDepth 100000 in
theorem sg_M_four : okSP (y_M_four, prog_14_method_39_code, 3, (Option.none : Option FieldType), 1, 1436, 103) := ⟨wq_in (n := 1436) rfl rfl, wq_in (n := 103) rfl rfl, by decide +kernel, by decide +kernel, by decide +kernel, by decide +kernel⟩
set_option maxRecDepth 100000 in
theorem sg_M_end : okSP (y_M_end, prog_14_method_40_code, 2, (Option.some FieldType.int), 1, 1440, 103) := ⟨wq_in (n := 1440) rfl rfl, wq_in (n := 103) rfl rfl, by decide +kernel, by decide +kernel, by decide +kernel, by decide +kernel⟩
set_option maxRecDepth 100000 in
theorem sg_M_wholeOf : okSP (y_M_wholeOf, prog_14_method_41_code, 1, (Option.some FieldType.int), 1, 1451, 103) := ⟨wq_in (n := 1451) rfl rfl, wq_in (n := 103) rfl rfl, by decide +kernel, by decide +kernel, by decide +kernel, by decide +kernel⟩
set_option maxRecDepth 100000 in
theorem sg_M_mostOf : okSP (y_M_mostOf, prog_14_method_42_code, 4, (Option.some FieldType.int), 3, 1454, 103) := ⟨wq_in (n := 1454) rfl rfl, wq_in (n := 103) rfl rfl, by decide +kernel, by decide +kernel, by decide +kernel, by decide +kernel⟩
set_option maxRecDepth 100000 in
theorem sg_M_leastOf : okSP (y_M_leastOf, prog_14_method_43_code, 2, (Option.some FieldType.int), 2, 1457, 103) := ⟨wq_in (n := 1457) rfl rfl, wq_in (n := 103) rfl rfl, by decide +kernel, by decide +kernel, by decide +kernel, by decide +kernel⟩
set_option maxRecDepth 100000 in
theorem sg_M_wrong : okSP (y_M_wrong, prog_14_method_44_code, 12, (Option.some FieldType.int), 3, 1448, 103) := ⟨wq_in (n := 1448) rfl rfl, wq_in (n := 103) rfl rfl, by decide +kernel, by decide +kernel, by decide +kernel, by decide +kernel⟩
set_option maxRecDepth 100000 in
theorem sg_M_patch : okSP (y_M_patch, prog_14_method_45_code, 5, (Option.some FieldType.int), 1, 1444, 103) := ⟨wq_in (n := 1444) rfl rfl, wq_in (n := 103) rfl rfl, by decide +kernel, by decide +kernel, by decide +kernel, by decide +kernel⟩
set_option maxRecDepth 100000 in
theorem sg_M_run : okSP (y_M_run, prog_14_method_46_code, 4, (Option.some FieldType.int), 2, 1461, 103) := ⟨wq_in (n := 1461) rfl rfl, wq_in (n := 103) rfl rfl, by decide +kernel, by decide +kernel, by decide +kernel, by decide +kernel⟩
set_option maxRecDepth 100000 in
theorem sg_M_part : okSP (y_M_part, prog_14_method_47_code, 9, (Option.some FieldType.int), 2, 1465, 103) := ⟨wq_in (n := 1465) rfl rfl, wq_in (n := 103) rfl rfl, by decide +kernel, by decide +kernel, by decide +kernel, by decide +kernel⟩
set_option maxRecDepth 100000 in
theorem sg_M_patches : okSP (y_M_patches, prog_14_method_48_code, 3, (Option.some FieldType.int), 1, 1504, 103) := ⟨wq_in (n := 1504) rfl rfl, wq_in (n := 103) rfl rfl, by decide +kernel, by decide +kernel, by decide +kernel, by decide +kernel⟩
set_option maxRecDepth 100000 in
theorem sg_M_scope : okSP (y_M_scope, prog_14_method_49_code, 11, (Option.some FieldType.int), 2, 1473, 103) := ⟨wq_in (n := 1473) rfl rfl, wq_in (n := 103) rfl rfl, by decide +kernel, by decide +kernel, by decide +kernel, by decide +kernel⟩
set_option maxRecDepth 100000 in
theorem sg_M_back : okSP (y_M_back, prog_14_method_50_code, 7, (Option.none : Option FieldType), 2, 1500, 103) := ⟨wq_in (n := 1500) rfl rfl, wq_in (n := 103) rfl rfl, by decide +kernel, by decide +kernel, by decide +kernel, by decide +kernel⟩
set_option maxRecDepth 100000 in
theorem sg_M_cloned : okSP (y_M_cloned, prog_14_method_51_code, 4, (Option.some FieldType.int), 1, 1486, 103) := ⟨wq_in (n := 1486) rfl rfl, wq_in (n := 103) rfl rfl, by decide +kernel, by decide +kernel, by decide +kernel, by decide +kernel⟩
set_option maxRecDepth 100000 in
theorem sg_M_eight : okSP (y_M_eight, prog_14_method_52_code, 5, (Option.some FieldType.int), 2, 1524, 103) := ⟨wq_in (n := 1524) rfl rfl, wq_in (n := 103) rfl rfl, by decide +kernel, by decide +kernel, by decide +kernel, by decide +kernel⟩
set_option maxRecDepth 100000 in
theorem sg_M_act : okSP (y_M_act, prog_14_method_53_code, 4, (Option.some FieldType.int), 2, 1516, 103) := ⟨wq_in (n := 1516) rfl rfl, wq_in (n := 103) rfl rfl, by decide +kernel, by decide +kernel, by decide +kernel, by decide +kernel⟩
set_option maxRecDepth 100000 in
theorem sg_M_reckons : okSP (y_M_reckons, prog_14_method_54_code, 8, (Option.some FieldType.int), 2, 1520, 103) := ⟨wq_in (n := 1520) rfl rfl, wq_in (n := 103) rfl rfl, by decide +kernel, by decide +kernel, by decide +kernel, by decide +kernel⟩
set_option maxRecDepth 100000 in
theorem sg_M_ints : okSP (y_M_ints, prog_14_method_55_code, 5, (Option.some FieldType.int), 4, 1528, 103) := ⟨wq_in (n := 1528) rfl rfl, wq_in (n := 103) rfl rfl, by decide +kernel, by decide +kernel, by decide +kernel, by decide +kernel⟩
set_option maxRecDepth 100000 in
theorem sg_M_makes : okSP (y_M_makes, prog_14_method_56_code, 6, (Option.some FieldType.int), 2, 1626, 103) := ⟨wq_in (n := 1626) rfl rfl, wq_in (n := 103) rfl rfl, by decide +kernel, by decide +kernel, by decide +kernel, by decide +kernel⟩
set_option maxRecDepth 100000 in
theorem sg_M_grid : okSP (y_M_grid, prog_14_method_57_code, 6, (Option.some FieldType.int), 3, 1630, 103) := ⟨wq_in (n := 1630) rfl rfl, wq_in (n := 103) rfl rfl, by decide +kernel, by decide +kernel, by decide +kernel, by decide +kernel⟩
set_option maxRecDepth 100000 in
theorem sg_M_is : okSP (y_M_is, prog_14_method_58_code, 3, (Option.some FieldType.boolean), 2, 1639, 103) := ⟨wq_in (n := 1639) rfl rfl, wq_in (n := 103) rfl rfl, by decide +kernel, by decide +kernel, by decide +kernel, by decide +kernel⟩
set_option maxRecDepth 100000 in
theorem sg_M_members : okSP (y_M_members, prog_14_method_60_code, 8, (Option.some FieldType.int), 2, 1635, 103) := ⟨wq_in (n := 1635) rfl rfl, wq_in (n := 103) rfl rfl, by decide +kernel, by decide +kernel, by decide +kernel, by decide +kernel⟩
set_option maxRecDepth 100000 in
theorem sg_M_cut : okSP (y_M_cut, prog_14_method_61_code, 2, (Option.some FieldType.long), 2, 1661, 103) := ⟨wq_in (n := 1661) rfl rfl, wq_in (n := 103) rfl rfl, by decide +kernel, by decide +kernel, by decide +kernel, by decide +kernel⟩
set_option maxRecDepth 100000 in
theorem sg_M_goes : okSP (y_M_goes, prog_14_method_62_code, 3, (Option.some FieldType.boolean), 2, 1658, 103) := ⟨wq_in (n := 1658) rfl rfl, wq_in (n := 103) rfl rfl, by decide +kernel, by decide +kernel, by decide +kernel, by decide +kernel⟩
set_option maxRecDepth 100000 in
theorem sg_M_copies : okSP (y_M_copies, prog_14_method_63_code, 11, (Option.some FieldType.int), 5, 1650, 103) := ⟨wq_in (n := 1650) rfl rfl, wq_in (n := 103) rfl rfl, by decide +kernel, by decide +kernel, by decide +kernel, by decide +kernel⟩
set_option maxRecDepth 100000 in
theorem sg_M_places : okSP (y_M_places, prog_14_method_64_code, 9, (Option.some FieldType.int), 2, 1666, 103) := ⟨wq_in (n := 1666) rfl rfl, wq_in (n := 103) rfl rfl, by decide +kernel, by decide +kernel, by decide +kernel, by decide +kernel⟩
set_option maxRecDepth 100000 in
theorem sg_M_fields : okSP (y_M_fields, prog_14_method_65_code, 8, (Option.some FieldType.int), 2, 1670, 103) := ⟨wq_in (n := 1670) rfl rfl, wq_in (n := 103) rfl rfl, by decide +kernel, by decide +kernel, by decide +kernel, by decide +kernel⟩
set_option maxRecDepth 100000 in
theorem sg_M_asks : okSP (y_M_asks, prog_14_method_66_code, 11, (Option.some FieldType.int), 1, 1674, 103) := ⟨wq_in (n := 1674) rfl rfl, wq_in (n := 103) rfl rfl, by decide +kernel, by decide +kernel, by decide +kernel, by decide +kernel⟩
set_option maxRecDepth 100000 in
theorem sg_M_weighs : okSP (y_M_weighs, prog_14_method_67_code, 11, (Option.some FieldType.int), 2, 1681, 103) := ⟨wq_in (n := 1681) rfl rfl, wq_in (n := 103) rfl rfl, by decide +kernel, by decide +kernel, by decide +kernel, by decide +kernel⟩
set_option maxRecDepth 100000 in
theorem sg_M_load : okSP (y_M_load, prog_14_method_68_code, 3, (Option.some FieldType.int), 1, 1685, 103) := ⟨wq_in (n := 1685) rfl rfl, wq_in (n := 103) rfl rfl, by decide +kernel, by decide +kernel, by decide +kernel, by decide +kernel⟩
set_option maxRecDepth 100000 in
theorem sg_M_has : okSP (y_M_has, prog_14_method_69_code, 2, (Option.some FieldType.boolean), 1, 1693, 103) := ⟨wq_in (n := 1693) rfl rfl, wq_in (n := 103) rfl rfl, by decide +kernel, by decide +kernel, by decide +kernel, by decide +kernel⟩
set_option maxRecDepth 100000 in
theorem sg_M_next : okSP (y_M_next, prog_14_method_70_code, 5, (Option.some FieldType.long), 1, 1697, 103) := ⟨wq_in (n := 1697) rfl rfl, wq_in (n := 103) rfl rfl, by decide +kernel, by decide +kernel, by decide +kernel, by decide +kernel⟩
set_option maxRecDepth 100000 in
theorem sg_M_wideOf : okSP (y_M_wideOf, prog_14_method_71_code, 1, (Option.some FieldType.int), 1, 1704, 103) := ⟨wq_in (n := 1704) rfl rfl, wq_in (n := 103) rfl rfl, by decide +kernel, by decide +kernel, by decide +kernel, by decide +kernel⟩
set_option maxRecDepth 100000 in
theorem sg_M_parse : okSP (y_M_parse, prog_14_method_72_code, 3, (Option.some FieldType.int), 1, 1689, 103) := ⟨wq_in (n := 1689) rfl rfl, wq_in (n := 103) rfl rfl, by decide +kernel, by decide +kernel, by decide +kernel, by decide +kernel⟩
set_option maxRecDepth 100000 in
theorem sg_M_parseMany : okSP (y_M_parseMany, prog_14_method_73_code, 10, (Option.some FieldType.int), 2, 1701, 103) := ⟨wq_in (n := 1701) rfl rfl, wq_in (n := 103) rfl rfl, by decide +kernel, by decide +kernel, by decide +kernel, by decide +kernel⟩
set_option maxRecDepth 100000 in
theorem sg_M_parseTrouble : okSP (y_M_parseTrouble, prog_14_method_74_code, 2, (Option.some FieldType.int), 0, 1711, 103) := ⟨wq_in (n := 1711) rfl rfl, wq_in (n := 103) rfl rfl, by decide +kernel, by decide +kernel, by decide +kernel, by decide +kernel⟩
set_option maxRecDepth 100000 in
theorem sg_M_parsePart : okSP (y_M_parsePart, prog_14_method_75_code, 6, (Option.some FieldType.int), 2, 1715, 103) := ⟨wq_in (n := 1715) rfl rfl, wq_in (n := 103) rfl rfl, by decide +kernel, by decide +kernel, by decide +kernel, by decide +kernel⟩
set_option maxRecDepth 100000 in
theorem sg_M_save : okSP (y_M_save, prog_14_method_76_code, 3, (Option.some FieldType.int), 1, 1719, 103) := ⟨wq_in (n := 1719) rfl rfl, wq_in (n := 103) rfl rfl, by decide +kernel, by decide +kernel, by decide +kernel, by decide +kernel⟩
set_option maxRecDepth 100000 in
theorem sg_M_tell : okSP (y_M_tell, prog_14_method_77_code, 5, (Option.some FieldType.int), 2, 1727, 103) := ⟨wq_in (n := 1727) rfl rfl, wq_in (n := 103) rfl rfl, by decide +kernel, by decide +kernel, by decide +kernel, by decide +kernel⟩
set_option maxRecDepth 100000 in
theorem sg_M_write : okSP (y_M_write, prog_14_method_78_code, 7, (Option.some FieldType.int), 2, 1723, 103) := ⟨wq_in (n := 1723) rfl rfl, wq_in (n := 103) rfl rfl, by decide +kernel, by decide +kernel, by decide +kernel, by decide +kernel⟩
set_option maxRecDepth 100000 in
theorem sg_M_out : okSP (y_M_out, prog_14_method_79_code, 2, (Option.some FieldType.int), 1, 1731, 103) := ⟨wq_in (n := 1731) rfl rfl, wq_in (n := 103) rfl rfl, by decide +kernel, by decide +kernel, by decide +kernel, by decide +kernel⟩
set_option maxRecDepth 100000 in
theorem sg_M_look : okSP (y_M_look, prog_14_method_80_code, 2, (Option.some FieldType.int), 1, 1735, 103) := ⟨wq_in (n := 1735) rfl rfl, wq_in (n := 103) rfl rfl, by decide +kernel, by decide +kernel, by decide +kernel, by decide +kernel⟩
set_option maxRecDepth 100000 in
theorem sg_M_number : okSP (y_M_number, prog_14_method_81_code, 2, (Option.some FieldType.int), 1, 1739, 103) := ⟨wq_in (n := 1739) rfl rfl, wq_in (n := 103) rfl rfl, by decide +kernel, by decide +kernel, by decide +kernel, by decide +kernel⟩
set_option maxRecDepth 100000 in
theorem sg_M_real : okSP (y_M_real, prog_14_method_82_code, 2, (Option.some FieldType.long), 1, 1743, 103) := ⟨wq_in (n := 1743) rfl rfl, wq_in (n := 103) rfl rfl, by decide +kernel, by decide +kernel, by decide +kernel, by decide +kernel⟩
set_option maxRecDepth 100000 in
theorem sg_M_slot : okSP (y_M_slot, prog_14_method_83_code, 4, (Option.some FieldType.int), 2, 1747, 103) := ⟨wq_in (n := 1747) rfl rfl, wq_in (n := 103) rfl rfl, by decide +kernel, by decide +kernel, by decide +kernel, by decide +kernel⟩
set_option maxRecDepth 100000 in
theorem sg_M_member : okSP (y_M_member, prog_14_method_84_code, 8, (Option.some FieldType.long), 2, 1751, 103) := ⟨wq_in (n := 1751) rfl rfl, wq_in (n := 103) rfl rfl, by decide +kernel, by decide +kernel, by decide +kernel, by decide +kernel⟩
set_option maxRecDepth 100000 in
theorem sg_M_same : okSP (y_M_same, prog_14_method_85_code, 3, (Option.some FieldType.int), 2, 1756, 103) := ⟨wq_in (n := 1756) rfl rfl, wq_in (n := 103) rfl rfl, by decide +kernel, by decide +kernel, by decide +kernel, by decide +kernel⟩
set_option maxRecDepth 100000 in
theorem sg_En_init : okSP (y_En_init, prog_2_method_1_code, 4, (Option.none : Option FieldType), 3, 254, 102) := ⟨wq_in (n := 254) rfl rfl, wq_in (n := 102) rfl rfl, by decide +kernel, by decide +kernel, by decide +kernel, by decide +kernel⟩
set_option maxRecDepth 100000 in
theorem sg_En_perform : okSP (y_En_perform, prog_2_method_2_code, 4, (Option.some FieldType.int), 1, 747, 102) := ⟨wq_in (n := 747) rfl rfl, wq_in (n := 102) rfl rfl, by decide +kernel, by decide +kernel, by decide +kernel, by decide +kernel⟩
set_option maxRecDepth 100000 in
theorem sg_En_byteAt : okSP (y_En_byteAt, prog_2_method_3_code, 2, (Option.some FieldType.int), 1, 770, 102) := ⟨wq_in (n := 770) rfl rfl, wq_in (n := 102) rfl rfl, by decide +kernel, by decide +kernel, by decide +kernel, by decide +kernel⟩
set_option maxRecDepth 100000 in
theorem sg_En_push : okSP (y_En_push, prog_2_method_4_code, 5, (Option.none : Option FieldType), 4, 756, 102) := ⟨wq_in (n := 756) rfl rfl, wq_in (n := 102) rfl rfl, by decide +kernel, by decide +kernel, by decide +kernel, by decide +kernel⟩
set_option maxRecDepth 100000 in
theorem sg_En_pop : okSP (y_En_pop, prog_2_method_5_code, 2, (Option.none : Option FieldType), 1, 765, 102) := ⟨wq_in (n := 765) rfl rfl, wq_in (n := 102) rfl rfl, by decide +kernel, by decide +kernel, by decide +kernel, by decide +kernel⟩
set_option maxRecDepth 100000 in
theorem sg_En_beginPatch : okSP (y_En_beginPatch, prog_2_method_6_code, 3, (Option.none : Option FieldType), 1, 751, 102) := ⟨wq_in (n := 751) rfl rfl, wq_in (n := 102) rfl rfl, by decide +kernel, by decide +kernel, by decide +kernel, by decide +kernel⟩
set_option maxRecDepth 100000 in
theorem sg_En_beginOp : okSP (y_En_beginOp, prog_2_method_7_code, 5, (Option.none : Option FieldType), 1, 805, 102) := ⟨wq_in (n := 805) rfl rfl, wq_in (n := 102) rfl rfl, by decide +kernel, by decide +kernel, by decide +kernel, by decide +kernel⟩
set_option maxRecDepth 100000 in
theorem sg_En_isOn : okSP (y_En_isOn, prog_2_method_8_code, 2, (Option.some FieldType.boolean), 1, 819, 102) := ⟨wq_in (n := 819) rfl rfl, wq_in (n := 102) rfl rfl, by decide +kernel, by decide +kernel, by decide +kernel, by decide +kernel⟩
set_option maxRecDepth 100000 in
theorem sg_En_choose : okSP (y_En_choose, prog_2_method_9_code, 6, (Option.none : Option FieldType), 3, 815, 102) := ⟨wq_in (n := 815) rfl rfl, wq_in (n := 102) rfl rfl, by decide +kernel, by decide +kernel, by decide +kernel, by decide +kernel⟩
set_option maxRecDepth 100000 in
theorem sg_En_beginScope : okSP (y_En_beginScope, prog_2_method_10_code, 4, (Option.none : Option FieldType), 3, 823, 102) := ⟨wq_in (n := 823) rfl rfl, wq_in (n := 102) rfl rfl, by decide +kernel, by decide +kernel, by decide +kernel, by decide +kernel⟩
set_option maxRecDepth 100000 in
theorem sg_En_saves : okSP (y_En_saves, prog_2_method_11_code, 5, (Option.some FieldType.boolean), 2, 782, 102) := ⟨wq_in (n := 782) rfl rfl, wq_in (n := 102) rfl rfl, by decide +kernel, by decide +kernel, by decide +kernel, by decide +kernel⟩
set_option maxRecDepth 100000 in
theorem sg_En_keepSlots : okSP (y_En_keepSlots, prog_2_method_12_code, 3, (Option.none : Option FieldType), 1, 827, 102) := ⟨wq_in (n := 827) rfl rfl, wq_in (n := 102) rfl rfl, by decide +kernel, by decide +kernel, by decide +kernel, by decide +kernel⟩
set_option maxRecDepth 100000 in
theorem sg_En_keepSlot : okSP (y_En_keepSlot, prog_2_method_13_code, 3, (Option.none : Option FieldType), 2, 832, 102) := ⟨wq_in (n := 832) rfl rfl, wq_in (n := 102) rfl rfl, by decide +kernel, by decide +kernel, by decide +kernel, by decide +kernel⟩
set_option maxRecDepth 100000 in
theorem sg_En_putSlotsBack : okSP (y_En_putSlotsBack, prog_2_method_14_code, 4, (Option.none : Option FieldType), 1, 778, 102) := ⟨wq_in (n := 778) rfl rfl, wq_in (n := 102) rfl rfl, by decide +kernel, by decide +kernel, by decide +kernel, by decide +kernel⟩
set_option maxRecDepth 100000 in
theorem sg_En_leave : okSP (y_En_leave, prog_2_method_15_code, 2, (Option.none : Option FieldType), 1, 1171, 102) := ⟨wq_in (n := 1171) rfl rfl, wq_in (n := 102) rfl rfl, by decide +kernel, by decide +kernel, by decide +kernel, by decide +kernel⟩
set_option maxRecDepth 100000 in
theorem sg_En_beginFurtherRound : okSP (y_En_beginFurtherRound, prog_2_method_16_code, 3, (Option.none : Option FieldType), 1, 1175, 102) := ⟨wq_in (n := 1175) rfl rfl, wq_in (n := 102) rfl rfl, by decide +kernel, by decide +kernel, by decide +kernel, by decide +kernel⟩
set_option maxRecDepth 100000 in
theorem sg_En_beginAlways : okSP (y_En_beginAlways, prog_2_method_17_code, 5, (Option.none : Option FieldType), 3, 801, 102) := ⟨wq_in (n := 801) rfl rfl, wq_in (n := 102) rfl rfl, by decide +kernel, by decide +kernel, by decide +kernel, by decide +kernel⟩
set_option maxRecDepth 100000 in
theorem sg_En_beginHandler : okSP (y_En_beginHandler, prog_2_method_18_code, 5, (Option.none : Option FieldType), 3, 774, 102) := ⟨wq_in (n := 774) rfl rfl, wq_in (n := 102) rfl rfl, by decide +kernel, by decide +kernel, by decide +kernel, by decide +kernel⟩
set_option maxRecDepth 100000 in
theorem sg_En_leaveByFault : okSP (y_En_leaveByFault, prog_2_method_19_code, 4, (Option.none : Option FieldType), 1, 761, 102) := ⟨wq_in (n := 761) rfl rfl, wq_in (n := 102) rfl rfl, by decide +kernel, by decide +kernel, by decide +kernel, by decide +kernel⟩
set_option maxRecDepth 100000 in
theorem sg_Fo_init : okSP (y_Fo_init, prog_3_method_1_code, 2, (Option.none : Option FieldType), 1, 167, 99) := ⟨wq_in (n := 167) rfl rfl, wq_in (n := 99) rfl rfl, by decide +kernel, by decide +kernel, by decide +kernel, by decide +kernel⟩
set_option maxRecDepth 100000 in
theorem sg_Fo_append : okSP (y_Fo_append, prog_3_method_2_code, 3, (Option.none : Option FieldType), 1, 332, 99) := ⟨wq_in (n := 332) rfl rfl, wq_in (n := 99) rfl rfl, by decide +kernel, by decide +kernel, by decide +kernel, by decide +kernel⟩
set_option maxRecDepth 100000 in
theorem sg_Fo_bytesOf : okSP (y_Fo_bytesOf, prog_3_method_3_code, 1, (Option.some FieldType.int), 1, 583, 99) := ⟨wq_in (n := 583) rfl rfl, wq_in (n := 99) rfl rfl, by decide +kernel, by decide +kernel, by decide +kernel, by decide +kernel⟩
set_option maxRecDepth 100000 in
theorem sg_Fo_readTape : okSP (y_Fo_readTape, prog_3_method_4_code, 2, (Option.some (FieldType.object "PatchHouse$Thing")), 1, 525, 99) := ⟨wq_in (n := 525) rfl rfl, wq_in (n := 99) rfl rfl, by decide +kernel, by decide +kernel, by decide +kernel, by decide +kernel⟩
set_option maxRecDepth 100000 in
theorem sg_Fo_readThing : okSP (y_Fo_readThing, prog_3_method_5_code, 3, (Option.some (FieldType.object "PatchHouse$Thing")), 1, 529, 99) := ⟨wq_in (n := 529) rfl rfl, wq_in (n := 99) rfl rfl, by decide +kernel, by decide +kernel, by decide +kernel, by decide +kernel⟩
set_option maxRecDepth 100000 in
theorem sg_Fo_readBytes : okSP (y_Fo_readBytes, prog_3_method_6_code, 5, (Option.some FieldType.long), 1, 547, 99) := ⟨wq_in (n := 547) rfl rfl, wq_in (n := 99) rfl rfl, by decide +kernel, by decide +kernel, by decide +kernel, by decide +kernel⟩
set_option maxRecDepth 100000 in
theorem sg_Fo_readSize : okSP (y_Fo_readSize, prog_3_method_7_code, 2, (Option.some FieldType.int), 0, 559, 99) := ⟨wq_in (n := 559) rfl rfl, wq_in (n := 99) rfl rfl, by decide +kernel, by decide +kernel, by decide +kernel, by decide +kernel⟩
set_option maxRecDepth 100000 in
theorem sg_Fo_readRow : okSP (y_Fo_readRow, prog_3_method_8_code, 5, (Option.some (FieldType.object "PatchHouse$Thing")), 1, 555, 99) := ⟨wq_in (n := 555) rfl rfl, wq_in (n := 99) rfl rfl, by decide +kernel, by decide +kernel, by decide +kernel, by decide +kernel⟩
set_option maxRecDepth 100000 in
theorem sg_Fo_readShelf : okSP (y_Fo_readShelf, prog_3_method_9_code, 9, (Option.some (FieldType.object "PatchHouse$Thing")), 2, 606, 99) := ⟨wq_in (n := 606) rfl rfl, wq_in (n := 99) rfl rfl, by decide +kernel, by decide +kernel, by decide +kernel, by decide +kernel⟩
set_option maxRecDepth 100000 in
theorem sg_Fo_readPart : okSP (y_Fo_readPart, prog_3_method_10_code, 4, (Option.some (FieldType.object "PatchHouse$Thing")), 2, 653, 99) := ⟨wq_in (n := 653) rfl rfl, wq_in (n := 99) rfl rfl, by decide +kernel, by decide +kernel, by decide +kernel, by decide +kernel⟩
set_option maxRecDepth 100000 in
theorem sg_Fo_readInner : okSP (y_Fo_readInner, prog_3_method_11_code, 5, (Option.none : Option FieldType), 2, 697, 99) := ⟨wq_in (n := 697) rfl rfl, wq_in (n := 99) rfl rfl, by decide +kernel, by decide +kernel, by decide +kernel, by decide +kernel⟩
set_option maxRecDepth 100000 in
theorem sg_Fo_writeOut : okSP (y_Fo_writeOut, prog_3_method_12_code, 2, (Option.some FieldType.int), 1, 718, 99) := ⟨wq_in (n := 718) rfl rfl, wq_in (n := 99) rfl rfl, by decide +kernel, by decide +kernel, by decide +kernel, by decide +kernel⟩
set_option maxRecDepth 100000 in
theorem sg_Fo_writeThing : okSP (y_Fo_writeThing, prog_3_method_13_code, 7, (Option.none : Option FieldType), 2, 722, 99) := ⟨wq_in (n := 722) rfl rfl, wq_in (n := 99) rfl rfl, by decide +kernel, by decide +kernel, by decide +kernel, by decide +kernel⟩
set_option maxRecDepth 100000 in
theorem sg_Fo_writeBytes : okSP (y_Fo_writeBytes, prog_3_method_14_code, 5, (Option.none : Option FieldType), 2, 727, 99) := ⟨wq_in (n := 727) rfl rfl, wq_in (n := 99) rfl rfl, by decide +kernel, by decide +kernel, by decide +kernel, by decide +kernel⟩
set_option maxRecDepth 100000 in
theorem sg_Fo_writeRow : okSP (y_Fo_writeRow, prog_3_method_15_code, 3, (Option.none : Option FieldType), 1, 731, 99) := ⟨wq_in (n := 731) rfl rfl, wq_in (n := 99) rfl rfl, by decide +kernel, by decide +kernel, by decide +kernel, by decide +kernel⟩
set_option maxRecDepth 100000 in
theorem sg_Fo_writeShelf : okSP (y_Fo_writeShelf, prog_3_method_16_code, 4, (Option.none : Option FieldType), 2, 735, 99) := ⟨wq_in (n := 735) rfl rfl, wq_in (n := 99) rfl rfl, by decide +kernel, by decide +kernel, by decide +kernel, by decide +kernel⟩
set_option maxRecDepth 100000 in
theorem sg_Fo_writePart : okSP (y_Fo_writePart, prog_3_method_17_code, 3, (Option.none : Option FieldType), 2, 739, 99) := ⟨wq_in (n := 739) rfl rfl, wq_in (n := 99) rfl rfl, by decide +kernel, by decide +kernel, by decide +kernel, by decide +kernel⟩
set_option maxRecDepth 100000 in
theorem sg_Le_init : okSP (y_Le_init, prog_4_method_1_code, 1, (Option.none : Option FieldType), 0, 133, 98) := ⟨wq_in (n := 133) rfl rfl, wq_in (n := 98) rfl rfl, by decide +kernel, by decide +kernel, by decide +kernel, by decide +kernel⟩
set_option maxRecDepth 100000 in
theorem sg_Le_settle : okSP (y_Le_settle, prog_4_method_2_code, 1, (Option.none : Option FieldType), 0, 521, 98) := ⟨wq_in (n := 521) rfl rfl, wq_in (n := 98) rfl rfl, by decide +kernel, by decide +kernel, by decide +kernel, by decide +kernel⟩
set_option maxRecDepth 100000 in
theorem sg_Le_stopped : okSP (y_Le_stopped, prog_4_method_3_code, 1, (Option.some FieldType.boolean), 0, 551, 98) := ⟨wq_in (n := 551) rfl rfl, wq_in (n := 98) rfl rfl, by decide +kernel, by decide +kernel, by decide +kernel, by decide +kernel⟩
set_option maxRecDepth 100000 in
theorem sg_Le_make : okSP (y_Le_make, prog_4_method_4_code, 3, (Option.some FieldType.boolean), 1, 538, 98) := ⟨wq_in (n := 538) rfl rfl, wq_in (n := 98) rfl rfl, by decide +kernel, by decide +kernel, by decide +kernel, by decide +kernel⟩
set_option maxRecDepth 100000 in
theorem sg_Le_burn : okSP (y_Le_burn, prog_4_method_5_code, 3, (Option.some FieldType.boolean), 1, 809, 98) := ⟨wq_in (n := 809) rfl rfl, wq_in (n := 98) rfl rfl, by decide +kernel, by decide +kernel, by decide +kernel, by decide +kernel⟩
set_option maxRecDepth 100000 in
theorem sg_Le_fault : okSP (y_Le_fault, prog_4_method_6_code, 2, (Option.none : Option FieldType), 1, 533, 98) := ⟨wq_in (n := 533) rfl rfl, wq_in (n := 98) rfl rfl, by decide +kernel, by decide +kernel, by decide +kernel, by decide +kernel⟩
set_option maxRecDepth 100000 in
theorem sg_Le_faultTold : okSP (y_Le_faultTold, prog_4_method_7_code, 2, (Option.none : Option FieldType), 1, 1167, 98) := ⟨wq_in (n := 1167) rfl rfl, wq_in (n := 98) rfl rfl, by decide +kernel, by decide +kernel, by decide +kernel, by decide +kernel⟩
set_option maxRecDepth 100000 in
theorem sg_Le_handOn : okSP (y_Le_handOn, prog_4_method_8_code, 3, (Option.none : Option FieldType), 2, 543, 98) := ⟨wq_in (n := 543) rfl rfl, wq_in (n := 98) rfl rfl, by decide +kernel, by decide +kernel, by decide +kernel, by decide +kernel⟩
set_option maxRecDepth 100000 in
theorem sg_Op_init : okSP (y_Op_init, prog_5_method_1_code, 3, (Option.none : Option FieldType), 2, 221, 101) := ⟨wq_in (n := 221) rfl rfl, wq_in (n := 101) rfl rfl, by decide +kernel, by decide +kernel, by decide +kernel, by decide +kernel⟩
set_option maxRecDepth 100000 in
theorem sg_Op_perform : okSP (y_Op_perform, prog_5_method_2_code, 3, (Option.none : Option FieldType), 1, 869, 101) := ⟨wq_in (n := 869) rfl rfl, wq_in (n := 101) rfl rfl, by decide +kernel, by decide +kernel, by decide +kernel, by decide +kernel⟩
set_option maxRecDepth 100000 in
theorem sg_Op_operand : okSP (y_Op_operand, prog_5_method_3_code, 3, (Option.some FieldType.int), 1, 873, 101) := ⟨wq_in (n := 873) rfl rfl, wq_in (n := 101) rfl rfl, by decide +kernel, by decide +kernel, by decide +kernel, by decide +kernel⟩
set_option maxRecDepth 100000 in
theorem sg_Op_bytes : okSP (y_Op_bytes, prog_5_method_4_code, 6, (Option.some FieldType.long), 2, 877, 101) := ⟨wq_in (n := 877) rfl rfl, wq_in (n := 101) rfl rfl, by decide +kernel, by decide +kernel, by decide +kernel, by decide +kernel⟩
set_option maxRecDepth 100000 in
theorem sg_Op_numberAt : okSP (y_Op_numberAt, prog_5_method_5_code, 2, (Option.some FieldType.int), 1, 885, 101) := ⟨wq_in (n := 885) rfl rfl, wq_in (n := 101) rfl rfl, by decide +kernel, by decide +kernel, by decide +kernel, by decide +kernel⟩
set_option maxRecDepth 100000 in
theorem sg_Op_setNumber : okSP (y_Op_setNumber, prog_5_method_6_code, 3, (Option.none : Option FieldType), 2, 881, 101) := ⟨wq_in (n := 881) rfl rfl, wq_in (n := 101) rfl rfl, by decide +kernel, by decide +kernel, by decide +kernel, by decide +kernel⟩
set_option maxRecDepth 100000 in
theorem sg_Op_realAt : okSP (y_Op_realAt, prog_5_method_7_code, 2, (Option.some FieldType.long), 1, 914, 101) := ⟨wq_in (n := 914) rfl rfl, wq_in (n := 101) rfl rfl, by decide +kernel, by decide +kernel, by decide +kernel, by decide +kernel⟩
set_option maxRecDepth 100000 in
theorem sg_Op_setReal : okSP (y_Op_setReal, prog_5_method_8_code, 4, (Option.none : Option FieldType), 2, 898, 101) := ⟨wq_in (n := 898) rfl rfl, wq_in (n := 101) rfl rfl, by decide +kernel, by decide +kernel, by decide +kernel, by decide +kernel⟩
set_option maxRecDepth 100000 in
theorem sg_Op_slotAt : okSP (y_Op_slotAt, prog_5_method_9_code, 2, (Option.some (FieldType.object "PatchHouse$Thing")), 1, 1012, 101) := ⟨wq_in (n := 1012) rfl rfl, wq_in (n := 101) rfl rfl, by decide +kernel, by decide +kernel, by decide +kernel, by decide +kernel⟩
set_option maxRecDepth 100000 in
theorem sg_Op_setSlot : okSP (y_Op_setSlot, prog_5_method_10_code, 3, (Option.none : Option FieldType), 2, 1016, 101) := ⟨wq_in (n := 1016) rfl rfl, wq_in (n := 101) rfl rfl, by decide +kernel, by decide +kernel, by decide +kernel, by decide +kernel⟩
set_option maxRecDepth 100000 in
theorem sg_Op_miss : okSP (y_Op_miss, prog_5_method_11_code, 2, (Option.none : Option FieldType), 1, 1057, 101) := ⟨wq_in (n := 1057) rfl rfl, wq_in (n := 101) rfl rfl, by decide +kernel, by decide +kernel, by decide +kernel, by decide +kernel⟩
set_option maxRecDepth 100000 in
theorem sg_Op_isWithin : okSP (y_Op_isWithin, prog_5_method_12_code, 3, (Option.some FieldType.boolean), 2, 1076, 101) := ⟨wq_in (n := 1076) rfl rfl, wq_in (n := 101) rfl rfl, by decide +kernel, by decide +kernel, by decide +kernel, by decide +kernel⟩
set_option maxRecDepth 100000 in
theorem sg_Op_eighths : okSP (y_Op_eighths, prog_5_method_13_code, 2, (Option.some FieldType.long), 1, 863, 101) := ⟨wq_in (n := 863) rfl rfl, wq_in (n := 101) rfl rfl, by decide +kernel, by decide +kernel, by decide +kernel, by decide +kernel⟩
set_option maxRecDepth 100000 in
theorem sg_Op_calculate : okSP (y_Op_calculate, prog_5_method_14_code, 4, (Option.none : Option FieldType), 3, 889, 101) := ⟨wq_in (n := 889) rfl rfl, wq_in (n := 101) rfl rfl, by decide +kernel, by decide +kernel, by decide +kernel, by decide +kernel⟩
set_option maxRecDepth 100000 in
theorem sg_Op_calculated : okSP (y_Op_calculated, prog_5_method_15_code, 3, (Option.some FieldType.int), 3, 893, 101) := ⟨wq_in (n := 893) rfl rfl, wq_in (n := 101) rfl rfl, by decide +kernel, by decide +kernel, by decide +kernel, by decide +kernel⟩
set_option maxRecDepth 100000 in
theorem sg_Op_makeRow : okSP (y_Op_makeRow, prog_5_method_16_code, 2, (Option.none : Option FieldType), 1, 1020, 101) := ⟨wq_in (n := 1020) rfl rfl, wq_in (n := 101) rfl rfl, by decide +kernel, by decide +kernel, by decide +kernel, by decide +kernel⟩
set_option maxRecDepth 100000 in
theorem sg_Op_makeGrid : okSP (y_Op_makeGrid, prog_5_method_17_code, 5, (Option.none : Option FieldType), 2, 1029, 101) := ⟨wq_in (n := 1029) rfl rfl, wq_in (n := 101) rfl rfl, by decide +kernel, by decide +kernel, by decide +kernel, by decide +kernel⟩
set_option maxRecDepth 100000 in
theorem sg_Op_makeBox : okSP (y_Op_makeBox, prog_5_method_18_code, 2, (Option.none : Option FieldType), 1, 1035, 101) := ⟨wq_in (n := 1035) rfl rfl, wq_in (n := 101) rfl rfl, by decide +kernel, by decide +kernel, by decide +kernel, by decide +kernel⟩
set_option maxRecDepth 100000 in
theorem sg_Op_makePart : okSP (y_Op_makePart, prog_5_method_19_code, 1, (Option.none : Option FieldType), 0, 1039, 101) := ⟨wq_in (n := 1039) rfl rfl, wq_in (n := 101) rfl rfl, by decide +kernel, by decide +kernel, by decide +kernel, by decide +kernel⟩
set_option maxRecDepth 100000 in
theorem sg_Op_makeTrouble : okSP (y_Op_makeTrouble, prog_5_method_20_code, 1, (Option.none : Option FieldType), 0, 1046, 101) := ⟨wq_in (n := 1046) rfl rfl, wq_in (n := 101) rfl rfl, by decide +kernel, by decide +kernel, by decide +kernel, by decide +kernel⟩
set_option maxRecDepth 100000 in
theorem sg_Op_makeTwin : okSP (y_Op_makeTwin, prog_5_method_21_code, 2, (Option.none : Option FieldType), 1, 1100, 101) := ⟨wq_in (n := 1100) rfl rfl, wq_in (n := 101) rfl rfl, by decide +kernel, by decide +kernel, by decide +kernel, by decide +kernel⟩
set_option maxRecDepth 100000 in
theorem sg_Op_countMembers : okSP (y_Op_countMembers, prog_5_method_22_code, 2, (Option.none : Option FieldType), 1, 1052, 101) := ⟨wq_in (n := 1052) rfl rfl, wq_in (n := 101) rfl rfl, by decide +kernel, by decide +kernel, by decide +kernel, by decide +kernel⟩
set_option maxRecDepth 100000 in
theorem sg_Op_fits : okSP (y_Op_fits, prog_5_method_23_code, 3, (Option.some FieldType.boolean), 2, 1060, 101) := ⟨wq_in (n := 1060) rfl rfl, wq_in (n := 101) rfl rfl, by decide +kernel, by decide +kernel, by decide +kernel, by decide +kernel⟩
set_option maxRecDepth 100000 in
theorem sg_Op_takeMember : okSP (y_Op_takeMember, prog_5_method_24_code, 5, (Option.none : Option FieldType), 2, 1072, 101) := ⟨wq_in (n := 1072) rfl rfl, wq_in (n := 101) rfl rfl, by decide +kernel, by decide +kernel, by decide +kernel, by decide +kernel⟩
set_option maxRecDepth 100000 in
theorem sg_Op_putMember : okSP (y_Op_putMember, prog_5_method_25_code, 5, (Option.none : Option FieldType), 2, 1081, 101) := ⟨wq_in (n := 1081) rfl rfl, wq_in (n := 101) rfl rfl, by decide +kernel, by decide +kernel, by decide +kernel, by decide +kernel⟩
set_option maxRecDepth 100000 in
theorem sg_Op_areAlike : okSP (y_Op_areAlike, prog_5_method_26_code, 4, (Option.some FieldType.boolean), 2, 1090, 101) := ⟨wq_in (n := 1090) rfl rfl, wq_in (n := 101) rfl rfl, by decide +kernel, by decide +kernel, by decide +kernel, by decide +kernel⟩
set_option maxRecDepth 100000 in
theorem sg_Op_copyMembers : okSP (y_Op_copyMembers, prog_5_method_27_code, 10, (Option.none : Option FieldType), 2, 1087, 101) := ⟨wq_in (n := 1087) rfl rfl, wq_in (n := 101) rfl rfl, by decide +kernel, by decide +kernel, by decide +kernel, by decide +kernel⟩
set_option maxRecDepth 100000 in
theorem sg_Op_takeThing : okSP (y_Op_takeThing, prog_5_method_28_code, 5, (Option.none : Option FieldType), 3, 1105, 101) := ⟨wq_in (n := 1105) rfl rfl, wq_in (n := 101) rfl rfl, by decide +kernel, by decide +kernel, by decide +kernel, by decide +kernel⟩
set_option maxRecDepth 100000 in
theorem sg_Op_putThing : okSP (y_Op_putThing, prog_5_method_29_code, 7, (Option.none : Option FieldType), 4, 1109, 101) := ⟨wq_in (n := 1109) rfl rfl, wq_in (n := 101) rfl rfl, by decide +kernel, by decide +kernel, by decide +kernel, by decide +kernel⟩
set_option maxRecDepth 100000 in
theorem sg_Op_takeField : okSP (y_Op_takeField, prog_5_method_30_code, 4, (Option.none : Option FieldType), 2, 1114, 101) := ⟨wq_in (n := 1114) rfl rfl, wq_in (n := 101) rfl rfl, by decide +kernel, by decide +kernel, by decide +kernel, by decide +kernel⟩
set_option maxRecDepth 100000 in
theorem sg_Op_putField : okSP (y_Op_putField, prog_5_method_31_code, 4, (Option.none : Option FieldType), 2, 1123, 101) := ⟨wq_in (n := 1123) rfl rfl, wq_in (n := 101) rfl rfl, by decide +kernel, by decide +kernel, by decide +kernel, by decide +kernel⟩
set_option maxRecDepth 100000 in
theorem sg_Op_putInner : okSP (y_Op_putInner, prog_5_method_32_code, 5, (Option.none : Option FieldType), 2, 1127, 101) := ⟨wq_in (n := 1127) rfl rfl, wq_in (n := 101) rfl rfl, by decide +kernel, by decide +kernel, by decide +kernel, by decide +kernel⟩
set_option maxRecDepth 100000 in
theorem sg_Op_ask : okSP (y_Op_ask, prog_5_method_33_code, 7, (Option.none : Option FieldType), 3, 1131, 101) := ⟨wq_in (n := 1131) rfl rfl, wq_in (n := 101) rfl rfl, by decide +kernel, by decide +kernel, by decide +kernel, by decide +kernel⟩
set_option maxRecDepth 100000 in
theorem sg_Op_tell : okSP (y_Op_tell, prog_5_method_34_code, 3, (Option.none : Option FieldType), 1, 1163, 101) := ⟨wq_in (n := 1163) rfl rfl, wq_in (n := 101) rfl rfl, by decide +kernel, by decide +kernel, by decide +kernel, by decide +kernel⟩
set_option maxRecDepth 100000 in
theorem sg_Pa_init : okSP (y_Pa_init, prog_6_method_1_code, 2, (Option.none : Option FieldType), 1, 659, 115) := ⟨wq_in (n := 659) rfl rfl, wq_in (n := 115) rfl rfl, by decide +kernel, by decide +kernel, by decide +kernel, by decide +kernel⟩
set_option maxRecDepth 100000 in
theorem sg_Pa_kind : okSP (y_Pa_kind, prog_6_method_2_code, 1, (Option.some FieldType.int), 0, 636, 115) := ⟨wq_in (n := 636) rfl rfl, wq_in (n := 115) rfl rfl, by decide +kernel, by decide +kernel, by decide +kernel, by decide +kernel⟩
set_option maxRecDepth 100000 in
theorem sg_Pa_tellable : okSP (y_Pa_tellable, prog_6_method_3_code, 1, (Option.some FieldType.int), 0, 1293, 115) := ⟨wq_in (n := 1293) rfl rfl, wq_in (n := 115) rfl rfl, by decide +kernel, by decide +kernel, by decide +kernel, by decide +kernel⟩
set_option maxRecDepth 100000 in
theorem sg_Pa_told : okSP (y_Pa_told, prog_6_method_4_code, 2, (Option.some FieldType.long), 1, 1309, 115) := ⟨wq_in (n := 1309) rfl rfl, wq_in (n := 115) rfl rfl, by decide +kernel, by decide +kernel, by decide +kernel, by decide +kernel⟩
set_option maxRecDepth 100000 in
theorem sg_Pa_isBelow : okSP (y_Pa_isBelow, prog_6_method_5_code, 2, (Option.some FieldType.boolean), 2, 649, 115) := ⟨wq_in (n := 649) rfl rfl, wq_in (n := 115) rfl rfl, by decide +kernel, by decide +kernel, by decide +kernel, by decide +kernel⟩
set_option maxRecDepth 100000 in
theorem sg_Pa_isWeighed : okSP (y_Pa_isWeighed, prog_6_method_6_code, 1, (Option.some FieldType.boolean), 0, 1067, 115) := ⟨wq_in (n := 1067) rfl rfl, wq_in (n := 115) rfl rfl, by decide +kernel, by decide +kernel, by decide +kernel, by decide +kernel⟩
set_option maxRecDepth 100000 in
theorem sg_Pa_isPriced : okSP (y_Pa_isPriced, prog_6_method_7_code, 1, (Option.some FieldType.boolean), 0, 692, 115) := ⟨wq_in (n := 692) rfl rfl, wq_in (n := 115) rfl rfl, by decide +kernel, by decide +kernel, by decide +kernel, by decide +kernel⟩
set_option maxRecDepth 100000 in
theorem sg_Pa_has : okSP (y_Pa_has, prog_6_method_8_code, 2, (Option.some FieldType.boolean), 1, 1118, 115) := ⟨wq_in (n := 1118) rfl rfl, wq_in (n := 115) rfl rfl, by decide +kernel, by decide +kernel, by decide +kernel, by decide +kernel⟩
set_option maxRecDepth 100000 in
theorem sg_Pa_answers : okSP (y_Pa_answers, prog_6_method_9_code, 2, (Option.some FieldType.boolean), 1, 1135, 115) := ⟨wq_in (n := 1135) rfl rfl, wq_in (n := 115) rfl rfl, by decide +kernel, by decide +kernel, by decide +kernel, by decide +kernel⟩
set_option maxRecDepth 100000 in
theorem sg_Pa_weighs : okSP (y_Pa_weighs, prog_6_method_10_code, 8, (Option.some FieldType.long), 2, 1144, 115) := ⟨wq_in (n := 1144) rfl rfl, wq_in (n := 115) rfl rfl, by decide +kernel, by decide +kernel, by decide +kernel, by decide +kernel⟩
set_option maxRecDepth 100000 in
theorem sg_Pa_loadOf : okSP (y_Pa_loadOf, prog_6_method_11_code, 8, (Option.some FieldType.long), 2, 1158, 115) := ⟨wq_in (n := 1158) rfl rfl, wq_in (n := 115) rfl rfl, by decide +kernel, by decide +kernel, by decide +kernel, by decide +kernel⟩
set_option maxRecDepth 100000 in
theorem sg_Pa_label : okSP (y_Pa_label, prog_6_method_12_code, 1, (Option.some FieldType.int), 0, 1140, 115) := ⟨wq_in (n := 1140) rfl rfl, wq_in (n := 115) rfl rfl, by decide +kernel, by decide +kernel, by decide +kernel, by decide +kernel⟩
set_option maxRecDepth 100000 in
theorem sg_Pt_init : okSP (y_Pt_init, prog_7_method_1_code, 1, (Option.none : Option FieldType), 0, 203, 100) := ⟨wq_in (n := 203) rfl rfl, wq_in (n := 100) rfl rfl, by decide +kernel, by decide +kernel, by decide +kernel, by decide +kernel⟩
set_option maxRecDepth 100000 in
theorem sg_Pt_take : okSP (y_Pt_take, prog_7_method_2_code, 5, (Option.some FieldType.int), 3, 344, 100) := ⟨wq_in (n := 344) rfl rfl, wq_in (n := 100) rfl rfl, by decide +kernel, by decide +kernel, by decide +kernel, by decide +kernel⟩
set_option maxRecDepth 100000 in
theorem sg_Pt_operands : okSP (y_Pt_operands, prog_7_method_3_code, 1, (Option.some (FieldType.object "java/lang/String")), 1, 350, 100) := ⟨wq_in (n := 350) rfl rfl, wq_in (n := 100) rfl rfl, by decide +kernel, by decide +kernel, by decide +kernel, by decide +kernel⟩
set_option maxRecDepth 100000 in
theorem sg_Pt_choices : okSP (y_Pt_choices, prog_7_method_4_code, 1, (Option.some FieldType.int), 1, 445, 100) := ⟨wq_in (n := 445) rfl rfl, wq_in (n := 100) rfl rfl, by decide +kernel, by decide +kernel, by decide +kernel, by decide +kernel⟩
set_option maxRecDepth 100000 in
theorem sg_Pt_greatest : okSP (y_Pt_greatest, prog_7_method_5_code, 4, (Option.some FieldType.int), 3, 442, 100) := ⟨wq_in (n := 442) rfl rfl, wq_in (n := 100) rfl rfl, by decide +kernel, by decide +kernel, by decide +kernel, by decide +kernel⟩
set_option maxRecDepth 100000 in
theorem sg_Pt_parts : okSP (y_Pt_parts, prog_7_method_6_code, 1, (Option.some FieldType.int), 1, 384, 100) := ⟨wq_in (n := 384) rfl rfl, wq_in (n := 100) rfl rfl, by decide +kernel, by decide +kernel, by decide +kernel, by decide +kernel⟩
set_option maxRecDepth 100000 in
theorem sg_Pt_firstWrong : okSP (y_Pt_firstWrong, prog_7_method_7_code, 12, (Option.some FieldType.int), 4, 347, 100) := ⟨wq_in (n := 347) rfl rfl, wq_in (n := 100) rfl rfl, by decide +kernel, by decide +kernel, by decide +kernel, by decide +kernel⟩
set_option maxRecDepth 100000 in
theorem sg_Pt_wrongOperand : okSP (y_Pt_wrongOperand, prog_7_method_8_code, 8, (Option.some FieldType.int), 3, 401, 100) := ⟨wq_in (n := 401) rfl rfl, wq_in (n := 100) rfl rfl, by decide +kernel, by decide +kernel, by decide +kernel, by decide +kernel⟩
set_option maxRecDepth 100000 in
theorem sg_Pt_wrongPart : okSP (y_Pt_wrongPart, prog_7_method_9_code, 11, (Option.some FieldType.int), 5, 510, 100) := ⟨wq_in (n := 510) rfl rfl, wq_in (n := 100) rfl rfl, by decide +kernel, by decide +kernel, by decide +kernel, by decide +kernel⟩
set_option maxRecDepth 100000 in
theorem sg_Re_size : okSP (y_Re_size, prog_8_method_2_code, 2, (Option.some FieldType.long), 1, 938, 113) := ⟨wq_in (n := 938) rfl rfl, wq_in (n := 113) rfl rfl, by decide +kernel, by decide +kernel, by decide +kernel, by decide +kernel⟩
set_option maxRecDepth 100000 in
theorem sg_Re_isNan : okSP (y_Re_isNan, prog_8_method_3_code, 2, (Option.some FieldType.boolean), 1, 923, 113) := ⟨wq_in (n := 923) rfl rfl, wq_in (n := 113) rfl rfl, by decide +kernel, by decide +kernel, by decide +kernel, by decide +kernel⟩
set_option maxRecDepth 100000 in
theorem sg_Re_plain : okSP (y_Re_plain, prog_8_method_4_code, 2, (Option.some FieldType.long), 1, 599, 113) := ⟨wq_in (n := 599) rfl rfl, wq_in (n := 113) rfl rfl, by decide +kernel, by decide +kernel, by decide +kernel, by decide +kernel⟩
set_option maxRecDepth 100000 in
theorem sg_Re_plainFloat : okSP (y_Re_plainFloat, prog_8_method_5_code, 1, (Option.some FieldType.int), 1, 593, 113) := ⟨wq_in (n := 593) rfl rfl, wq_in (n := 113) rfl rfl, by decide +kernel, by decide +kernel, by decide +kernel, by decide +kernel⟩
set_option maxRecDepth 100000 in
theorem sg_Re_field : okSP (y_Re_field, prog_8_method_6_code, 2, (Option.some FieldType.int), 1, 920, 113) := ⟨wq_in (n := 920) rfl rfl, wq_in (n := 113) rfl rfl, by decide +kernel, by decide +kernel, by decide +kernel, by decide +kernel⟩
set_option maxRecDepth 100000 in
theorem sg_Re_mantissa : okSP (y_Re_mantissa, prog_8_method_7_code, 4, (Option.some FieldType.long), 1, 927, 113) := ⟨wq_in (n := 927) rfl rfl, wq_in (n := 113) rfl rfl, by decide +kernel, by decide +kernel, by decide +kernel, by decide +kernel⟩
set_option maxRecDepth 100000 in
theorem sg_Re_exponent : okSP (y_Re_exponent, prog_8_method_8_code, 3, (Option.some FieldType.int), 1, 941, 113) := ⟨wq_in (n := 941) rfl rfl, wq_in (n := 113) rfl rfl, by decide +kernel, by decide +kernel, by decide +kernel, by decide +kernel⟩
set_option maxRecDepth 100000 in
theorem sg_Re_gap : okSP (y_Re_gap, prog_8_method_9_code, 3, (Option.some FieldType.int), 1, 953, 113) := ⟨wq_in (n := 953) rfl rfl, wq_in (n := 113) rfl rfl, by decide +kernel, by decide +kernel, by decide +kernel, by decide +kernel⟩
set_option maxRecDepth 100000 in
theorem sg_Re_rounded : okSP (y_Re_rounded, prog_8_method_10_code, 15, (Option.some FieldType.long), 4, 908, 113) := ⟨wq_in (n := 908) rfl rfl, wq_in (n := 113) rfl rfl, by decide +kernel, by decide +kernel, by decide +kernel, by decide +kernel⟩
set_option maxRecDepth 100000 in
theorem sg_Re_ofInt : okSP (y_Re_ofInt, prog_8_method_11_code, 1, (Option.some FieldType.long), 1, 901, 113) := ⟨wq_in (n := 901) rfl rfl, wq_in (n := 113) rfl rfl, by decide +kernel, by decide +kernel, by decide +kernel, by decide +kernel⟩
set_option maxRecDepth 100000 in
theorem sg_Re_toInt : okSP (y_Re_toInt, prog_8_method_12_code, 4, (Option.some FieldType.int), 1, 917, 113) := ⟨wq_in (n := 917) rfl rfl, wq_in (n := 113) rfl rfl, by decide +kernel, by decide +kernel, by decide +kernel, by decide +kernel⟩
set_option maxRecDepth 100000 in
theorem sg_Re_toFloat : okSP (y_Re_toFloat, prog_8_method_13_code, 3, (Option.some FieldType.int), 1, 1000, 113) := ⟨wq_in (n := 1000) rfl rfl, wq_in (n := 113) rfl rfl, by decide +kernel, by decide +kernel, by decide +kernel, by decide +kernel⟩
set_option maxRecDepth 100000 in
theorem sg_Re_ofFloat : okSP (y_Re_ofFloat, prog_8_method_14_code, 9, (Option.some FieldType.long), 1, 1003, 113) := ⟨wq_in (n := 1003) rfl rfl, wq_in (n := 113) rfl rfl, by decide +kernel, by decide +kernel, by decide +kernel, by decide +kernel⟩
set_option maxRecDepth 100000 in
theorem sg_Re_sum : okSP (y_Re_sum, prog_8_method_15_code, 15, (Option.some FieldType.long), 2, 935, 113) := ⟨wq_in (n := 935) rfl rfl, wq_in (n := 113) rfl rfl, by decide +kernel, by decide +kernel, by decide +kernel, by decide +kernel⟩
set_option maxRecDepth 100000 in
theorem sg_Re_movedRight : okSP (y_Re_movedRight, prog_8_method_16_code, 5, (Option.some FieldType.long), 2, 944, 113) := ⟨wq_in (n := 944) rfl rfl, wq_in (n := 113) rfl rfl, by decide +kernel, by decide +kernel, by decide +kernel, by decide +kernel⟩
set_option maxRecDepth 100000 in
theorem sg_Re_turned : okSP (y_Re_turned, prog_8_method_17_code, 2, (Option.some FieldType.long), 1, 947, 113) := ⟨wq_in (n := 947) rfl rfl, wq_in (n := 113) rfl rfl, by decide +kernel, by decide +kernel, by decide +kernel, by decide +kernel⟩
set_option maxRecDepth 100000 in
theorem sg_Re_product : okSP (y_Re_product, prog_8_method_18_code, 24, (Option.some FieldType.long), 2, 950, 113) := ⟨wq_in (n := 950) rfl rfl, wq_in (n := 113) rfl rfl, by decide +kernel, by decide +kernel, by decide +kernel, by decide +kernel⟩
set_option maxRecDepth 100000 in
theorem sg_Re_quotient : okSP (y_Re_quotient, prog_8_method_19_code, 15, (Option.some FieldType.long), 2, 958, 113) := ⟨wq_in (n := 958) rfl rfl, wq_in (n := 113) rfl rfl, by decide +kernel, by decide +kernel, by decide +kernel, by decide +kernel⟩
set_option maxRecDepth 100000 in
theorem sg_Re_remainder : okSP (y_Re_remainder, prog_8_method_20_code, 12, (Option.some FieldType.long), 2, 961, 113) := ⟨wq_in (n := 961) rfl rfl, wq_in (n := 113) rfl rfl, by decide +kernel, by decide +kernel, by decide +kernel, by decide +kernel⟩
set_option maxRecDepth 100000 in
theorem sg_Re_root : okSP (y_Re_root, prog_8_method_21_code, 13, (Option.some FieldType.long), 1, 989, 113) := ⟨wq_in (n := 989) rfl rfl, wq_in (n := 113) rfl rfl, by decide +kernel, by decide +kernel, by decide +kernel, by decide +kernel⟩
set_option maxRecDepth 100000 in
theorem sg_Re_whole : okSP (y_Re_whole, prog_8_method_22_code, 13, (Option.some FieldType.long), 2, 981, 113) := ⟨wq_in (n := 981) rfl rfl, wq_in (n := 113) rfl rfl, by decide +kernel, by decide +kernel, by decide +kernel, by decide +kernel⟩
set_option maxRecDepth 100000 in
theorem sg_Re_signOf : okSP (y_Re_signOf, prog_8_method_23_code, 2, (Option.some FieldType.long), 1, 986, 113) := ⟨wq_in (n := 986) rfl rfl, wq_in (n := 113) rfl rfl, by decide +kernel, by decide +kernel, by decide +kernel, by decide +kernel⟩
set_option maxRecDepth 100000 in
theorem sg_Re_step : okSP (y_Re_step, prog_8_method_24_code, 3, (Option.some FieldType.long), 1, 993, 113) := ⟨wq_in (n := 993) rfl rfl, wq_in (n := 113) rfl rfl, by decide +kernel, by decide +kernel, by decide +kernel, by decide +kernel⟩
set_option maxRecDepth 100000 in
theorem sg_Re_above : okSP (y_Re_above, prog_8_method_25_code, 2, (Option.some FieldType.long), 1, 997, 113) := ⟨wq_in (n := 997) rfl rfl, wq_in (n := 113) rfl rfl, by decide +kernel, by decide +kernel, by decide +kernel, by decide +kernel⟩
set_option maxRecDepth 100000 in
theorem sg_Re_rank : okSP (y_Re_rank, prog_8_method_26_code, 2, (Option.some FieldType.long), 1, 968, 113) := ⟨wq_in (n := 968) rfl rfl, wq_in (n := 113) rfl rfl, by decide +kernel, by decide +kernel, by decide +kernel, by decide +kernel⟩
set_option maxRecDepth 100000 in
theorem sg_Re_greater : okSP (y_Re_greater, prog_8_method_27_code, 4, (Option.some FieldType.long), 2, 965, 113) := ⟨wq_in (n := 965) rfl rfl, wq_in (n := 113) rfl rfl, by decide +kernel, by decide +kernel, by decide +kernel, by decide +kernel⟩
set_option maxRecDepth 100000 in
theorem sg_Re_lesser : okSP (y_Re_lesser, prog_8_method_28_code, 4, (Option.some FieldType.long), 2, 971, 113) := ⟨wq_in (n := 971) rfl rfl, wq_in (n := 113) rfl rfl, by decide +kernel, by decide +kernel, by decide +kernel, by decide +kernel⟩
set_option maxRecDepth 100000 in
theorem sg_Re_withSign : okSP (y_Re_withSign, prog_8_method_29_code, 4, (Option.some FieldType.long), 2, 974, 113) := ⟨wq_in (n := 974) rfl rfl, wq_in (n := 113) rfl rfl, by decide +kernel, by decide +kernel, by decide +kernel, by decide +kernel⟩
set_option maxRecDepth 100000 in
theorem sg_Re_paired : okSP (y_Re_paired, prog_8_method_30_code, 5, (Option.some FieldType.long), 3, 932, 113) := ⟨wq_in (n := 932) rfl rfl, wq_in (n := 113) rfl rfl, by decide +kernel, by decide +kernel, by decide +kernel, by decide +kernel⟩
set_option maxRecDepth 100000 in
theorem sg_Re_changed : okSP (y_Re_changed, prog_8_method_31_code, 3, (Option.some FieldType.long), 2, 977, 113) := ⟨wq_in (n := 977) rfl rfl, wq_in (n := 113) rfl rfl, by decide +kernel, by decide +kernel, by decide +kernel, by decide +kernel⟩
set_option maxRecDepth 100000 in
theorem sg_Re_holds : okSP (y_Re_holds, prog_8_method_32_code, 5, (Option.some FieldType.boolean), 3, 1008, 113) := ⟨wq_in (n := 1008) rfl rfl, wq_in (n := 113) rfl rfl, by decide +kernel, by decide +kernel, by decide +kernel, by decide +kernel⟩
set_option maxRecDepth 100000 in
theorem sg_Ro_init : okSP (y_Ro_init, prog_9_method_1_code, 3, (Option.none : Option FieldType), 2, 565, 112) := ⟨wq_in (n := 565) rfl rfl, wq_in (n := 112) rfl rfl, by decide +kernel, by decide +kernel, by decide +kernel, by decide +kernel⟩
set_option maxRecDepth 100000 in
theorem sg_Ro_kind : okSP (y_Ro_kind, prog_9_method_2_code, 1, (Option.some FieldType.int), 0, 639, 112) := ⟨wq_in (n := 639) rfl rfl, wq_in (n := 112) rfl rfl, by decide +kernel, by decide +kernel, by decide +kernel, by decide +kernel⟩
set_option maxRecDepth 100000 in
theorem sg_Ro_tellable : okSP (y_Ro_tellable, prog_9_method_3_code, 1, (Option.some FieldType.int), 0, 1296, 112) := ⟨wq_in (n := 1296) rfl rfl, wq_in (n := 112) rfl rfl, by decide +kernel, by decide +kernel, by decide +kernel, by decide +kernel⟩
set_option maxRecDepth 100000 in
theorem sg_Ro_told : okSP (y_Ro_told, prog_9_method_4_code, 2, (Option.some FieldType.long), 1, 1312, 112) := ⟨wq_in (n := 1312) rfl rfl, wq_in (n := 112) rfl rfl, by decide +kernel, by decide +kernel, by decide +kernel, by decide +kernel⟩
set_option maxRecDepth 100000 in
theorem sg_Ro_size : okSP (y_Ro_size, prog_9_method_5_code, 1, (Option.some FieldType.int), 0, 839, 112) := ⟨wq_in (n := 839) rfl rfl, wq_in (n := 112) rfl rfl, by decide +kernel, by decide +kernel, by decide +kernel, by decide +kernel⟩
set_option maxRecDepth 100000 in
theorem sg_Ro_twin : okSP (y_Ro_twin, prog_9_method_6_code, 2, (Option.some (FieldType.object "PatchHouse$Thing")), 0, 852, 112) := ⟨wq_in (n := 852) rfl rfl, wq_in (n := 112) rfl rfl, by decide +kernel, by decide +kernel, by decide +kernel, by decide +kernel⟩
set_option maxRecDepth 100000 in
theorem sg_Ro_putBack : okSP (y_Ro_putBack, prog_9_method_7_code, 3, (Option.none : Option FieldType), 1, 789, 112) := ⟨wq_in (n := 789) rfl rfl, wq_in (n := 112) rfl rfl, by decide +kernel, by decide +kernel, by decide +kernel, by decide +kernel⟩
set_option maxRecDepth 100000 in
theorem sg_Ro_put : okSP (y_Ro_put, prog_9_method_8_code, 4, (Option.none : Option FieldType), 2, 587, 112) := ⟨wq_in (n := 587) rfl rfl, wq_in (n := 112) rfl rfl, by decide +kernel, by decide +kernel, by decide +kernel, by decide +kernel⟩
set_option maxRecDepth 100000 in
theorem sg_Ro_narrowed : okSP (y_Ro_narrowed, prog_9_method_9_code, 3, (Option.some FieldType.long), 2, 590, 112) := ⟨wq_in (n := 590) rfl rfl, wq_in (n := 112) rfl rfl, by decide +kernel, by decide +kernel, by decide +kernel, by decide +kernel⟩
set_option maxRecDepth 100000 in
theorem sg_Sh_init : okSP (y_Sh_init, prog_10_method_1_code, 3, (Option.none : Option FieldType), 2, 611, 114) := ⟨wq_in (n := 611) rfl rfl, wq_in (n := 114) rfl rfl, by decide +kernel, by decide +kernel, by decide +kernel, by decide +kernel⟩
set_option maxRecDepth 100000 in
theorem sg_Sh_kind : okSP (y_Sh_kind, prog_10_method_2_code, 1, (Option.some FieldType.int), 0, 642, 114) := ⟨wq_in (n := 642) rfl rfl, wq_in (n := 114) rfl rfl, by decide +kernel, by decide +kernel, by decide +kernel, by decide +kernel⟩
set_option maxRecDepth 100000 in
theorem sg_Sh_tellable : okSP (y_Sh_tellable, prog_10_method_3_code, 1, (Option.some FieldType.int), 0, 1299, 114) := ⟨wq_in (n := 1299) rfl rfl, wq_in (n := 114) rfl rfl, by decide +kernel, by decide +kernel, by decide +kernel, by decide +kernel⟩
set_option maxRecDepth 100000 in
theorem sg_Sh_told : okSP (y_Sh_told, prog_10_method_4_code, 4, (Option.some FieldType.long), 1, 1316, 114) := ⟨wq_in (n := 1316) rfl rfl, wq_in (n := 114) rfl rfl, by decide +kernel, by decide +kernel, by decide +kernel, by decide +kernel⟩
set_option maxRecDepth 100000 in
theorem sg_Sh_size : okSP (y_Sh_size, prog_10_method_5_code, 1, (Option.some FieldType.int), 0, 842, 114) := ⟨wq_in (n := 842) rfl rfl, wq_in (n := 114) rfl rfl, by decide +kernel, by decide +kernel, by decide +kernel, by decide +kernel⟩
set_option maxRecDepth 100000 in
theorem sg_Sh_twin : okSP (y_Sh_twin, prog_10_method_6_code, 2, (Option.some (FieldType.object "PatchHouse$Thing")), 0, 856, 114) := ⟨wq_in (n := 856) rfl rfl, wq_in (n := 114) rfl rfl, by decide +kernel, by decide +kernel, by decide +kernel, by decide +kernel⟩
set_option maxRecDepth 100000 in
theorem sg_Sh_putBack : okSP (y_Sh_putBack, prog_10_method_7_code, 4, (Option.none : Option FieldType), 1, 794, 114) := ⟨wq_in (n := 794) rfl rfl, wq_in (n := 114) rfl rfl, by decide +kernel, by decide +kernel, by decide +kernel, by decide +kernel⟩
set_option maxRecDepth 100000 in
theorem sg_Sh_refusal : okSP (y_Sh_refusal, prog_10_method_8_code, 3, (Option.some FieldType.int), 1, 630, 114) := ⟨wq_in (n := 630) rfl rfl, wq_in (n := 114) rfl rfl, by decide +kernel, by decide +kernel, by decide +kernel, by decide +kernel⟩
set_option maxRecDepth 100000 in
theorem sg_Sh_takeFrom : okSP (y_Sh_takeFrom, prog_10_method_9_code, 7, (Option.some FieldType.boolean), 4, 1094, 114) := ⟨wq_in (n := 1094) rfl rfl, wq_in (n := 114) rfl rfl, by decide +kernel, by decide +kernel, by decide +kernel, by decide +kernel⟩
set_option maxRecDepth 100000 in
theorem sg_Th_init : okSP (y_Th_init, prog_11_method_1_code, 1, (Option.none : Option FieldType), 0, 568, 111) := ⟨wq_in (n := 568) rfl rfl, wq_in (n := 111) rfl rfl, by decide +kernel, by decide +kernel, by decide +kernel, by decide +kernel⟩
set_option maxRecDepth 100000 in
theorem sg_Th_size : okSP (y_Th_size, prog_11_method_5_code, 1, (Option.some FieldType.int), 0, 844, 111) := ⟨wq_in (n := 844) rfl rfl, wq_in (n := 111) rfl rfl, by decide +kernel, by decide +kernel, by decide +kernel, by decide +kernel⟩
set_option maxRecDepth 100000 in
theorem sg_Th_twin : okSP (y_Th_twin, prog_11_method_6_code, 1, (Option.some (FieldType.object "PatchHouse$Thing")), 0, 860, 111) := ⟨wq_in (n := 860) rfl rfl, wq_in (n := 111) rfl rfl, by decide +kernel, by decide +kernel, by decide +kernel, by decide +kernel⟩
set_option maxRecDepth 100000 in
theorem sg_Th_putBack : okSP (y_Th_putBack, prog_11_method_7_code, 2, (Option.none : Option FieldType), 1, 797, 111) := ⟨wq_in (n := 797) rfl rfl, wq_in (n := 111) rfl rfl, by decide +kernel, by decide +kernel, by decide +kernel, by decide +kernel⟩
set_option maxRecDepth 100000 in
theorem sg_Tr_init : okSP (y_Tr_init, prog_12_method_1_code, 2, (Option.none : Option FieldType), 1, 703, 116) := ⟨wq_in (n := 703) rfl rfl, wq_in (n := 116) rfl rfl, by decide +kernel, by decide +kernel, by decide +kernel, by decide +kernel⟩
set_option maxRecDepth 100000 in
theorem sg_Tr_kind : okSP (y_Tr_kind, prog_12_method_2_code, 1, (Option.some FieldType.int), 0, 645, 116) := ⟨wq_in (n := 645) rfl rfl, wq_in (n := 116) rfl rfl, by decide +kernel, by decide +kernel, by decide +kernel, by decide +kernel⟩
set_option maxRecDepth 100000 in
theorem sg_Tr_tellable : okSP (y_Tr_tellable, prog_12_method_3_code, 1, (Option.some FieldType.int), 0, 1302, 116) := ⟨wq_in (n := 1302) rfl rfl, wq_in (n := 116) rfl rfl, by decide +kernel, by decide +kernel, by decide +kernel, by decide +kernel⟩
set_option maxRecDepth 100000 in
theorem sg_Tr_told : okSP (y_Tr_told, prog_12_method_4_code, 2, (Option.some FieldType.long), 1, 1321, 116) := ⟨wq_in (n := 1321) rfl rfl, wq_in (n := 116) rfl rfl, by decide +kernel, by decide +kernel, by decide +kernel, by decide +kernel⟩
set_option maxRecDepth 100000 in
theorem sg_S_length : okSP (y_S_length, prog_19_method_54_code, 1, (Option.some FieldType.int), 0, 388, 104) := ⟨wq_in (n := 388) rfl rfl, wq_in (n := 104) rfl rfl, by decide +kernel, by decide +kernel, by decide +kernel, by decide +kernel⟩
set_option maxRecDepth 100000 in
theorem sg_S_coder : okSP (y_S_coder, prog_19_method_152_code, 1, (Option.some FieldType.byte), 0, 392, 104) := ⟨wq_in (n := 392) rfl rfl, wq_in (n := 104) rfl rfl, by decide +kernel, by decide +kernel, by decide +kernel, by decide +kernel⟩
set_option maxRecDepth 100000 in
theorem sg_S_isEmpty : okSP (y_S_isEmpty, prog_19_method_55_code, 1, (Option.some FieldType.boolean), 0, 398, 104) := ⟨wq_in (n := 398) rfl rfl, wq_in (n := 104) rfl rfl, by decide +kernel, by decide +kernel, by decide +kernel, by decide +kernel⟩
set_option maxRecDepth 100000 in
theorem sg_S_charAt : okSP (y_S_charAt, prog_19_method_56_code, 2, (Option.some FieldType.char), 1, 405, 104) := ⟨wq_in (n := 405) rfl rfl, wq_in (n := 104) rfl rfl, by decide +kernel, by decide +kernel, by decide +kernel, by decide +kernel⟩
set_option maxRecDepth 100000 in
theorem sg_S_isLatin1 : okSP (y_S_isLatin1, prog_19_method_154_code, 1, (Option.some FieldType.boolean), 0, 409, 104) := ⟨wq_in (n := 409) rfl rfl, wq_in (n := 104) rfl rfl, by decide +kernel, by decide +kernel, by decide +kernel, by decide +kernel⟩
set_option maxRecDepth 100000 in
theorem sg_SL_charAt : okSP (y_SL_charAt, prog_20_method_2_code, 2, (Option.some FieldType.char), 2, 412, 105) := ⟨wq_in (n := 412) rfl rfl, wq_in (n := 105) rfl rfl, by decide +kernel, by decide +kernel, by decide +kernel, by decide +kernel⟩
set_option maxRecDepth 100000 in
theorem sg_S_checkIndex : okSP (y_S_checkIndex, prog_19_method_155_code, 2, (Option.none : Option FieldType), 2, 415, 104) := ⟨wq_in (n := 415) rfl rfl, wq_in (n := 104) rfl rfl, by decide +kernel, by decide +kernel, by decide +kernel, by decide +kernel⟩
set_option maxRecDepth 100000 in
theorem sg_PC_checkIndex : okSP (y_PC_checkIndex, prog_25_method_11_code, 3, (Option.some FieldType.int), 3, 420, 106) := ⟨wq_in (n := 420) rfl rfl, wq_in (n := 106) rfl rfl, by decide +kernel, by decide +kernel, by decide +kernel, by decide +kernel⟩
set_option maxRecDepth 100000 in
theorem sg_S_indexOf : okSP (y_S_indexOf, prog_19_method_79_code, 2, (Option.some FieldType.int), 1, 450, 104) := ⟨wq_in (n := 450) rfl rfl, wq_in (n := 104) rfl rfl, by decide +kernel, by decide +kernel, by decide +kernel, by decide +kernel⟩
set_option maxRecDepth 100000 in
theorem sg_S_indexOf2 : okSP (y_S_indexOf2, prog_19_method_80_code, 3, (Option.some FieldType.int), 2, 454, 104) := ⟨wq_in (n := 454) rfl rfl, wq_in (n := 104) rfl rfl, by decide +kernel, by decide +kernel, by decide +kernel, by decide +kernel⟩
set_option maxRecDepth 100000 in
theorem sg_SL_indexOf : okSP (y_SL_indexOf, prog_20_method_22_code, 4, (Option.some FieldType.int), 4, 458, 105) := ⟨wq_in (n := 458) rfl rfl, wq_in (n := 105) rfl rfl, by decide +kernel, by decide +kernel, by decide +kernel, by decide +kernel⟩
set_option maxRecDepth 100000 in
theorem sg_SL_canEncode : okSP (y_SL_canEncode, prog_20_method_4_code, 1, (Option.some FieldType.boolean), 1, 461, 105) := ⟨wq_in (n := 461) rfl rfl, wq_in (n := 105) rfl rfl, by decide +kernel, by decide +kernel, by decide +kernel, by decide +kernel⟩
set_option maxRecDepth 100000 in
theorem sg_SL_indexOfChar : okSP (y_SL_indexOfChar, prog_20_method_23_code, 6, (Option.some FieldType.int), 4, 470, 105) := ⟨wq_in (n := 470) rfl rfl, wq_in (n := 105) rfl rfl, by decide +kernel, by decide +kernel, by decide +kernel, by decide +kernel⟩
theorem sgl_0 : ∀ q ∈ am_sg_0, okSP q := List.forall_mem_cons.mpr ⟨sg_H_init, List.forall_mem_cons.mpr ⟨sg_H_feed, List.forall_mem_cons.mpr ⟨sg_H_end, List.forall_mem_cons.mpr ⟨sg_H_patch, List.forall_mem_cons.mpr ⟨sg_H_load, List.forall_mem_cons.mpr ⟨sg_H_save, List.forall_mem_cons.mpr ⟨sg_H_out, List.forall_mem_cons.mpr ⟨sg_H_run, List.forall_mem_cons.mpr ⟨sg_H_look, List.forall_mem_cons.mpr ⟨sg_H_number, List.forall_mem_cons.mpr ⟨sg_H_real, List.forall_mem_cons.mpr ⟨sg_H_slot, List.forall_mem_cons.mpr ⟨sg_H_member, List.forall_mem_cons.mpr ⟨sg_H_same, List.forall_mem_cons.mpr ⟨sg_M_init, List.forall_mem_cons.mpr ⟨sg_M_thrown, List.forall_mem_cons.mpr ⟨sg_M_isNo, List.forall_mem_cons.mpr ⟨sg_M_isInfinite, List.forall_mem_cons.mpr ⟨sg_M_isZero, List.forall_mem_cons.mpr ⟨sg_M_kept, List.forall_mem_cons.mpr ⟨sg_M_mantissa, List.forall_mem_cons.mpr ⟨sg_M_power, List.forall_mem_cons.mpr ⟨sg_M_bits, List.forall_mem_cons.mpr ⟨sg_M_packed, List.forall_mem_cons.mpr ⟨sg_M_signed, List.forall_mem_cons.mpr ⟨sg_M_added, List.forall_mem_cons.mpr ⟨sg_M_times, List.forall_mem_cons.mpr ⟨sg_M_by, List.forall_mem_cons.mpr ⟨sg_M_left, List.forall_mem_cons.mpr ⟨sg_M_root, List.forall_mem_nil _⟩⟩⟩⟩⟩⟩⟩⟩⟩⟩⟩⟩⟩⟩⟩⟩⟩⟩⟩⟩⟩⟩⟩⟩⟩⟩⟩⟩⟩⟩
theorem sgl_1 : ∀ q ∈ am_sg_1, okSP q := List.forall_mem_cons.mpr ⟨sg_M_order, List.forall_mem_cons.mpr ⟨sg_M_realOf, List.forall_mem_cons.mpr ⟨sg_M_whole, List.forall_mem_cons.mpr ⟨sg_M_even, List.forall_mem_cons.mpr ⟨sg_M_above, List.forall_mem_cons.mpr ⟨sg_M_step, List.forall_mem_cons.mpr ⟨sg_M_narrow, List.forall_mem_cons.mpr ⟨sg_M_wide, List.forall_mem_cons.mpr ⟨sg_M_keptNarrow, List.forall_mem_cons.mpr ⟨sg_M_two, List.forall_mem_cons.mpr ⟨sg_M_one, List.forall_mem_cons.mpr ⟨sg_M_isRow, List.forall_mem_cons.mpr ⟨sg_M_isPart, List.forall_mem_cons.mpr ⟨sg_M_hasMembers, List.forall_mem_cons.mpr ⟨sg_M_isBelow, List.forall_mem_cons.mpr ⟨sg_M_pays, List.forall_mem_cons.mpr ⟨sg_M_thing, List.forall_mem_cons.mpr ⟨sg_M_fault, List.forall_mem_cons.mpr ⟨sg_M_fails, List.forall_mem_cons.mpr ⟨sg_M_takes, List.forall_mem_cons.mpr ⟨sg_M_takesFor, List.forall_mem_cons.mpr ⟨sg_M_feed, List.forall_mem_cons.mpr ⟨sg_M_four, List.forall_mem_cons.mpr ⟨sg_M_end, List.forall_mem_cons.mpr ⟨sg_M_wholeOf, List.forall_mem_cons.mpr ⟨sg_M_mostOf, List.forall_mem_cons.mpr ⟨sg_M_leastOf, List.forall_mem_cons.mpr ⟨sg_M_wrong, List.forall_mem_cons.mpr ⟨sg_M_patch, List.forall_mem_cons.mpr ⟨sg_M_run, List.forall_mem_nil _⟩⟩⟩⟩⟩⟩⟩⟩⟩⟩⟩⟩⟩⟩⟩⟩⟩⟩⟩⟩⟩⟩⟩⟩⟩⟩⟩⟩⟩⟩
theorem sgl_2 : ∀ q ∈ am_sg_2, okSP q := List.forall_mem_cons.mpr ⟨sg_M_part, List.forall_mem_cons.mpr ⟨sg_M_patches, List.forall_mem_cons.mpr ⟨sg_M_scope, List.forall_mem_cons.mpr ⟨sg_M_back, List.forall_mem_cons.mpr ⟨sg_M_cloned, List.forall_mem_cons.mpr ⟨sg_M_eight, List.forall_mem_cons.mpr ⟨sg_M_act, List.forall_mem_cons.mpr ⟨sg_M_reckons, List.forall_mem_cons.mpr ⟨sg_M_ints, List.forall_mem_cons.mpr ⟨sg_M_makes, List.forall_mem_cons.mpr ⟨sg_M_grid, List.forall_mem_cons.mpr ⟨sg_M_is, List.forall_mem_cons.mpr ⟨sg_M_members, List.forall_mem_cons.mpr ⟨sg_M_cut, List.forall_mem_cons.mpr ⟨sg_M_goes, List.forall_mem_cons.mpr ⟨sg_M_copies, List.forall_mem_cons.mpr ⟨sg_M_places, List.forall_mem_cons.mpr ⟨sg_M_fields, List.forall_mem_cons.mpr ⟨sg_M_asks, List.forall_mem_cons.mpr ⟨sg_M_weighs, List.forall_mem_cons.mpr ⟨sg_M_load, List.forall_mem_cons.mpr ⟨sg_M_has, List.forall_mem_cons.mpr ⟨sg_M_next, List.forall_mem_cons.mpr ⟨sg_M_wideOf, List.forall_mem_cons.mpr ⟨sg_M_parse, List.forall_mem_cons.mpr ⟨sg_M_parseMany, List.forall_mem_cons.mpr ⟨sg_M_parseTrouble, List.forall_mem_cons.mpr ⟨sg_M_parsePart, List.forall_mem_cons.mpr ⟨sg_M_save, List.forall_mem_cons.mpr ⟨sg_M_tell, List.forall_mem_nil _⟩⟩⟩⟩⟩⟩⟩⟩⟩⟩⟩⟩⟩⟩⟩⟩⟩⟩⟩⟩⟩⟩⟩⟩⟩⟩⟩⟩⟩⟩
theorem sgl_3 : ∀ q ∈ am_sg_3, okSP q := List.forall_mem_cons.mpr ⟨sg_M_write, List.forall_mem_cons.mpr ⟨sg_M_out, List.forall_mem_cons.mpr ⟨sg_M_look, List.forall_mem_cons.mpr ⟨sg_M_number, List.forall_mem_cons.mpr ⟨sg_M_real, List.forall_mem_cons.mpr ⟨sg_M_slot, List.forall_mem_cons.mpr ⟨sg_M_member, List.forall_mem_cons.mpr ⟨sg_M_same, List.forall_mem_cons.mpr ⟨sg_En_init, List.forall_mem_cons.mpr ⟨sg_En_perform, List.forall_mem_cons.mpr ⟨sg_En_byteAt, List.forall_mem_cons.mpr ⟨sg_En_push, List.forall_mem_cons.mpr ⟨sg_En_pop, List.forall_mem_cons.mpr ⟨sg_En_beginPatch, List.forall_mem_cons.mpr ⟨sg_En_beginOp, List.forall_mem_cons.mpr ⟨sg_En_isOn, List.forall_mem_cons.mpr ⟨sg_En_choose, List.forall_mem_cons.mpr ⟨sg_En_beginScope, List.forall_mem_cons.mpr ⟨sg_En_saves, List.forall_mem_cons.mpr ⟨sg_En_keepSlots, List.forall_mem_cons.mpr ⟨sg_En_keepSlot, List.forall_mem_cons.mpr ⟨sg_En_putSlotsBack, List.forall_mem_cons.mpr ⟨sg_En_leave, List.forall_mem_cons.mpr ⟨sg_En_beginFurtherRound, List.forall_mem_cons.mpr ⟨sg_En_beginAlways, List.forall_mem_cons.mpr ⟨sg_En_beginHandler, List.forall_mem_cons.mpr ⟨sg_En_leaveByFault, List.forall_mem_cons.mpr ⟨sg_Fo_init, List.forall_mem_cons.mpr ⟨sg_Fo_append, List.forall_mem_cons.mpr ⟨sg_Fo_bytesOf, List.forall_mem_nil _⟩⟩⟩⟩⟩⟩⟩⟩⟩⟩⟩⟩⟩⟩⟩⟩⟩⟩⟩⟩⟩⟩⟩⟩⟩⟩⟩⟩⟩⟩
theorem sgl_4 : ∀ q ∈ am_sg_4, okSP q := List.forall_mem_cons.mpr ⟨sg_Fo_readTape, List.forall_mem_cons.mpr ⟨sg_Fo_readThing, List.forall_mem_cons.mpr ⟨sg_Fo_readBytes, List.forall_mem_cons.mpr ⟨sg_Fo_readSize, List.forall_mem_cons.mpr ⟨sg_Fo_readRow, List.forall_mem_cons.mpr ⟨sg_Fo_readShelf, List.forall_mem_cons.mpr ⟨sg_Fo_readPart, List.forall_mem_cons.mpr ⟨sg_Fo_readInner, List.forall_mem_cons.mpr ⟨sg_Fo_writeOut, List.forall_mem_cons.mpr ⟨sg_Fo_writeThing, List.forall_mem_cons.mpr ⟨sg_Fo_writeBytes, List.forall_mem_cons.mpr ⟨sg_Fo_writeRow, List.forall_mem_cons.mpr ⟨sg_Fo_writeShelf, List.forall_mem_cons.mpr ⟨sg_Fo_writePart, List.forall_mem_cons.mpr ⟨sg_Le_init, List.forall_mem_cons.mpr ⟨sg_Le_settle, List.forall_mem_cons.mpr ⟨sg_Le_stopped, List.forall_mem_cons.mpr ⟨sg_Le_make, List.forall_mem_cons.mpr ⟨sg_Le_burn, List.forall_mem_cons.mpr ⟨sg_Le_fault, List.forall_mem_cons.mpr ⟨sg_Le_faultTold, List.forall_mem_cons.mpr ⟨sg_Le_handOn, List.forall_mem_cons.mpr ⟨sg_Op_init, List.forall_mem_cons.mpr ⟨sg_Op_perform, List.forall_mem_cons.mpr ⟨sg_Op_operand, List.forall_mem_cons.mpr ⟨sg_Op_bytes, List.forall_mem_cons.mpr ⟨sg_Op_numberAt, List.forall_mem_cons.mpr ⟨sg_Op_setNumber, List.forall_mem_cons.mpr ⟨sg_Op_realAt, List.forall_mem_cons.mpr ⟨sg_Op_setReal, List.forall_mem_nil _⟩⟩⟩⟩⟩⟩⟩⟩⟩⟩⟩⟩⟩⟩⟩⟩⟩⟩⟩⟩⟩⟩⟩⟩⟩⟩⟩⟩⟩⟩
theorem sgl_5 : ∀ q ∈ am_sg_5, okSP q := List.forall_mem_cons.mpr ⟨sg_Op_slotAt, List.forall_mem_cons.mpr ⟨sg_Op_setSlot, List.forall_mem_cons.mpr ⟨sg_Op_miss, List.forall_mem_cons.mpr ⟨sg_Op_isWithin, List.forall_mem_cons.mpr ⟨sg_Op_eighths, List.forall_mem_cons.mpr ⟨sg_Op_calculate, List.forall_mem_cons.mpr ⟨sg_Op_calculated, List.forall_mem_cons.mpr ⟨sg_Op_makeRow, List.forall_mem_cons.mpr ⟨sg_Op_makeGrid, List.forall_mem_cons.mpr ⟨sg_Op_makeBox, List.forall_mem_cons.mpr ⟨sg_Op_makePart, List.forall_mem_cons.mpr ⟨sg_Op_makeTrouble, List.forall_mem_cons.mpr ⟨sg_Op_makeTwin, List.forall_mem_cons.mpr ⟨sg_Op_countMembers, List.forall_mem_cons.mpr ⟨sg_Op_fits, List.forall_mem_cons.mpr ⟨sg_Op_takeMember, List.forall_mem_cons.mpr ⟨sg_Op_putMember, List.forall_mem_cons.mpr ⟨sg_Op_areAlike, List.forall_mem_cons.mpr ⟨sg_Op_copyMembers, List.forall_mem_cons.mpr ⟨sg_Op_takeThing, List.forall_mem_cons.mpr ⟨sg_Op_putThing, List.forall_mem_cons.mpr ⟨sg_Op_takeField, List.forall_mem_cons.mpr ⟨sg_Op_putField, List.forall_mem_cons.mpr ⟨sg_Op_putInner, List.forall_mem_cons.mpr ⟨sg_Op_ask, List.forall_mem_cons.mpr ⟨sg_Op_tell, List.forall_mem_cons.mpr ⟨sg_Pa_init, List.forall_mem_cons.mpr ⟨sg_Pa_kind, List.forall_mem_cons.mpr ⟨sg_Pa_tellable, List.forall_mem_cons.mpr ⟨sg_Pa_told, List.forall_mem_nil _⟩⟩⟩⟩⟩⟩⟩⟩⟩⟩⟩⟩⟩⟩⟩⟩⟩⟩⟩⟩⟩⟩⟩⟩⟩⟩⟩⟩⟩⟩
theorem sgl_6 : ∀ q ∈ am_sg_6, okSP q := List.forall_mem_cons.mpr ⟨sg_Pa_isBelow, List.forall_mem_cons.mpr ⟨sg_Pa_isWeighed, List.forall_mem_cons.mpr ⟨sg_Pa_isPriced, List.forall_mem_cons.mpr ⟨sg_Pa_has, List.forall_mem_cons.mpr ⟨sg_Pa_answers, List.forall_mem_cons.mpr ⟨sg_Pa_weighs, List.forall_mem_cons.mpr ⟨sg_Pa_loadOf, List.forall_mem_cons.mpr ⟨sg_Pa_label, List.forall_mem_cons.mpr ⟨sg_Pt_init, List.forall_mem_cons.mpr ⟨sg_Pt_take, List.forall_mem_cons.mpr ⟨sg_Pt_operands, List.forall_mem_cons.mpr ⟨sg_Pt_choices, List.forall_mem_cons.mpr ⟨sg_Pt_greatest, List.forall_mem_cons.mpr ⟨sg_Pt_parts, List.forall_mem_cons.mpr ⟨sg_Pt_firstWrong, List.forall_mem_cons.mpr ⟨sg_Pt_wrongOperand, List.forall_mem_cons.mpr ⟨sg_Pt_wrongPart, List.forall_mem_cons.mpr ⟨sg_Re_size, List.forall_mem_cons.mpr ⟨sg_Re_isNan, List.forall_mem_cons.mpr ⟨sg_Re_plain, List.forall_mem_cons.mpr ⟨sg_Re_plainFloat, List.forall_mem_cons.mpr ⟨sg_Re_field, List.forall_mem_cons.mpr ⟨sg_Re_mantissa, List.forall_mem_cons.mpr ⟨sg_Re_exponent, List.forall_mem_cons.mpr ⟨sg_Re_gap, List.forall_mem_cons.mpr ⟨sg_Re_rounded, List.forall_mem_cons.mpr ⟨sg_Re_ofInt, List.forall_mem_cons.mpr ⟨sg_Re_toInt, List.forall_mem_cons.mpr ⟨sg_Re_toFloat, List.forall_mem_cons.mpr ⟨sg_Re_ofFloat, List.forall_mem_nil _⟩⟩⟩⟩⟩⟩⟩⟩⟩⟩⟩⟩⟩⟩⟩⟩⟩⟩⟩⟩⟩⟩⟩⟩⟩⟩⟩⟩⟩⟩
theorem sgl_7 : ∀ q ∈ am_sg_7, okSP q := List.forall_mem_cons.mpr ⟨sg_Re_sum, List.forall_mem_cons.mpr ⟨sg_Re_movedRight, List.forall_mem_cons.mpr ⟨sg_Re_turned, List.forall_mem_cons.mpr ⟨sg_Re_product, List.forall_mem_cons.mpr ⟨sg_Re_quotient, List.forall_mem_cons.mpr ⟨sg_Re_remainder, List.forall_mem_cons.mpr ⟨sg_Re_root, List.forall_mem_cons.mpr ⟨sg_Re_whole, List.forall_mem_cons.mpr ⟨sg_Re_signOf, List.forall_mem_cons.mpr ⟨sg_Re_step, List.forall_mem_cons.mpr ⟨sg_Re_above, List.forall_mem_cons.mpr ⟨sg_Re_rank, List.forall_mem_cons.mpr ⟨sg_Re_greater, List.forall_mem_cons.mpr ⟨sg_Re_lesser, List.forall_mem_cons.mpr ⟨sg_Re_withSign, List.forall_mem_cons.mpr ⟨sg_Re_paired, List.forall_mem_cons.mpr ⟨sg_Re_changed, List.forall_mem_cons.mpr ⟨sg_Re_holds, List.forall_mem_cons.mpr ⟨sg_Ro_init, List.forall_mem_cons.mpr ⟨sg_Ro_kind, List.forall_mem_cons.mpr ⟨sg_Ro_tellable, List.forall_mem_cons.mpr ⟨sg_Ro_told, List.forall_mem_cons.mpr ⟨sg_Ro_size, List.forall_mem_cons.mpr ⟨sg_Ro_twin, List.forall_mem_cons.mpr ⟨sg_Ro_putBack, List.forall_mem_cons.mpr ⟨sg_Ro_put, List.forall_mem_cons.mpr ⟨sg_Ro_narrowed, List.forall_mem_cons.mpr ⟨sg_Sh_init, List.forall_mem_cons.mpr ⟨sg_Sh_kind, List.forall_mem_cons.mpr ⟨sg_Sh_tellable, List.forall_mem_nil _⟩⟩⟩⟩⟩⟩⟩⟩⟩⟩⟩⟩⟩⟩⟩⟩⟩⟩⟩⟩⟩⟩⟩⟩⟩⟩⟩⟩⟩⟩
theorem sgl_8 : ∀ q ∈ am_sg_8, okSP q := List.forall_mem_cons.mpr ⟨sg_Sh_told, List.forall_mem_cons.mpr ⟨sg_Sh_size, List.forall_mem_cons.mpr ⟨sg_Sh_twin, List.forall_mem_cons.mpr ⟨sg_Sh_putBack, List.forall_mem_cons.mpr ⟨sg_Sh_refusal, List.forall_mem_cons.mpr ⟨sg_Sh_takeFrom, List.forall_mem_cons.mpr ⟨sg_Th_init, List.forall_mem_cons.mpr ⟨sg_Th_size, List.forall_mem_cons.mpr ⟨sg_Th_twin, List.forall_mem_cons.mpr ⟨sg_Th_putBack, List.forall_mem_cons.mpr ⟨sg_Tr_init, List.forall_mem_cons.mpr ⟨sg_Tr_kind, List.forall_mem_cons.mpr ⟨sg_Tr_tellable, List.forall_mem_cons.mpr ⟨sg_Tr_told, List.forall_mem_cons.mpr ⟨sg_S_length, List.forall_mem_cons.mpr ⟨sg_S_coder, List.forall_mem_cons.mpr ⟨sg_S_isEmpty, List.forall_mem_cons.mpr ⟨sg_S_charAt, List.forall_mem_cons.mpr ⟨sg_S_isLatin1, List.forall_mem_cons.mpr ⟨sg_SL_charAt, List.forall_mem_cons.mpr ⟨sg_S_checkIndex, List.forall_mem_cons.mpr ⟨sg_PC_checkIndex, List.forall_mem_cons.mpr ⟨sg_S_indexOf, List.forall_mem_cons.mpr ⟨sg_S_indexOf2, List.forall_mem_cons.mpr ⟨sg_SL_indexOf, List.forall_mem_cons.mpr ⟨sg_SL_canEncode, List.forall_mem_cons.mpr ⟨sg_SL_indexOfChar, List.forall_mem_nil _⟩⟩⟩⟩⟩⟩⟩⟩⟩⟩⟩⟩⟩⟩⟩⟩⟩⟩⟩⟩⟩⟩⟩⟩⟩⟩⟩
theorem sg_all : ∀ q ∈ am_sg, okSP q := List.forall_mem_append.mpr ⟨sgl_0, List.forall_mem_append.mpr ⟨sgl_1, List.forall_mem_append.mpr ⟨sgl_2, List.forall_mem_append.mpr ⟨sgl_3, List.forall_mem_append.mpr ⟨sgl_4, List.forall_mem_append.mpr ⟨sgl_5, List.forall_mem_append.mpr ⟨sgl_6, List.forall_mem_append.mpr ⟨sgl_7, sgl_8⟩⟩⟩⟩⟩⟩⟩⟩
def am_vx : List MethodName := [⟨"PatchHouse$Thing", "kind", "()I"⟩, ⟨"PatchHouse$Thing", "tellable", "()I"⟩, ⟨"PatchHouse$Thing", "told", "(I)J"⟩, ⟨"PatchHouse$Thing", "size", "()I"⟩, ⟨"PatchHouse$Thing", "twin", "()LPatchHouse$Thing;"⟩, ⟨"PatchHouse$Thing", "putBack", "(LPatchHouse$Thing;)V"⟩]
/-- virtual calls: number of the method, class, signature, places of words -/
def am_vt : List (Nat × Nat × Nat × Nat × Nat) := [(0, 4, 177, 634, 635), (0, 6, 229, 637, 638), (0, 7, 238, 640, 641), (0, 8, 251, 643, 644), (1, 4, 178, 1291, 1292), (1, 6, 230, 1294, 1295), (1, 7, 239, 1297, 1298), (1, 8, 252, 1300, 1301), (2, 4, 179, 1307, 1308), (2, 6, 231, 1310, 1311), (2, 7, 240, 1314, 1315), (2, 8, 253, 1319, 1320), (3, 4, 247, 836, 834), (3, 6, 232, 837, 838), (3, 7, 241, 840, 841), (3, 8, 247, 843, 834), (4, 4, 248, 849, 847), (4, 6, 233, 850, 851), (4, 7, 242, 854, 855), (4, 8, 248, 859, 847), (5, 4, 249, 786, 784), (5, 6, 234, 787, 788), (5, 7, 243, 792, 793), (5, 8, 249, 796, 784)]
