/-! methods: their names, bytes, what the tables say of them; printed by program -/
def eh_R13 : String := "EnclaveHouseLaw"
def eh_R20 : String := "java/lang/Integer"
def eh_R21 : String := "java/lang/Math"
def eh_R23 : String := "java/util/Arrays"
def eY_0_wantsTheSystem : MethodName := ⟨eh_R0, "wantsTheSystem", "()Z"⟩
def eM_0_wantsTheSystem : eh_M := (eh_R0, prog_2_method_4_code, 1, (some .boolean), false)
def eY_0_ask : MethodName := ⟨eh_R0, "ask", "(ZII)I"⟩
def eM_0_ask : eh_M := (eh_R0, prog_2_method_5_code, 4, (some .int), false)
def eY_0_tell : MethodName := ⟨eh_R0, "tell", "()I"⟩
def eM_0_tell : eh_M := (eh_R0, prog_2_method_6_code, 2, (some .int), false)
def eY_0_dropFirst : MethodName := ⟨eh_R0, "dropFirst", "()V"⟩
def eM_0_dropFirst : eh_M := (eh_R0, prog_2_method_9_code, 2, none, false)
def eY_0_swapDiskByte : MethodName := ⟨eh_R0, "swapDiskByte", "(II)I"⟩
def eM_0_swapDiskByte : eh_M := (eh_R0, prog_2_method_10_code, 6, (some .int), false)
def eY_2_handle : MethodName := ⟨eh_R2, "handle", "(I)V"⟩
def eM_2_handle : eh_M := (eh_R2, prog_4_method_5_code, 2, none, false)
def eY_2_goBack : MethodName := ⟨eh_R2, "goBack", "(I)V"⟩
def eM_2_goBack : eh_M := (eh_R2, prog_4_method_6_code, 2, none, false)
def eY_3_goOn : MethodName := ⟨eh_R3, "goOn", "(LEnclaveHouse$Fibre;I)V"⟩
def eM_3_goOn : eh_M := (eh_R3, prog_5_method_3_code, 2, none, false)
def eY_3_setHandler : MethodName := ⟨eh_R3, "setHandler", "(LEnclaveHouse$Fibre;I)I"⟩
def eM_3_setHandler : eh_M := (eh_R3, prog_5_method_17_code, 3, (some .int), false)
def eY_4_trap : MethodName := ⟨eh_R4, "trap", "(II)V"⟩
def eM_4_trap : eh_M := (eh_R4, prog_6_method_5_code, 4, none, false)
def eY_4_leaveTrap : MethodName := ⟨eh_R4, "leaveTrap", "()V"⟩
def eM_4_leaveTrap : eh_M := (eh_R4, prog_6_method_6_code, 2, none, false)
def eY_4_raiseSignal : MethodName := ⟨eh_R4, "raiseSignal", "()V"⟩
def eM_4_raiseSignal : eh_M := (eh_R4, prog_6_method_7_code, 1, none, false)
def eY_4_maySystemUse : MethodName := ⟨eh_R4, "maySystemUse", "(IZ)Z"⟩
def eM_4_maySystemUse : eh_M := (eh_R4, prog_6_method_8_code, 2, (some .boolean), false)
def eY_4_writeControl : MethodName := ⟨eh_R4, "writeControl", "(II)V"⟩
def eM_4_writeControl : eh_M := (eh_R4, prog_6_method_10_code, 3, none, false)
def eY_5_hasEnclave : MethodName := ⟨eh_R5, "hasEnclave", "(I)Z"⟩
def eM_5_hasEnclave : eh_M := (eh_R5, prog_7_method_3_code, 2, (some .boolean), false)
def eY_5_hasFibre : MethodName := ⟨eh_R5, "hasFibre", "(I)Z"⟩
def eM_5_hasFibre : eh_M := (eh_R5, prog_7_method_4_code, 2, (some .boolean), false)
def eY_5_hasRegion : MethodName := ⟨eh_R5, "hasRegion", "(I)Z"⟩
def eM_5_hasRegion : eh_M := (eh_R5, prog_7_method_5_code, 2, (some .boolean), false)
def eY_5_baseOf : MethodName := ⟨eh_R5, "baseOf", "(I)I"⟩
def eM_5_baseOf : eh_M := (eh_R5, prog_7_method_6_code, 2, (some .int), false)
def eY_5_sizeOf : MethodName := ⟨eh_R5, "sizeOf", "(I)I"⟩
def eM_5_sizeOf : eh_M := (eh_R5, prog_7_method_7_code, 2, (some .int), false)
def eY_5_enclaveCount : MethodName := ⟨eh_R5, "enclaveCount", "()I"⟩
def eM_5_enclaveCount : eh_M := (eh_R5, prog_7_method_8_code, 3, (some .int), false)
def eY_5_fibreCount : MethodName := ⟨eh_R5, "fibreCount", "()I"⟩
def eM_5_fibreCount : eh_M := (eh_R5, prog_7_method_9_code, 3, (some .int), false)
def eY_5_note : MethodName := ⟨eh_R5, "note", "(ILEnclaveHouse$Fibre;III)V"⟩
def eM_5_note : eh_M := (eh_R5, prog_7_method_12_code, 7, none, false)
def eY_5_eventPart : MethodName := ⟨eh_R5, "eventPart", "(II)I"⟩
def eM_5_eventPart : eh_M := (eh_R5, prog_7_method_13_code, 4, (some .int), false)
def eY_5_bears : MethodName := ⟨eh_R5, "bears", "([I)Z"⟩
def eM_5_bears : eh_M := (eh_R5, prog_7_method_16_code, 3, (some .boolean), false)
def eY_5_isCounted : MethodName := ⟨eh_R5, "isCounted", "(I[I)Z"⟩
def eM_5_isCounted : eh_M := (eh_R5, prog_7_method_18_code, 4, (some .boolean), false)
def eY_5_mix : MethodName := ⟨eh_R5, "mix", "(JI)J"⟩
def eM_5_mix : eh_M := (eh_R5, prog_7_method_20_code, 3, (some .long), false)
def eY_6_wordAt : MethodName := ⟨eh_R6, "wordAt", "(I)I"⟩
def eM_6_wordAt : eh_M := (eh_R6, prog_8_method_3_code, 2, (some .int), false)
def eY_6_isOpen : MethodName := ⟨eh_R6, "isOpen", "(J)Z"⟩
def eM_6_isOpen : eh_M := (eh_R6, prog_8_method_6_code, 4, (some .boolean), false)
def eY_6_sideOf : MethodName := ⟨eh_R6, "sideOf", "(II)I"⟩
def eM_6_sideOf : eh_M := (eh_R6, prog_8_method_10_code, 3, (some .int), false)
def eY_6_tellsOfStores : MethodName := ⟨eh_R6, "tellsOfStores", "(I)Z"⟩
def eM_6_tellsOfStores : eh_M := (eh_R6, prog_8_method_11_code, 3, (some .boolean), false)
def eY_6_change : MethodName := ⟨eh_R6, "change", "(III)V"⟩
def eM_6_change : eh_M := (eh_R6, prog_8_method_12_code, 6, none, false)
def eY_6_wipe : MethodName := ⟨eh_R6, "wipe", "(II)V"⟩
def eM_6_wipe : eh_M := (eh_R6, prog_8_method_14_code, 5, none, false)
def eY_6_reserve : MethodName := ⟨eh_R6, "reserve", "(II)V"⟩
def eM_6_reserve : eh_M := (eh_R6, prog_8_method_15_code, 3, none, false)
def eY_6_unreserve : MethodName := ⟨eh_R6, "unreserve", "(I)V"⟩
def eM_6_unreserve : eh_M := (eh_R6, prog_8_method_16_code, 2, none, false)
def eY_6_isReserved : MethodName := ⟨eh_R6, "isReserved", "(II)Z"⟩
def eM_6_isReserved : eh_M := (eh_R6, prog_8_method_17_code, 3, (some .boolean), false)
def eY_6_isSpan : MethodName := ⟨eh_R6, "isSpan", "(II)Z"⟩
def eM_6_isSpan : eh_M := (eh_R6, prog_8_method_18_code, 2, (some .boolean), false)
def eY_6_overlaps : MethodName := ⟨eh_R6, "overlaps", "(II)Z"⟩
def eM_6_overlaps : eh_M := (eh_R6, prog_8_method_19_code, 4, (some .boolean), false)
def eY_6_leastFreeRegion : MethodName := ⟨eh_R6, "leastFreeRegion", "()I"⟩
def eM_6_leastFreeRegion : eh_M := (eh_R6, prog_8_method_20_code, 2, (some .int), false)
def eY_6_regionCount : MethodName := ⟨eh_R6, "regionCount", "()I"⟩
def eM_6_regionCount : eh_M := (eh_R6, prog_8_method_21_code, 3, (some .int), false)
def eY_6_markPages : MethodName := ⟨eh_R6, "markPages", "(II)V"⟩
def eM_6_markPages : eh_M := (eh_R6, prog_8_method_24_code, 6, none, false)
def eY_6_entryPart : MethodName := ⟨eh_R6, "entryPart", "(III)I"⟩
def eM_6_entryPart : eh_M := (eh_R6, prog_8_method_27_code, 4, (some .int), false)
def eY_7_fail : MethodName := ⟨eh_R7, "fail", "(II)V"⟩
def eM_7_fail : eh_M := (eh_R7, prog_9_method_6_code, 3, none, false)
def eY_7_put : MethodName := ⟨eh_R7, "put", "(II)V"⟩
def eM_7_put : eh_M := (eh_R7, prog_9_method_7_code, 4, none, false)
def eY_7_offsetJ : MethodName := ⟨eh_R7, "offsetJ", "(I)I"⟩
def eM_7_offsetJ : eh_M := (eh_R7, prog_9_method_9_code, 1, (some .int), false)
def eY_7_offsetB : MethodName := ⟨eh_R7, "offsetB", "(I)I"⟩
def eM_7_offsetB : eh_M := (eh_R7, prog_9_method_10_code, 1, (some .int), false)
def eY_7_leftOf : MethodName := ⟨eh_R7, "leftOf", "(I)I"⟩
def eM_7_leftOf : eh_M := (eh_R7, prog_9_method_11_code, 2, (some .int), false)
def eY_7_rightOf : MethodName := ⟨eh_R7, "rightOf", "(I)I"⟩
def eM_7_rightOf : eh_M := (eh_R7, prog_9_method_12_code, 2, (some .int), false)
def eY_7_multiplied : MethodName := ⟨eh_R7, "multiplied", "(III)I"⟩
def eM_7_multiplied : eh_M := (eh_R7, prog_9_method_24_code, 3, (some .int), false)
def eY_7_divided : MethodName := ⟨eh_R7, "divided", "(III)I"⟩
def eM_7_divided : eh_M := (eh_R7, prog_9_method_25_code, 8, (some .int), false)
def eY_7_allows : MethodName := ⟨eh_R7, "allows", "(II)Z"⟩
def eM_7_allows : eh_M := (eh_R7, prog_9_method_34_code, 7, (some .boolean), false)
def eY_7_accessFault : MethodName := ⟨eh_R7, "accessFault", "(I)I"⟩
def eM_7_accessFault : eh_M := (eh_R7, prog_9_method_35_code, 1, (some .int), false)
def eY_7_pageFault : MethodName := ⟨eh_R7, "pageFault", "(I)I"⟩
def eM_7_pageFault : eh_M := (eh_R7, prog_9_method_36_code, 1, (some .int), false)
def eY_8_clear : MethodName := ⟨eh_R8, "clear", "()V"⟩
def eM_8_clear : eh_M := (eh_R8, prog_10_method_2_code, 1, none, false)
def eY_8_add : MethodName := ⟨eh_R8, "add", "(I)Z"⟩
def eM_8_add : eh_M := (eh_R8, prog_10_method_3_code, 2, (some .boolean), false)
def eY_8_takeFirst : MethodName := ⟨eh_R8, "takeFirst", "(I)I"⟩
def eM_8_takeFirst : eh_M := (eh_R8, prog_10_method_4_code, 3, (some .int), false)
def eY_8_at : MethodName := ⟨eh_R8, "at", "(I)I"⟩
def eM_8_at : eh_M := (eh_R8, prog_10_method_5_code, 2, (some .int), false)
def eY_9_begin : MethodName := ⟨eh_R9, "begin", "()V"⟩
def eM_9_begin : eh_M := (eh_R9, prog_11_method_2_code, 1, none, false)
def eY_9_clearBlockFrom : MethodName := ⟨eh_R9, "clearBlockFrom", "(I)V"⟩
def eM_9_clearBlockFrom : eh_M := (eh_R9, prog_11_method_11_code, 3, none, false)
def eY_9_compress : MethodName := ⟨eh_R9, "compress", "()V"⟩
def eM_9_compress : eh_M := (eh_R9, prog_11_method_12_code, 14, none, false)
def eY_9_flip : MethodName := ⟨eh_R9, "flip", "(I)I"⟩
def eM_9_flip : eh_M := (eh_R9, prog_11_method_13_code, 1, (some .int), false)
def eY_10_leastFreeEnclave : MethodName := ⟨eh_R10, "leastFreeEnclave", "()I"⟩
def eM_10_leastFreeEnclave : eh_M := (eh_R10, prog_12_method_6_code, 2, (some .int), false)
def eY_10_leastFreeFibre : MethodName := ⟨eh_R10, "leastFreeFibre", "()I"⟩
def eM_10_leastFreeFibre : eh_M := (eh_R10, prog_12_method_10_code, 2, (some .int), false)
def eY_10_goOff : MethodName := ⟨eh_R10, "goOff", "()I"⟩
def eM_10_goOff : eh_M := (eh_R10, prog_12_method_25_code, 1, (some .int), false)
def eY_10_setSlice : MethodName := ⟨eh_R10, "setSlice", "(LEnclaveHouse$Hart;I)I"⟩
def eM_10_setSlice : eh_M := (eh_R10, prog_12_method_26_code, 3, (some .int), false)
def eY_11_line : MethodName := ⟨eh_R11, "line", "(Z)Z"⟩
def eM_11_line : eh_M := (eh_R11, prog_1_method_17_code, 3, (some .boolean), false)
def eY_11_thread : MethodName := ⟨eh_R11, "thread", "(II)I"⟩
def eM_11_thread : eh_M := (eh_R11, prog_1_method_19_code, 4, (some .int), false)
def eY_11_region : MethodName := ⟨eh_R11, "region", "(II)I"⟩
def eM_11_region : eh_M := (eh_R11, prog_1_method_20_code, 4, (some .int), false)
def eY_11_countOfHart : MethodName := ⟨eh_R11, "countOfHart", "(I)I"⟩
def eM_11_countOfHart : eh_M := (eh_R11, prog_1_method_29_code, 3, (some .int), false)
def eY_11_isHart : MethodName := ⟨eh_R11, "isHart", "(I)Z"⟩
def eM_11_isHart : eh_M := (eh_R11, prog_1_method_31_code, 1, (some .boolean), false)
def eY_11_isBelow : MethodName := ⟨eh_R11, "isBelow", "(II)Z"⟩
def eM_11_isBelow : eh_M := (eh_R11, prog_1_method_32_code, 2, (some .boolean), false)
def eY_12_begin : MethodName := ⟨eh_R12, "begin", "(I)V"⟩
def eM_12_begin : eh_M := (eh_R12, prog_14_method_2_code, 3, none, false)
def eY_12_say : MethodName := ⟨eh_R12, "say", "(I)V"⟩
def eM_12_say : eh_M := (eh_R12, prog_14_method_8_code, 3, none, false)
def eY_12_sayBytes : MethodName := ⟨eh_R12, "sayBytes", "([BII)V"⟩
def eM_12_sayBytes : eh_M := (eh_R12, prog_14_method_9_code, 5, none, false)
def eY_12_bigWord : MethodName := ⟨eh_R12, "bigWord", "([BI)I"⟩
def eM_12_bigWord : eh_M := (eh_R12, prog_14_method_13_code, 2, (some .int), false)
def eY_12_littleWord : MethodName := ⟨eh_R12, "littleWord", "([BI)I"⟩
def eM_12_littleWord : eh_M := (eh_R12, prog_14_method_14_code, 2, (some .int), false)
def eY_12_clearPath : MethodName := ⟨eh_R12, "clearPath", "(I)V"⟩
def eM_12_clearPath : eh_M := (eh_R12, prog_14_method_16_code, 2, none, false)
def eY_12_isOpen : MethodName := ⟨eh_R12, "isOpen", "(I)Z"⟩
def eM_12_isOpen : eh_M := (eh_R12, prog_14_method_17_code, 4, (some .boolean), false)
def eY_12_areOpen : MethodName := ⟨eh_R12, "areOpen", "(II)Z"⟩
def eM_12_areOpen : eh_M := (eh_R12, prog_14_method_18_code, 5, (some .boolean), false)
def eY_12_setByte : MethodName := ⟨eh_R12, "setByte", "(II)V"⟩
def eM_12_setByte : eh_M := (eh_R12, prog_14_method_19_code, 4, none, false)
def eY_12_sharedAt : MethodName := ⟨eh_R12, "sharedAt", "(I)I"⟩
def eM_12_sharedAt : eh_M := (eh_R12, prog_14_method_21_code, 4, (some .int), false)
def eY_12_gate : MethodName := ⟨eh_R12, "gate", "(III)V"⟩
def eM_12_gate : eh_M := (eh_R12, prog_14_method_22_code, 4, none, false)
def eY_12_isOf : MethodName := ⟨eh_R12, "isOf", "(II)Z"⟩
def eM_12_isOf : eh_M := (eh_R12, prog_14_method_23_code, 3, (some .boolean), false)
def eY_12_isAccepted : MethodName := ⟨eh_R12, "isAccepted", "(II)Z"⟩
def eM_12_isAccepted : eh_M := (eh_R12, prog_14_method_24_code, 3, (some .boolean), false)
def eY_12_except : MethodName := ⟨eh_R12, "except", "(II)V"⟩
def eM_12_except : eh_M := (eh_R12, prog_14_method_27_code, 3, none, false)
def eY_12_denied : MethodName := ⟨eh_R12, "denied", "(I)I"⟩
def eM_12_denied : eh_M := (eh_R12, prog_14_method_28_code, 1, (some .int), false)
def eY_12_unpaged : MethodName := ⟨eh_R12, "unpaged", "(I)I"⟩
def eM_12_unpaged : eh_M := (eh_R12, prog_14_method_29_code, 1, (some .int), false)
def eY_12_happens : MethodName := ⟨eh_R12, "happens", "(IIIII)V"⟩
def eM_12_happens : eh_M := (eh_R12, prog_14_method_36_code, 7, none, false)
def eY_12_who : MethodName := ⟨eh_R12, "who", "(I)I"⟩
def eM_12_who : eh_M := (eh_R12, prog_14_method_38_code, 2, (some .int), false)
def eY_12_trap : MethodName := ⟨eh_R12, "trap", "(III)V"⟩
def eM_12_trap : eh_M := (eh_R12, prog_14_method_42_code, 5, none, false)
def eY_12_leave : MethodName := ⟨eh_R12, "leave", "(IIII)V"⟩
def eM_12_leave : eh_M := (eh_R12, prog_14_method_43_code, 6, none, false)
def eY_12_enter : MethodName := ⟨eh_R12, "enter", "(II)V"⟩
def eM_12_enter : eh_M := (eh_R12, prog_14_method_44_code, 3, none, false)
def eY_12_product : MethodName := ⟨eh_R12, "product", "(III)I"⟩
def eM_12_product : eh_M := (eh_R12, prog_14_method_52_code, 7, (some .int), false)
def eY_12_isRegister : MethodName := ⟨eh_R12, "isRegister", "(I)Z"⟩
def eM_12_isRegister : eh_M := (eh_R12, prog_14_method_56_code, 1, (some .boolean), false)
def eY_12_writeRegister : MethodName := ⟨eh_R12, "writeRegister", "(III)V"⟩
def eM_12_writeRegister : eh_M := (eh_R12, prog_14_method_58_code, 4, none, false)
def eY_12_isEnclave : MethodName := ⟨eh_R12, "isEnclave", "(I)Z"⟩
def eM_12_isEnclave : eh_M := (eh_R12, prog_14_method_61_code, 2, (some .boolean), false)
def eY_12_isThread : MethodName := ⟨eh_R12, "isThread", "(I)Z"⟩
def eM_12_isThread : eh_M := (eh_R12, prog_14_method_62_code, 2, (some .boolean), false)
def eY_12_isSpan : MethodName := ⟨eh_R12, "isSpan", "(II)Z"⟩
def eM_12_isSpan : eh_M := (eh_R12, prog_14_method_63_code, 2, (some .boolean), false)
def eY_12_isOverlap : MethodName := ⟨eh_R12, "isOverlap", "(II)Z"⟩
def eM_12_isOverlap : eh_M := (eh_R12, prog_14_method_64_code, 5, (some .boolean), false)
def eY_12_free : MethodName := ⟨eh_R12, "free", "([I)I"⟩
def eM_12_free : eh_M := (eh_R12, prog_14_method_65_code, 2, (some .int), false)
def eY_12_threadsOf : MethodName := ⟨eh_R12, "threadsOf", "(I)I"⟩
def eM_12_threadsOf : eh_M := (eh_R12, prog_14_method_72_code, 4, (some .int), false)
def eY_12_move : MethodName := ⟨eh_R12, "move", "(III)I"⟩
def eM_12_move : eh_M := (eh_R12, prog_14_method_80_code, 4, (some .int), false)
def eY_12_key : MethodName := ⟨eh_R12, "key", "()I"⟩
def eM_12_key : eh_M := (eh_R12, prog_14_method_81_code, 3, (some .int), false)
def eY_12_isWord : MethodName := ⟨eh_R12, "isWord", "(I)Z"⟩
def eM_12_isWord : eh_M := (eh_R12, prog_14_method_95_code, 2, (some .boolean), false)
def eY_12_isHart : MethodName := ⟨eh_R12, "isHart", "(I)Z"⟩
def eM_12_isHart : eh_M := (eh_R12, prog_14_method_100_code, 1, (some .boolean), false)
def eY_12_type : MethodName := ⟨eh_R12, "type", "(I)I"⟩
def eM_12_type : eh_M := (eh_R12, prog_14_method_108_code, 2, (some .int), false)
def eY_12_panel : MethodName := ⟨eh_R12, "panel", "(I)I"⟩
def eM_12_panel : eh_M := (eh_R12, prog_14_method_109_code, 2, (some .int), false)
def eY_12_line : MethodName := ⟨eh_R12, "line", "(Z)Z"⟩
def eM_12_line : eh_M := (eh_R12, prog_14_method_110_code, 3, (some .boolean), false)
def eY_12_thread : MethodName := ⟨eh_R12, "thread", "(II)I"⟩
def eM_12_thread : eh_M := (eh_R12, prog_14_method_112_code, 3, (some .int), false)
def eY_12_region : MethodName := ⟨eh_R12, "region", "(II)I"⟩
def eM_12_region : eh_M := (eh_R12, prog_14_method_113_code, 3, (some .int), false)
def eY_12_console : MethodName := ⟨eh_R12, "console", "(I)I"⟩
def eM_12_console : eh_M := (eh_R12, prog_14_method_116_code, 2, (some .int), false)
def eY_12_disk : MethodName := ⟨eh_R12, "disk", "(III)I"⟩
def eM_12_disk : eh_M := (eh_R12, prog_14_method_117_code, 5, (some .int), false)
def eY_12_on : MethodName := ⟨eh_R12, "on", "(JI)J"⟩
def eM_12_on : eh_M := (eh_R12, prog_14_method_121_code, 3, (some .long), false)
def eY_12_many : MethodName := ⟨eh_R12, "many", "([I)I"⟩
def eM_12_many : eh_M := (eh_R12, prog_14_method_124_code, 3, (some .int), false)
def eY_13_cell : MethodName := ⟨eh_R13, "cell", "([II)I"⟩
def eM_13_cell : eh_M := (eh_R13, method_2_code, 2, (some .int), false)
def eY_20_compare : MethodName := ⟨eh_R20, "compare", "(II)I"⟩
def eM_20_compare : eh_M := (eh_R20, prog_15_method_40_code, 2, (some .int), false)
def eY_20_rotateRight : MethodName := ⟨eh_R20, "rotateRight", "(II)I"⟩
def eM_20_rotateRight : eh_M := (eh_R20, prog_15_method_51_code, 2, (some .int), false)
def eY_23_fill : MethodName := ⟨eh_R23, "fill", "([II)V"⟩
def eM_23_fill : eh_M := (eh_R23, prog_18_method_103_code, 4, none, false)
def eY_0_givePath : MethodName := ⟨eh_R0, "givePath", "(I)V"⟩
def eM_0_givePath : eh_M := (eh_R0, prog_2_method_3_code, 2, none, false)
def eY_0_mixDisk : MethodName := ⟨eh_R0, "mixDisk", "(J)J"⟩
def eM_0_mixDisk : eh_M := (eh_R0, prog_2_method_11_code, 6, (some .long), false)
def eY_2_clear : MethodName := ⟨eh_R2, "clear", "()V"⟩
def eM_2_clear : eh_M := (eh_R2, prog_4_method_4_code, 1, none, false)
def eY_3_accept : MethodName := ⟨eh_R3, "accept", "(LEnclaveHouse$Fibre;I)I"⟩
def eM_3_accept : eh_M := (eh_R3, prog_5_method_13_code, 4, (some .int), false)
def eY_4_restart : MethodName := ⟨eh_R4, "restart", "()V"⟩
def eM_4_restart : eh_M := (eh_R4, prog_6_method_2_code, 1, none, false)
def eY_4_pending : MethodName := ⟨eh_R4, "pending", "(LEnclaveHouse$Devices;)I"⟩
def eM_4_pending : eh_M := (eh_R4, prog_6_method_3_code, 3, (some .int), false)
def eY_4_mixAll : MethodName := ⟨eh_R4, "mixAll", "(J)J"⟩
def eM_4_mixAll : eh_M := (eh_R4, prog_6_method_11_code, 6, (some .long), false)
def eY_5_begin : MethodName := ⟨eh_R5, "begin", "(LEnclaveHouse$Hart;LEnclaveHouse$Fibre;)V"⟩
def eM_5_begin : eh_M := (eh_R5, prog_7_method_10_code, 3, none, false)
def eY_5_cease : MethodName := ⟨eh_R5, "cease", "(LEnclaveHouse$Hart;LEnclaveHouse$Fibre;III)V"⟩
def eM_5_cease : eh_M := (eh_R5, prog_7_method_11_code, 6, none, false)
def eY_5_countUp : MethodName := ⟨eh_R5, "countUp", "([I)I"⟩
def eM_5_countUp : eh_M := (eh_R5, prog_7_method_17_code, 3, (some .int), false)
def eY_6_clear : MethodName := ⟨eh_R6, "clear", "()V"⟩
def eM_6_clear : eh_M := (eh_R6, prog_8_method_2_code, 1, none, false)
def eY_6_byteAt : MethodName := ⟨eh_R6, "byteAt", "(I)I"⟩
def eM_6_byteAt : eh_M := (eh_R6, prog_8_method_4_code, 2, (some .int), false)
def eY_6_areOpen : MethodName := ⟨eh_R6, "areOpen", "(II)Z"⟩
def eM_6_areOpen : eh_M := (eh_R6, prog_8_method_7_code, 5, (some .boolean), false)
def eY_6_rightsIn : MethodName := ⟨eh_R6, "rightsIn", "(II)I"⟩
def eM_6_rightsIn : eh_M := (eh_R6, prog_8_method_9_code, 4, (some .int), false)
def eY_6_store : MethodName := ⟨eh_R6, "store", "(III)V"⟩
def eM_6_store : eh_M := (eh_R6, prog_8_method_13_code, 5, none, false)
def eY_6_give : MethodName := ⟨eh_R6, "give", "(IIIIII)V"⟩
def eM_6_give : eh_M := (eh_R6, prog_8_method_22_code, 7, none, false)
def eY_6_takeBack : MethodName := ⟨eh_R6, "takeBack", "(I)V"⟩
def eM_6_takeBack : eh_M := (eh_R6, prog_8_method_23_code, 2, none, false)
def eY_6_entryOfSystem : MethodName := ⟨eh_R6, "entryOfSystem", "(II)I"⟩
def eM_6_entryOfSystem : eh_M := (eh_R6, prog_8_method_25_code, 5, (some .int), false)
def eY_6_mixWords : MethodName := ⟨eh_R6, "mixWords", "(J)J"⟩
def eM_6_mixWords : eh_M := (eh_R6, prog_8_method_28_code, 9, (some .long), false)
def eY_6_mixRegions : MethodName := ⟨eh_R6, "mixRegions", "(J)J"⟩
def eM_6_mixRegions : eh_M := (eh_R6, prog_8_method_29_code, 6, (some .long), false)
def eY_7_look : MethodName := ⟨eh_R7, "look", "(LEnclaveHouse$Hart;)V"⟩
def eM_7_look : eh_M := (eh_R7, prog_9_method_3_code, 2, none, false)
def eY_7_goTo : MethodName := ⟨eh_R7, "goTo", "(I)Z"⟩
def eM_7_goTo : eh_M := (eh_R7, prog_9_method_13_code, 2, (some .boolean), false)
def eY_7_fence : MethodName := ⟨eh_R7, "fence", "(I)V"⟩
def eM_7_fence : eh_M := (eh_R7, prog_9_method_20_code, 2, none, false)
def eY_7_reckoned : MethodName := ⟨eh_R7, "reckoned", "(IZII)I"⟩
def eM_7_reckoned : eh_M := (eh_R7, prog_9_method_23_code, 4, (some .int), false)
def eY_7_combined : MethodName := ⟨eh_R7, "combined", "(III)I"⟩
def eM_7_combined : eh_M := (eh_R7, prog_9_method_27_code, 4, (some .int), false)
def eY_7_failUnless : MethodName := ⟨eh_R7, "failUnless", "(ZI)V"⟩
def eM_7_failUnless : eh_M := (eh_R7, prog_9_method_29_code, 3, none, false)
def eY_7_specialByCode : MethodName := ⟨eh_R7, "specialByCode", "(IZ)V"⟩
def eM_7_specialByCode : eh_M := (eh_R7, prog_9_method_30_code, 4, none, false)
def eY_7_walk : MethodName := ⟨eh_R7, "walk", "(II)J"⟩
def eM_7_walk : eh_M := (eh_R7, prog_9_method_33_code, 11, (some .long), false)
def eY_8_mixAll : MethodName := ⟨eh_R8, "mixAll", "(J)J"⟩
def eM_8_mixAll : eh_M := (eh_R8, prog_10_method_6_code, 6, (some .long), false)
def eY_9_feedByte : MethodName := ⟨eh_R9, "feedByte", "(I)V"⟩
def eM_9_feedByte : eh_M := (eh_R9, prog_11_method_3_code, 5, none, false)
def eY_9_feedWord : MethodName := ⟨eh_R9, "feedWord", "(I)V"⟩
def eM_9_feedWord : eh_M := (eh_R9, prog_11_method_4_code, 2, none, false)
def eY_9_feedNumber : MethodName := ⟨eh_R9, "feedNumber", "(I)V"⟩
def eM_9_feedNumber : eh_M := (eh_R9, prog_11_method_5_code, 2, none, false)
def eY_9_end : MethodName := ⟨eh_R9, "end", "([I)V"⟩
def eM_9_end : eh_M := (eh_R9, prog_11_method_7_code, 6, none, false)
def eY_9_feedPaddedKey : MethodName := ⟨eh_R9, "feedPaddedKey", "([II)V"⟩
def eM_9_feedPaddedKey : eh_M := (eh_R9, prog_11_method_10_code, 4, none, false)
def eY_10_stop : MethodName := ⟨eh_R10, "stop", "(I)I"⟩
def eM_10_stop : eh_M := (eh_R10, prog_12_method_14_code, 3, (some .int), false)
def eY_10_putOut : MethodName := ⟨eh_R10, "putOut", "(I)I"⟩
def eM_10_putOut : eh_M := (eh_R10, prog_12_method_20_code, 2, (some .int), false)
def eY_10_signal : MethodName := ⟨eh_R10, "signal", "(I)I"⟩
def eM_10_signal : eh_M := (eh_R10, prog_12_method_21_code, 2, (some .int), false)
def eY_10_askDisk : MethodName := ⟨eh_R10, "askDisk", "(III)I"⟩
def eM_10_askDisk : eh_M := (eh_R10, prog_12_method_22_code, 4, (some .int), false)
def eY_10_measure : MethodName := ⟨eh_R10, "measure", "(II)I"⟩
def eM_10_measure : eh_M := (eh_R10, prog_12_method_23_code, 4, (some .int), false)
def eY_10_look : MethodName := ⟨eh_R10, "look", "(II)I"⟩
def eM_10_look : eh_M := (eh_R10, prog_12_method_24_code, 3, (some .int), false)
def eY_11_word : MethodName := ⟨eh_R11, "word", "(I)I"⟩
def eM_11_word : eh_M := (eh_R11, prog_1_method_4_code, 2, (some .int), false)
def eY_11_inner : MethodName := ⟨eh_R11, "inner", "(I)I"⟩
def eM_11_inner : eh_M := (eh_R11, prog_1_method_5_code, 2, (some .int), false)
def eY_11_inside : MethodName := ⟨eh_R11, "inside", "(II)I"⟩
def eM_11_inside : eh_M := (eh_R11, prog_1_method_9_code, 4, (some .int), false)
def eY_11_place : MethodName := ⟨eh_R11, "place", "(III)I"⟩
def eM_11_place : eh_M := (eh_R11, prog_1_method_10_code, 5, (some .int), false)
def eY_11_setControl : MethodName := ⟨eh_R11, "setControl", "(III)I"⟩
def eM_11_setControl : eh_M := (eh_R11, prog_1_method_11_code, 4, (some .int), false)
def eY_11_type : MethodName := ⟨eh_R11, "type", "(I)I"⟩
def eM_11_type : eh_M := (eh_R11, prog_1_method_15_code, 4, (some .int), false)
def eY_11_panel : MethodName := ⟨eh_R11, "panel", "(I)I"⟩
def eM_11_panel : eh_M := (eh_R11, prog_1_method_16_code, 2, (some .int), false)
def eY_11_enclave : MethodName := ⟨eh_R11, "enclave", "(II)I"⟩
def eM_11_enclave : eh_M := (eh_R11, prog_1_method_18_code, 4, (some .int), false)
def eY_11_event : MethodName := ⟨eh_R11, "event", "(II)I"⟩
def eM_11_event : eh_M := (eh_R11, prog_1_method_22_code, 3, (some .int), false)
def eY_11_console : MethodName := ⟨eh_R11, "console", "(I)I"⟩
def eM_11_console : eh_M := (eh_R11, prog_1_method_23_code, 2, (some .int), false)
def eY_11_disk : MethodName := ⟨eh_R11, "disk", "(III)I"⟩
def eM_11_disk : eh_M := (eh_R11, prog_1_method_24_code, 4, (some .int), false)
def eY_11_count : MethodName := ⟨eh_R11, "count", "(I)I"⟩
def eM_11_count : eh_M := (eh_R11, prog_1_method_28_code, 3, (some .int), false)
def eY_11_registerOrZero : MethodName := ⟨eh_R11, "registerOrZero", "(II)I"⟩
def eM_11_registerOrZero : eh_M := (eh_R11, prog_1_method_30_code, 3, (some .int), false)
def eY_12_block : MethodName := ⟨eh_R12, "block", "(I)V"⟩
def eM_12_block : eh_M := (eh_R12, prog_14_method_6_code, 13, none, false)
def eY_12_clear : MethodName := ⟨eh_R12, "clear", "(II)V"⟩
def eM_12_clear : eh_M := (eh_R12, prog_14_method_20_code, 4, none, false)
def eY_12_gather : MethodName := ⟨eh_R12, "gather", "(I)V"⟩
def eM_12_gather : eh_M := (eh_R12, prog_14_method_25_code, 4, none, false)
def eY_12_allowed : MethodName := ⟨eh_R12, "allowed", "(IIIIZ)J"⟩
def eM_12_allowed : eh_M := (eh_R12, prog_14_method_32_code, 8, (some .long), false)
def eY_12_storeAt : MethodName := ⟨eh_R12, "storeAt", "(IIII)V"⟩
def eM_12_storeAt : eh_M := (eh_R12, prog_14_method_35_code, 6, none, false)
def eY_12_get : MethodName := ⟨eh_R12, "get", "(II)I"⟩
def eM_12_get : eh_M := (eh_R12, prog_14_method_39_code, 3, (some .int), false)
def eY_12_set : MethodName := ⟨eh_R12, "set", "(III)V"⟩
def eM_12_set : eh_M := (eh_R12, prog_14_method_40_code, 4, none, false)
def eY_12_jump : MethodName := ⟨eh_R12, "jump", "(I)V"⟩
def eM_12_jump : eh_M := (eh_R12, prog_14_method_45_code, 2, none, false)
def eY_12_run : MethodName := ⟨eh_R12, "run", "(IIIII)I"⟩
def eM_12_run : eh_M := (eh_R12, prog_14_method_75_code, 10, (some .int), false)
def eY_12_stop : MethodName := ⟨eh_R12, "stop", "(I)I"⟩
def eM_12_stop : eh_M := (eh_R12, prog_14_method_76_code, 3, (some .int), false)
def eY_12_accept : MethodName := ⟨eh_R12, "accept", "(III)I"⟩
def eM_12_accept : eh_M := (eh_R12, prog_14_method_88_code, 4, (some .int), false)
def eY_12_count : MethodName := ⟨eh_R12, "count", "(II)I"⟩
def eM_12_count : eh_M := (eh_R12, prog_14_method_91_code, 7, (some .int), false)
def eY_12_onPath : MethodName := ⟨eh_R12, "onPath", "(III)I"⟩
def eM_12_onPath : eh_M := (eh_R12, prog_14_method_92_code, 6, (some .int), false)
def eY_12_device : MethodName := ⟨eh_R12, "device", "()V"⟩
def eM_12_device : eh_M := (eh_R12, prog_14_method_94_code, 3, none, false)
def eY_12_poke : MethodName := ⟨eh_R12, "poke", "(IIIIII)I"⟩
def eM_12_poke : eh_M := (eh_R12, prog_14_method_96_code, 9, (some .int), false)
def eY_12_word : MethodName := ⟨eh_R12, "word", "(I)I"⟩
def eM_12_word : eh_M := (eh_R12, prog_14_method_97_code, 2, (some .int), false)
def eY_12_inner : MethodName := ⟨eh_R12, "inner", "(I)I"⟩
def eM_12_inner : eh_M := (eh_R12, prog_14_method_98_code, 2, (some .int), false)
def eY_12_secret : MethodName := ⟨eh_R12, "secret", "(III)I"⟩
def eM_12_secret : eh_M := (eh_R12, prog_14_method_99_code, 6, (some .int), false)
def eY_12_setRegister : MethodName := ⟨eh_R12, "setRegister", "(III)I"⟩
def eM_12_setRegister : eh_M := (eh_R12, prog_14_method_101_code, 5, (some .int), false)
def eY_12_register : MethodName := ⟨eh_R12, "register", "(II)I"⟩
def eM_12_register : eh_M := (eh_R12, prog_14_method_102_code, 3, (some .int), false)
def eY_12_inside : MethodName := ⟨eh_R12, "inside", "(II)I"⟩
def eM_12_inside : eh_M := (eh_R12, prog_14_method_103_code, 3, (some .int), false)
def eY_12_place : MethodName := ⟨eh_R12, "place", "(III)I"⟩
def eM_12_place : eh_M := (eh_R12, prog_14_method_104_code, 4, (some .int), false)
def eY_12_setControl : MethodName := ⟨eh_R12, "setControl", "(III)I"⟩
def eM_12_setControl : eh_M := (eh_R12, prog_14_method_105_code, 4, (some .int), false)
def eY_12_enclave : MethodName := ⟨eh_R12, "enclave", "(II)I"⟩
def eM_12_enclave : eh_M := (eh_R12, prog_14_method_111_code, 3, (some .int), false)
def eY_12_event : MethodName := ⟨eh_R12, "event", "(II)I"⟩
def eM_12_event : eh_M := (eh_R12, prog_14_method_115_code, 3, (some .int), false)
def eY_12_shown : MethodName := ⟨eh_R12, "shown", "(I)I"⟩
def eM_12_shown : eh_M := (eh_R12, prog_14_method_118_code, 2, (some .int), false)
def eY_12_count_2 : MethodName := ⟨eh_R12, "count", "(I)I"⟩
def eM_12_count_2 : eh_M := (eh_R12, prog_14_method_123_code, 2, (some .int), false)
def eY_20_compareUnsigned : MethodName := ⟨eh_R20, "compareUnsigned", "(II)I"⟩
def eM_20_compareUnsigned : eh_M := (eh_R20, prog_15_method_41_code, 2, (some .int), false)
def eY_0_restart : MethodName := ⟨eh_R0, "restart", "()V"⟩
def eM_0_restart : eh_M := (eh_R0, prog_2_method_2_code, 1, none, false)
def eY_0_carryOutFirst : MethodName := ⟨eh_R0, "carryOutFirst", "(LEnclaveHouse$Memory;)V"⟩
def eM_0_carryOutFirst : eh_M := (eh_R0, prog_2_method_8_code, 5, none, false)
def eY_1_make : MethodName := ⟨eh_R1, "make", "(II)V"⟩
def eM_1_make : eh_M := (eh_R1, prog_3_method_2_code, 3, none, false)
def eY_1_finish : MethodName := ⟨eh_R1, "finish", "(I)V"⟩
def eM_1_finish : eh_M := (eh_R1, prog_3_method_3_code, 2, none, false)
def eY_2_make : MethodName := ⟨eh_R2, "make", "(III)V"⟩
def eM_2_make : eh_M := (eh_R2, prog_4_method_2_code, 4, none, false)
def eY_2_enter : MethodName := ⟨eh_R2, "enter", "(III)V"⟩
def eM_2_enter : eh_M := (eh_R2, prog_4_method_3_code, 4, none, false)
def eY_3_leave : MethodName := ⟨eh_R3, "leave", "(LEnclaveHouse$Hart;LEnclaveHouse$Fibre;III)V"⟩
def eM_3_leave : eh_M := (eh_R3, prog_5_method_4_code, 7, none, false)
def eY_3_read : MethodName := ⟨eh_R3, "read", "(II[II)V"⟩
def eM_3_read : eh_M := (eh_R3, prog_5_method_6_code, 7, none, false)
def eY_3_countOne : MethodName := ⟨eh_R3, "countOne", "(LEnclaveHouse$Fibre;)I"⟩
def eM_3_countOne : eh_M := (eh_R3, prog_5_method_16_code, 3, (some .int), false)
def eY_3_claim : MethodName := ⟨eh_R3, "claim", "(LEnclaveHouse$Fibre;Z)I"⟩
def eM_3_claim : eh_M := (eh_R3, prog_5_method_20_code, 3, (some .int), false)
def eY_4_dueInterrupt : MethodName := ⟨eh_R4, "dueInterrupt", "(LEnclaveHouse$Devices;)I"⟩
def eM_4_dueInterrupt : eh_M := (eh_R4, prog_6_method_4_code, 3, (some .int), false)
def eY_4_readControl : MethodName := ⟨eh_R4, "readControl", "(ILEnclaveHouse$Devices;)I"⟩
def eM_4_readControl : eh_M := (eh_R4, prog_6_method_9_code, 3, (some .int), false)
def eY_5_storeFor : MethodName := ⟨eh_R5, "storeFor", "(LEnclaveHouse$Fibre;III)V"⟩
def eM_5_storeFor : eh_M := (eh_R5, prog_7_method_14_code, 6, none, false)
def eY_5_survey : MethodName := ⟨eh_R5, "survey", "()J"⟩
def eM_5_survey : eh_M := (eh_R5, prog_7_method_21_code, 4, (some .long), false)
def eY_6_openByteAt : MethodName := ⟨eh_R6, "openByteAt", "(I)I"⟩
def eM_6_openByteAt : eh_M := (eh_R6, prog_8_method_5_code, 2, (some .int), false)
def eY_6_rightsAt : MethodName := ⟨eh_R6, "rightsAt", "(JI)I"⟩
def eM_6_rightsAt : eh_M := (eh_R6, prog_8_method_8_code, 5, (some .int), false)
def eY_6_entryOfEnclave : MethodName := ⟨eh_R6, "entryOfEnclave", "(III)I"⟩
def eM_6_entryOfEnclave : eh_M := (eh_R6, prog_8_method_26_code, 7, (some .int), false)
def eY_7_suffer : MethodName := ⟨eh_R7, "suffer", "()V"⟩
def eM_7_suffer : eh_M := (eh_R7, prog_9_method_5_code, 1, none, false)
def eY_7_jump : MethodName := ⟨eh_R7, "jump", "(II)V"⟩
def eM_7_jump : eh_M := (eh_R7, prog_9_method_14_code, 3, none, false)
def eY_7_branch : MethodName := ⟨eh_R7, "branch", "(I)V"⟩
def eM_7_branch : eh_M := (eh_R7, prog_9_method_16_code, 6, none, false)
def eY_7_reckonWithNumber : MethodName := ⟨eh_R7, "reckonWithNumber", "(I)V"⟩
def eM_7_reckonWithNumber : eh_M := (eh_R7, prog_9_method_21_code, 6, none, false)
def eY_7_reckonWithRegister : MethodName := ⟨eh_R7, "reckonWithRegister", "(I)V"⟩
def eM_7_reckonWithRegister : eh_M := (eh_R7, prog_9_method_22_code, 6, none, false)
def eY_9_feedWords : MethodName := ⟨eh_R9, "feedWords", "([II)V"⟩
def eM_9_feedWords : eh_M := (eh_R9, prog_11_method_6_code, 4, none, false)
def eY_9_beginKeyed : MethodName := ⟨eh_R9, "beginKeyed", "([I)V"⟩
def eM_9_beginKeyed : eh_M := (eh_R9, prog_11_method_8_code, 2, none, false)
def eY_9_endKeyed : MethodName := ⟨eh_R9, "endKeyed", "([I[I)V"⟩
def eM_9_endKeyed : eh_M := (eh_R9, prog_11_method_9_code, 3, none, false)
def eY_10_giveRegion : MethodName := ⟨eh_R10, "giveRegion", "(IIIII)I"⟩
def eM_10_giveRegion : eh_M := (eh_R10, prog_12_method_7_code, 7, (some .int), false)
def eY_10_load : MethodName := ⟨eh_R10, "load", "(III)I"⟩
def eM_10_load : eh_M := (eh_R10, prog_12_method_8_code, 8, (some .int), false)
def eY_10_resume : MethodName := ⟨eh_R10, "resume", "(LEnclaveHouse$Hart;II)I"⟩
def eM_10_resume : eh_M := (eh_R10, prog_12_method_13_code, 6, (some .int), false)
def eY_10_destroy : MethodName := ⟨eh_R10, "destroy", "(I)I"⟩
def eM_10_destroy : eh_M := (eh_R10, prog_12_method_15_code, 3, (some .int), false)
def eY_10_drop : MethodName := ⟨eh_R10, "drop", "(I)I"⟩
def eM_10_drop : eh_M := (eh_R10, prog_12_method_18_code, 2, (some .int), false)
def eY_11_poke : MethodName := ⟨eh_R11, "poke", "(IIIIII)I"⟩
def eM_11_poke : eh_M := (eh_R11, prog_1_method_3_code, 7, (some .int), false)
def eY_11_secret : MethodName := ⟨eh_R11, "secret", "(III)I"⟩
def eM_11_secret : eh_M := (eh_R11, prog_1_method_6_code, 6, (some .int), false)
def eY_11_setRegister : MethodName := ⟨eh_R11, "setRegister", "(III)I"⟩
def eM_11_setRegister : eh_M := (eh_R11, prog_1_method_7_code, 5, (some .int), false)
def eY_11_register : MethodName := ⟨eh_R11, "register", "(II)I"⟩
def eM_11_register : eh_M := (eh_R11, prog_1_method_8_code, 3, (some .int), false)
def eY_12_add : MethodName := ⟨eh_R12, "add", "(II)V"⟩
def eM_12_add : eh_M := (eh_R12, prog_14_method_3_code, 3, none, false)
def eY_12_isLet : MethodName := ⟨eh_R12, "isLet", "(IJII)Z"⟩
def eM_12_isLet : eh_M := (eh_R12, prog_14_method_26_code, 7, (some .boolean), false)
def eY_12_pending : MethodName := ⟨eh_R12, "pending", "(I)I"⟩
def eM_12_pending : eh_M := (eh_R12, prog_14_method_37_code, 3, (some .int), false)
def eY_12_isTaken : MethodName := ⟨eh_R12, "isTaken", "(III)Z"⟩
def eM_12_isTaken : eh_M := (eh_R12, prog_14_method_47_code, 3, (some .boolean), false)
def eY_12_immediate : MethodName := ⟨eh_R12, "immediate", "(IIIIIIII)V"⟩
def eM_12_immediate : eh_M := (eh_R12, prog_14_method_49_code, 9, none, false)
def eY_12_plain : MethodName := ⟨eh_R12, "plain", "(III)I"⟩
def eM_12_plain : eh_M := (eh_R12, prog_14_method_51_code, 3, (some .int), false)
def eY_12_joined : MethodName := ⟨eh_R12, "joined", "(III)I"⟩
def eM_12_joined : eh_M := (eh_R12, prog_14_method_54_code, 3, (some .int), false)
def eY_12_makeRegion : MethodName := ⟨eh_R12, "makeRegion", "(IIIII)I"⟩
def eM_12_makeRegion : eh_M := (eh_R12, prog_14_method_66_code, 7, (some .int), false)
def eY_12_drop : MethodName := ⟨eh_R12, "drop", "(I)V"⟩
def eM_12_drop : eh_M := (eh_R12, prog_14_method_67_code, 2, none, false)
def eY_12_writeTo : MethodName := ⟨eh_R12, "writeTo", "(II[BII)V"⟩
def eM_12_writeTo : eh_M := (eh_R12, prog_14_method_84_code, 7, none, false)
def eY_12_entry : MethodName := ⟨eh_R12, "entry", "(III)I"⟩
def eM_12_entry : eh_M := (eh_R12, prog_14_method_114_code, 4, (some .int), false)
def eY_12_outside : MethodName := ⟨eh_R12, "outside", "()J"⟩
def eM_12_outside : eh_M := (eh_R12, prog_14_method_122_code, 5, (some .long), false)
def eY_0_endRound : MethodName := ⟨eh_R0, "endRound", "(LEnclaveHouse$Memory;)V"⟩
def eM_0_endRound : eh_M := (eh_R0, prog_2_method_7_code, 3, none, false)
def eY_3_reaches : MethodName := ⟨eh_R3, "reaches", "(LEnclaveHouse$Fibre;III)Z"⟩
def eM_3_reaches : eh_M := (eh_R3, prog_5_method_5_code, 6, (some .boolean), false)
def eY_3_write : MethodName := ⟨eh_R3, "write", "(LEnclaveHouse$Fibre;I[II)V"⟩
def eM_3_write : eh_M := (eh_R3, prog_5_method_7_code, 6, none, false)
def eY_3_answerOfPath : MethodName := ⟨eh_R3, "answerOfPath", "(LEnclaveHouse$Fibre;II)I"⟩
def eM_3_answerOfPath : eh_M := (eh_R3, prog_5_method_19_code, 5, (some .int), false)
def eY_5_restart : MethodName := ⟨eh_R5, "restart", "(I)V"⟩
def eM_5_restart : eh_M := (eh_R5, prog_7_method_2_code, 3, none, false)
def eY_5_sealReport : MethodName := ⟨eh_R5, "sealReport", "([I)V"⟩
def eM_5_sealReport : eh_M := (eh_R5, prog_7_method_15_code, 2, none, false)
def eY_5_chain : MethodName := ⟨eh_R5, "chain", "(IIIII)V"⟩
def eM_5_chain : eh_M := (eh_R5, prog_7_method_19_code, 6, none, false)
def eY_7_isInterrupted : MethodName := ⟨eh_R7, "isInterrupted", "()Z"⟩
def eM_7_isInterrupted : eh_M := (eh_R7, prog_9_method_4_code, 2, (some .boolean), false)
def eY_7_jumpToRegister : MethodName := ⟨eh_R7, "jumpToRegister", "(I)V"⟩
def eM_7_jumpToRegister : eh_M := (eh_R7, prog_9_method_15_code, 2, none, false)
def eY_7_keep : MethodName := ⟨eh_R7, "keep", "(III)V"⟩
def eM_7_keep : eh_M := (eh_R7, prog_9_method_19_code, 4, none, false)
def eY_7_useControl : MethodName := ⟨eh_R7, "useControl", "(IIZ)V"⟩
def eM_7_useControl : eh_M := (eh_R7, prog_9_method_31_code, 11, none, false)
def eY_7_locate : MethodName := ⟨eh_R7, "locate", "(III)I"⟩
def eM_7_locate : eh_M := (eh_R7, prog_9_method_32_code, 6, (some .int), false)
def eY_10_create : MethodName := ⟨eh_R10, "create", "(II)I"⟩
def eM_10_create : eh_M := (eh_R10, prog_12_method_5_code, 5, (some .int), false)
def eY_10_makeFibre : MethodName := ⟨eh_R10, "makeFibre", "(III)I"⟩
def eM_10_makeFibre : eh_M := (eh_R10, prog_12_method_9_code, 7, (some .int), false)
def eY_10_finalise : MethodName := ⟨eh_R10, "finalise", "(II)I"⟩
def eM_10_finalise : eh_M := (eh_R10, prog_12_method_11_code, 3, (some .int), false)
def eY_10_enter : MethodName := ⟨eh_R10, "enter", "(LEnclaveHouse$Hart;III)I"⟩
def eM_10_enter : eh_M := (eh_R10, prog_12_method_12_code, 6, (some .int), false)
def eY_10_share : MethodName := ⟨eh_R10, "share", "(III)I"⟩
def eM_10_share : eh_M := (eh_R10, prog_12_method_16_code, 4, (some .int), false)
def eY_10_join : MethodName := ⟨eh_R10, "join", "(IIII)I"⟩
def eM_10_join : eh_M := (eh_R10, prog_12_method_17_code, 5, (some .int), false)
def eY_10_offer : MethodName := ⟨eh_R10, "offer", "(III)I"⟩
def eM_10_offer : eh_M := (eh_R10, prog_12_method_19_code, 4, (some .int), false)
def eY_11_control : MethodName := ⟨eh_R11, "control", "(II)I"⟩
def eM_11_control : eh_M := (eh_R11, prog_1_method_12_code, 3, (some .int), false)
def eY_11_entry : MethodName := ⟨eh_R11, "entry", "(III)I"⟩
def eM_11_entry : eh_M := (eh_R11, prog_1_method_21_code, 5, (some .int), false)
def eY_11_digest : MethodName := ⟨eh_R11, "digest", "(III)I"⟩
def eM_11_digest : eh_M := (eh_R11, prog_1_method_25_code, 6, (some .int), false)
def eY_11_outside : MethodName := ⟨eh_R11, "outside", "()J"⟩
def eM_11_outside : eh_M := (eh_R11, prog_1_method_27_code, 1, (some .long), false)
def eY_12_addNumber : MethodName := ⟨eh_R12, "addNumber", "(II)V"⟩
def eM_12_addNumber : eh_M := (eh_R12, prog_14_method_4_code, 4, none, false)
def eY_12_addBytes : MethodName := ⟨eh_R12, "addBytes", "(I[BII)V"⟩
def eM_12_addBytes : eh_M := (eh_R12, prog_14_method_5_code, 6, none, false)
def eY_12_finish : MethodName := ⟨eh_R12, "finish", "(I[BI)V"⟩
def eM_12_finish : eh_M := (eh_R12, prog_14_method_7_code, 7, none, false)
def eY_12_walk : MethodName := ⟨eh_R12, "walk", "(III)J"⟩
def eM_12_walk : eh_M := (eh_R12, prog_14_method_31_code, 9, (some .long), false)
def eY_12_sums : MethodName := ⟨eh_R12, "sums", "(IIIIIII)V"⟩
def eM_12_sums : eh_M := (eh_R12, prog_14_method_50_code, 8, none, false)
def eY_12_readRegister : MethodName := ⟨eh_R12, "readRegister", "(II)I"⟩
def eM_12_readRegister : eh_M := (eh_R12, prog_14_method_57_code, 3, (some .int), false)
def eY_12_destroy : MethodName := ⟨eh_R12, "destroy", "(I)I"⟩
def eM_12_destroy : eh_M := (eh_R12, prog_14_method_77_code, 3, (some .int), false)
def eY_12_share : MethodName := ⟨eh_R12, "share", "(IIII)I"⟩
def eM_12_share : eh_M := (eh_R12, prog_14_method_78_code, 5, (some .int), false)
def eY_12_link : MethodName := ⟨eh_R12, "link", "(IIII)I"⟩
def eM_12_link : eh_M := (eh_R12, prog_14_method_79_code, 5, (some .int), false)
def eY_12_canRead : MethodName := ⟨eh_R12, "canRead", "(III)Z"⟩
def eM_12_canRead : eh_M := (eh_R12, prog_14_method_82_code, 8, (some .boolean), false)
def eY_12_canWrite : MethodName := ⟨eh_R12, "canWrite", "(III)Z"⟩
def eM_12_canWrite : eh_M := (eh_R12, prog_14_method_83_code, 6, (some .boolean), false)
def eY_3_attest : MethodName := ⟨eh_R3, "attest", "(LEnclaveHouse$Fibre;II)I"⟩
def eM_3_attest : eh_M := (eh_R3, prog_5_method_8_code, 5, (some .int), false)
def eY_3_verify : MethodName := ⟨eh_R3, "verify", "(LEnclaveHouse$Fibre;I)I"⟩
def eM_3_verify : eh_M := (eh_R3, prog_5_method_9_code, 3, (some .int), false)
def eY_3_giveKey : MethodName := ⟨eh_R3, "giveKey", "(LEnclaveHouse$Fibre;II)I"⟩
def eM_3_giveKey : eh_M := (eh_R3, prog_5_method_10_code, 5, (some .int), false)
def eY_3_giveRandom : MethodName := ⟨eh_R3, "giveRandom", "(LEnclaveHouse$Fibre;II)I"⟩
def eM_3_giveRandom : eh_M := (eh_R3, prog_5_method_11_code, 6, (some .int), false)
def eY_3_giveDigest : MethodName := ⟨eh_R3, "giveDigest", "(LEnclaveHouse$Fibre;I[I)I"⟩
def eM_3_giveDigest : eh_M := (eh_R3, prog_5_method_12_code, 4, (some .int), false)
def eY_3_send : MethodName := ⟨eh_R3, "send", "(LEnclaveHouse$Fibre;II)I"⟩
def eM_3_send : eh_M := (eh_R3, prog_5_method_14_code, 6, (some .int), false)
def eY_3_receive : MethodName := ⟨eh_R3, "receive", "(LEnclaveHouse$Fibre;I)I"⟩
def eM_3_receive : eh_M := (eh_R3, prog_5_method_15_code, 5, (some .int), false)
def eY_3_extend : MethodName := ⟨eh_R3, "extend", "(LEnclaveHouse$Fibre;I)I"⟩
def eM_3_extend : eh_M := (eh_R3, prog_5_method_18_code, 4, (some .int), false)
def eY_7_load : MethodName := ⟨eh_R7, "load", "(I)V"⟩
def eM_7_load : eh_M := (eh_R7, prog_9_method_17_code, 6, none, false)
def eY_7_store : MethodName := ⟨eh_R7, "store", "(I)V"⟩
def eM_7_store : eh_M := (eh_R7, prog_9_method_18_code, 5, none, false)
def eY_7_reckonInMemory : MethodName := ⟨eh_R7, "reckonInMemory", "(I)V"⟩
def eM_7_reckonInMemory : eh_M := (eh_R7, prog_9_method_26_code, 8, none, false)
def eY_7_special : MethodName := ⟨eh_R7, "special", "(I)V"⟩
def eM_7_special : eh_M := (eh_R7, prog_9_method_28_code, 4, none, false)
def eY_10_answerOfEnclaves : MethodName := ⟨eh_R10, "answerOfEnclaves", "(LEnclaveHouse$Hart;IIIII)I"⟩
def eM_10_answerOfEnclaves : eh_M := (eh_R10, prog_12_method_3_code, 7, (some .int), false)
def eY_10_answerOfMachine : MethodName := ⟨eh_R10, "answerOfMachine", "(LEnclaveHouse$Hart;IIII)I"⟩
def eM_10_answerOfMachine : eh_M := (eh_R10, prog_12_method_4_code, 6, (some .int), false)
def eY_11_boot : MethodName := ⟨eh_R11, "boot", "(I)I"⟩
def eM_11_boot : eh_M := (eh_R11, prog_1_method_2_code, 3, (some .int), false)
def eY_11_genuine : MethodName := ⟨eh_R11, "genuine", "(I)Z"⟩
def eM_11_genuine : eh_M := (eh_R11, prog_1_method_26_code, 5, (some .boolean), false)
def eY_12_keyed : MethodName := ⟨eh_R12, "keyed", "([B)V"⟩
def eM_12_keyed : eh_M := (eh_R12, prog_14_method_10_code, 3, none, false)
def eY_12_locate : MethodName := ⟨eh_R12, "locate", "(IIII)I"⟩
def eM_12_locate : eh_M := (eh_R12, prog_14_method_30_code, 7, (some .int), false)
def eY_12_registers : MethodName := ⟨eh_R12, "registers", "(IIIIII)V"⟩
def eM_12_registers : eh_M := (eh_R12, prog_14_method_59_code, 12, none, false)
def eY_12_create : MethodName := ⟨eh_R12, "create", "(II)I"⟩
def eM_12_create : eh_M := (eh_R12, prog_14_method_70_code, 4, (some .int), false)
def eY_12_loadPage : MethodName := ⟨eh_R12, "loadPage", "(III)I"⟩
def eM_12_loadPage : eh_M := (eh_R12, prog_14_method_71_code, 5, (some .int), false)
def eY_12_makeThread : MethodName := ⟨eh_R12, "makeThread", "(III)I"⟩
def eM_12_makeThread : eh_M := (eh_R12, prog_14_method_73_code, 6, (some .int), false)
def eY_12_finalise : MethodName := ⟨eh_R12, "finalise", "(II)I"⟩
def eM_12_finalise : eh_M := (eh_R12, prog_14_method_74_code, 4, (some .int), false)
def eY_12_send : MethodName := ⟨eh_R12, "send", "(IIII)I"⟩
def eM_12_send : eh_M := (eh_R12, prog_14_method_89_code, 6, (some .int), false)
def eY_12_receive : MethodName := ⟨eh_R12, "receive", "(III)I"⟩
def eM_12_receive : eh_M := (eh_R12, prog_14_method_90_code, 4, (some .int), false)
def eY_12_control_2 : MethodName := ⟨eh_R12, "control", "(II)I"⟩
def eM_12_control_2 : eh_M := (eh_R12, prog_14_method_106_code, 3, (some .int), false)
def eY_12_digest : MethodName := ⟨eh_R12, "digest", "(III)I"⟩
def eM_12_digest : eh_M := (eh_R12, prog_14_method_119_code, 5, (some .int), false)
def eY_3_serve : MethodName := ⟨eh_R3, "serve", "(LEnclaveHouse$Hart;LEnclaveHouse$Fibre;)V"⟩
def eM_3_serve : eh_M := (eh_R3, prog_5_method_2_code, 6, none, false)
def eY_7_doOne : MethodName := ⟨eh_R7, "doOne", "()V"⟩
def eM_7_doOne : eh_M := (eh_R7, prog_9_method_8_code, 3, none, false)
def eY_10_serve : MethodName := ⟨eh_R10, "serve", "(LEnclaveHouse$Hart;IIIII)I"⟩
def eM_10_serve : eh_M := (eh_R10, prog_12_method_2_code, 9, (some .int), false)
def eY_12_mark : MethodName := ⟨eh_R12, "mark", "([B)V"⟩
def eM_12_mark : eh_M := (eh_R12, prog_14_method_11_code, 2, none, false)
def eY_12_boot : MethodName := ⟨eh_R12, "boot", "(I)I"⟩
def eM_12_boot : eh_M := (eh_R12, prog_14_method_15_code, 4, (some .int), false)
def eY_12_load : MethodName := ⟨eh_R12, "load", "(IIIZ)I"⟩
def eM_12_load : eh_M := (eh_R12, prog_14_method_33_code, 9, (some .int), false)
def eY_12_store : MethodName := ⟨eh_R12, "store", "(IIII)V"⟩
def eM_12_store : eh_M := (eh_R12, prog_14_method_34_code, 6, none, false)
def eY_12_asked : MethodName := ⟨eh_R12, "asked", "(IIIIII)I"⟩
def eM_12_asked : eh_M := (eh_R12, prog_14_method_69_code, 8, (some .int), false)
def eY_7_step : MethodName := ⟨eh_R7, "step", "(I)V"⟩
def eM_7_step : eh_M := (eh_R7, prog_9_method_2_code, 3, none, false)
def eY_11_call : MethodName := ⟨eh_R11, "call", "(IIIIII)I"⟩
def eM_11_call : eh_M := (eh_R11, prog_1_method_13_code, 7, (some .int), false)
def eY_12_isReport : MethodName := ⟨eh_R12, "isReport", "([B)Z"⟩
def eM_12_isReport : eh_M := (eh_R12, prog_14_method_12_code, 4, (some .boolean), false)
def eY_12_loads : MethodName := ⟨eh_R12, "loads", "(IIIII)V"⟩
def eM_12_loads : eh_M := (eh_R12, prog_14_method_48_code, 7, none, false)
def eY_12_atomic : MethodName := ⟨eh_R12, "atomic", "(IIIIIIII)V"⟩
def eM_12_atomic : eh_M := (eh_R12, prog_14_method_53_code, 13, none, false)
def eY_12_systemCall : MethodName := ⟨eh_R12, "systemCall", "(IIIIII)I"⟩
def eM_12_systemCall : eh_M := (eh_R12, prog_14_method_68_code, 8, (some .int), false)
def eY_12_attest : MethodName := ⟨eh_R12, "attest", "(IIII)I"⟩
def eM_12_attest : eh_M := (eh_R12, prog_14_method_87_code, 6, (some .int), false)
def eY_11_run : MethodName := ⟨eh_R11, "run", "(I)I"⟩
def eM_11_run : eh_M := (eh_R11, prog_1_method_14_code, 4, (some .int), false)
def eY_12_answered : MethodName := ⟨eh_R12, "answered", "(IIIIII)I"⟩
def eM_12_answered : eh_M := (eh_R12, prog_14_method_86_code, 7, (some .int), false)
def eY_12_call : MethodName := ⟨eh_R12, "call", "(IIIIII)I"⟩
def eM_12_call : eh_M := (eh_R12, prog_14_method_107_code, 7, (some .int), false)
def eY_12_genuine : MethodName := ⟨eh_R12, "genuine", "(I)Z"⟩
def eM_12_genuine : eh_M := (eh_R12, prog_14_method_120_code, 3, (some .boolean), false)
def eY_12_threadCall : MethodName := ⟨eh_R12, "threadCall", "(II)V"⟩
def eM_12_threadCall : eh_M := (eh_R12, prog_14_method_85_code, 8, none, false)
def eY_12_calls : MethodName := ⟨eh_R12, "calls", "(II)V"⟩
def eM_12_calls : eh_M := (eh_R12, prog_14_method_60_code, 4, none, false)
def eY_12_control : MethodName := ⟨eh_R12, "control", "(IIIIII)V"⟩
def eM_12_control : eh_M := (eh_R12, prog_14_method_55_code, 10, none, false)
def eY_12_execute : MethodName := ⟨eh_R12, "execute", "(III)V"⟩
def eM_12_execute : eh_M := (eh_R12, prog_14_method_46_code, 13, none, false)
def eY_12_step : MethodName := ⟨eh_R12, "step", "(I)V"⟩
def eM_12_step : eh_M := (eh_R12, prog_14_method_41_code, 6, none, false)
def eY_12_run_2 : MethodName := ⟨eh_R12, "run", "(I)I"⟩
def eM_12_run_2 : eh_M := (eh_R12, prog_14_method_93_code, 3, (some .int), false)
theorem eh_acN : Cond.native arraycopyName ∈ eh_tb := eh_k2 192 rfl rfl
theorem eh_acS : Cond.static arraycopyName ∈ eh_tb := eh_k2 191 rfl rfl
theorem eh_acI : Cond.initialized "java/lang/System" ∈ eh_tb := eh_k1 10 rfl rfl
theorem eh_mmaxS : Cond.static Lib.Math.max.name ∈ eh_tb := eh_k9 54 rfl rfl
theorem eh_mmaxC : Cond.code Lib.Math.max.name Lib.Math.max.code 2 (some .int) ∈ eh_tb := eh_k9 55 rfl rfl
theorem eh_mminS : Cond.static Lib.Math.min.name ∈ eh_tb := eh_k9 51 rfl rfl
theorem eh_mminC : Cond.code Lib.Math.min.name Lib.Math.min.code 2 (some .int) ∈ eh_tb := eh_k9 52 rfl rfl
theorem eh_mI : Cond.initialized "java/lang/Math" ∈ eh_tb := eh_k1 17 rfl rfl
theorem eV_0_wantsTheSystem : eh_MV eY_0_wantsTheSystem eM_0_wantsTheSystem 0 0 := ⟨⟨rfl, by decide, eh_k4 75 rfl rfl, eh_k1 4 rfl rfl, ⟨by decide, by decide, by decide +kernel⟩, (fun h => by cases h), by decide⟩, ⟨eh_k4 73 rfl rfl, eh_k4 74 rfl rfl⟩, ⟨_, _, rfl⟩, by decide⟩
theorem eV_0_ask : eh_MV eY_0_ask eM_0_ask 3 0 := ⟨⟨rfl, by decide, eh_k5 9 rfl rfl, eh_k1 4 rfl rfl, ⟨by decide, by decide, by decide +kernel⟩, (fun h => by cases h), by decide⟩, ⟨eh_k5 7 rfl rfl, eh_k5 8 rfl rfl⟩, ⟨_, _, rfl⟩, by decide⟩
theorem eV_0_tell : eh_MV eY_0_tell eM_0_tell 0 0 := ⟨⟨rfl, by decide, eh_k5 13 rfl rfl, eh_k1 4 rfl rfl, ⟨by decide, by decide, by decide +kernel⟩, (fun h => by cases h), by decide⟩, ⟨eh_k5 11 rfl rfl, eh_k5 12 rfl rfl⟩, ⟨_, _, rfl⟩, by decide⟩
theorem eV_0_dropFirst : eh_MV eY_0_dropFirst eM_0_dropFirst 0 0 := ⟨⟨rfl, by decide, eh_k6 150 rfl rfl, eh_k1 4 rfl rfl, ⟨by decide, by decide, by decide +kernel⟩, (fun h => by cases h), by decide⟩, ⟨eh_k6 149 rfl rfl, eh_q5 12 rfl⟩, ⟨_, _, rfl⟩, by decide⟩
theorem eV_0_swapDiskByte : eh_MV eY_0_swapDiskByte eM_0_swapDiskByte 2 0 := ⟨⟨rfl, by decide, eh_k6 215 rfl rfl, eh_k1 4 rfl rfl, ⟨by decide, by decide, by decide +kernel⟩, (fun h => by cases h), by decide⟩, ⟨eh_k6 213 rfl rfl, eh_k6 214 rfl rfl⟩, ⟨_, _, rfl⟩, by decide⟩
theorem eV_2_handle : eh_MV eY_2_handle eM_2_handle 1 2 := ⟨⟨rfl, by decide, eh_k6 17 rfl rfl, eh_k1 8 rfl rfl, ⟨by decide, by decide, by decide +kernel⟩, (fun h => by cases h), by decide⟩, ⟨eh_k6 15 rfl rfl, eh_k6 16 rfl rfl⟩, ⟨_, _, rfl⟩, by decide⟩
theorem eV_2_goBack : eh_MV eY_2_goBack eM_2_goBack 1 2 := ⟨⟨rfl, by decide, eh_k6 32 rfl rfl, eh_k1 8 rfl rfl, ⟨by decide, by decide, by decide +kernel⟩, (fun h => by cases h), by decide⟩, ⟨eh_k6 30 rfl rfl, eh_k6 31 rfl rfl⟩, ⟨_, _, rfl⟩, by decide⟩
theorem eV_3_goOn : eh_MS eY_3_goOn eM_3_goOn 2 := ⟨⟨rfl, by decide, eh_k6 35 rfl rfl, eh_k1 14 rfl rfl, ⟨by decide, by decide, by decide +kernel⟩, (fun h => by cases h), by decide⟩, eh_k6 34 rfl rfl⟩
theorem eV_3_setHandler : eh_MV eY_3_setHandler eM_3_setHandler 2 3 := ⟨⟨rfl, by decide, eh_k6 117 rfl rfl, eh_k1 14 rfl rfl, ⟨by decide, by decide, by decide +kernel⟩, (fun h => by cases h), by decide⟩, ⟨eh_k6 116 rfl rfl, eh_q5 7 rfl⟩, ⟨_, _, rfl⟩, by decide⟩
theorem eV_4_trap : eh_MV eY_4_trap eM_4_trap 2 4 := ⟨⟨rfl, by decide, eh_k5 82 rfl rfl, eh_k1 7 rfl rfl, ⟨by decide, by decide, by decide +kernel⟩, (fun h => by cases h), by decide⟩, ⟨eh_k5 80 rfl rfl, eh_k5 81 rfl rfl⟩, ⟨_, _, rfl⟩, by decide⟩
theorem eV_4_leaveTrap : eh_MV eY_4_leaveTrap eM_4_leaveTrap 0 4 := ⟨⟨rfl, by decide, eh_k6 9 rfl rfl, eh_k1 7 rfl rfl, ⟨by decide, by decide, by decide +kernel⟩, (fun h => by cases h), by decide⟩, ⟨eh_k6 7 rfl rfl, eh_k6 8 rfl rfl⟩, ⟨_, _, rfl⟩, by decide⟩
theorem eV_4_raiseSignal : eh_MV eY_4_raiseSignal eM_4_raiseSignal 0 4 := ⟨⟨rfl, by decide, eh_k5 0 rfl rfl, eh_k1 7 rfl rfl, ⟨by decide, by decide, by decide +kernel⟩, (fun h => by cases h), by decide⟩, ⟨eh_k4 238 rfl rfl, eh_k4 239 rfl rfl⟩, ⟨_, _, rfl⟩, by decide⟩
theorem eV_4_maySystemUse : eh_MS eY_4_maySystemUse eM_4_maySystemUse 2 := ⟨⟨rfl, by decide, eh_k4 49 rfl rfl, eh_k1 7 rfl rfl, ⟨by decide, by decide, by decide +kernel⟩, (fun h => by cases h), by decide⟩, eh_k4 48 rfl rfl⟩
theorem eV_4_writeControl : eh_MV eY_4_writeControl eM_4_writeControl 2 4 := ⟨⟨rfl, by decide, eh_k4 53 rfl rfl, eh_k1 7 rfl rfl, ⟨by decide, by decide, by decide +kernel⟩, (fun h => by cases h), by decide⟩, ⟨eh_k4 51 rfl rfl, eh_k4 52 rfl rfl⟩, ⟨_, _, rfl⟩, by decide⟩
theorem eV_5_hasEnclave : eh_MV eY_5_hasEnclave eM_5_hasEnclave 1 5 := ⟨⟨rfl, by decide, eh_k4 1 rfl rfl, eh_k1 2 rfl rfl, ⟨by decide, by decide, by decide +kernel⟩, (fun h => by cases h), by decide⟩, ⟨eh_k3 239 rfl rfl, eh_k4 0 rfl rfl⟩, ⟨_, _, rfl⟩, by decide⟩
theorem eV_5_hasFibre : eh_MV eY_5_hasFibre eM_5_hasFibre 1 5 := ⟨⟨rfl, by decide, eh_k4 38 rfl rfl, eh_k1 2 rfl rfl, ⟨by decide, by decide, by decide +kernel⟩, (fun h => by cases h), by decide⟩, ⟨eh_k4 36 rfl rfl, eh_k4 37 rfl rfl⟩, ⟨_, _, rfl⟩, by decide⟩
theorem eV_5_hasRegion : eh_MV eY_5_hasRegion eM_5_hasRegion 1 5 := ⟨⟨rfl, by decide, eh_k4 220 rfl rfl, eh_k1 2 rfl rfl, ⟨by decide, by decide, by decide +kernel⟩, (fun h => by cases h), by decide⟩, ⟨eh_k4 218 rfl rfl, eh_k4 219 rfl rfl⟩, ⟨_, _, rfl⟩, by decide⟩
theorem eV_5_baseOf : eh_MV eY_5_baseOf eM_5_baseOf 1 5 := ⟨⟨rfl, by decide, eh_k4 9 rfl rfl, eh_k1 2 rfl rfl, ⟨by decide, by decide, by decide +kernel⟩, (fun h => by cases h), by decide⟩, ⟨eh_k4 7 rfl rfl, eh_k4 8 rfl rfl⟩, ⟨_, _, rfl⟩, by decide⟩
theorem eV_5_sizeOf : eh_MV eY_5_sizeOf eM_5_sizeOf 1 5 := ⟨⟨rfl, by decide, eh_k4 5 rfl rfl, eh_k1 2 rfl rfl, ⟨by decide, by decide, by decide +kernel⟩, (fun h => by cases h), by decide⟩, ⟨eh_k4 3 rfl rfl, eh_k4 4 rfl rfl⟩, ⟨_, _, rfl⟩, by decide⟩
theorem eV_5_enclaveCount : eh_MV eY_5_enclaveCount eM_5_enclaveCount 0 5 := ⟨⟨rfl, by decide, eh_k3 196 rfl rfl, eh_k1 2 rfl rfl, ⟨by decide, by decide, by decide +kernel⟩, (fun h => by cases h), by decide⟩, ⟨eh_k3 194 rfl rfl, eh_k3 195 rfl rfl⟩, ⟨_, _, rfl⟩, by decide⟩
theorem eV_5_fibreCount : eh_MV eY_5_fibreCount eM_5_fibreCount 0 5 := ⟨⟨rfl, by decide, eh_k7 46 rfl rfl, eh_k1 2 rfl rfl, ⟨by decide, by decide, by decide +kernel⟩, (fun h => by cases h), by decide⟩, ⟨eh_k7 44 rfl rfl, eh_k7 45 rfl rfl⟩, ⟨_, _, rfl⟩, by decide⟩
theorem eV_5_note : eh_MV eY_5_note eM_5_note 5 5 := ⟨⟨rfl, by decide, eh_k5 188 rfl rfl, eh_k1 2 rfl rfl, ⟨by decide, by decide, by decide +kernel⟩, (fun h => by cases h), by decide⟩, ⟨eh_k5 186 rfl rfl, eh_k5 187 rfl rfl⟩, ⟨_, _, rfl⟩, by decide⟩
theorem eV_5_eventPart : eh_MV eY_5_eventPart eM_5_eventPart 2 5 := ⟨⟨rfl, by decide, eh_k6 203 rfl rfl, eh_k1 2 rfl rfl, ⟨by decide, by decide, by decide +kernel⟩, (fun h => by cases h), by decide⟩, ⟨eh_k6 201 rfl rfl, eh_k6 202 rfl rfl⟩, ⟨_, _, rfl⟩, by decide⟩
theorem eV_5_bears : eh_MV eY_5_bears eM_5_bears 1 5 := ⟨⟨rfl, by decide, eh_k6 80 rfl rfl, eh_k1 2 rfl rfl, ⟨by decide, by decide, by decide +kernel⟩, (fun h => by cases h), by decide⟩, ⟨eh_k6 78 rfl rfl, eh_k6 79 rfl rfl⟩, ⟨_, _, rfl⟩, by decide⟩
theorem eV_5_isCounted : eh_MV eY_5_isCounted eM_5_isCounted 2 5 := ⟨⟨rfl, by decide, eh_k6 112 rfl rfl, eh_k1 2 rfl rfl, ⟨by decide, by decide, by decide +kernel⟩, (fun h => by cases h), by decide⟩, ⟨eh_k6 111 rfl rfl, eh_q5 6 rfl⟩, ⟨_, _, rfl⟩, by decide⟩
theorem eV_5_mix : eh_MS eY_5_mix eM_5_mix 2 := ⟨⟨rfl, by decide, eh_k7 13 rfl rfl, eh_k1 2 rfl rfl, ⟨by decide, by decide, by decide +kernel⟩, (fun h => by cases h), by decide⟩, eh_k7 12 rfl rfl⟩
theorem eV_6_wordAt : eh_MV eY_6_wordAt eM_6_wordAt 1 6 := ⟨⟨rfl, by decide, eh_k3 229 rfl rfl, eh_k1 3 rfl rfl, ⟨by decide, by decide, by decide +kernel⟩, (fun h => by cases h), by decide⟩, ⟨eh_k3 227 rfl rfl, eh_k3 228 rfl rfl⟩, ⟨_, _, rfl⟩, by decide⟩
theorem eV_6_isOpen : eh_MV eY_6_isOpen eM_6_isOpen 1 6 := ⟨⟨rfl, by decide, eh_k3 210 rfl rfl, eh_k1 3 rfl rfl, ⟨by decide, by decide, by decide +kernel⟩, (fun h => by cases h), by decide⟩, ⟨eh_k3 208 rfl rfl, eh_k3 209 rfl rfl⟩, ⟨_, _, rfl⟩, by decide⟩
theorem eV_6_sideOf : eh_MV eY_6_sideOf eM_6_sideOf 2 6 := ⟨⟨rfl, by decide, eh_k4 195 rfl rfl, eh_k1 3 rfl rfl, ⟨by decide, by decide, by decide +kernel⟩, (fun h => by cases h), by decide⟩, ⟨eh_k4 193 rfl rfl, eh_k4 194 rfl rfl⟩, ⟨_, _, rfl⟩, by decide⟩
theorem eV_6_tellsOfStores : eh_MV eY_6_tellsOfStores eM_6_tellsOfStores 1 6 := ⟨⟨rfl, by decide, eh_k5 183 rfl rfl, eh_k1 3 rfl rfl, ⟨by decide, by decide, by decide +kernel⟩, (fun h => by cases h), by decide⟩, ⟨eh_k5 181 rfl rfl, eh_k5 182 rfl rfl⟩, ⟨_, _, rfl⟩, by decide⟩
theorem eV_6_change : eh_MV eY_6_change eM_6_change 3 6 := ⟨⟨rfl, by decide, eh_k3 219 rfl rfl, eh_k1 3 rfl rfl, ⟨by decide, by decide, by decide +kernel⟩, (fun h => by cases h), by decide⟩, ⟨eh_k3 217 rfl rfl, eh_k3 218 rfl rfl⟩, ⟨_, _, rfl⟩, by decide⟩
theorem eV_6_wipe : eh_MV eY_6_wipe eM_6_wipe 2 6 := ⟨⟨rfl, by decide, eh_k4 118 rfl rfl, eh_k1 3 rfl rfl, ⟨by decide, by decide, by decide +kernel⟩, (fun h => by cases h), by decide⟩, ⟨eh_k4 116 rfl rfl, eh_k4 117 rfl rfl⟩, ⟨_, _, rfl⟩, by decide⟩
theorem eV_6_reserve : eh_MV eY_6_reserve eM_6_reserve 2 6 := ⟨⟨rfl, by decide, eh_k5 218 rfl rfl, eh_k1 3 rfl rfl, ⟨by decide, by decide, by decide +kernel⟩, (fun h => by cases h), by decide⟩, ⟨eh_k5 216 rfl rfl, eh_k5 217 rfl rfl⟩, ⟨_, _, rfl⟩, by decide⟩
theorem eV_6_unreserve : eh_MV eY_6_unreserve eM_6_unreserve 1 6 := ⟨⟨rfl, by decide, eh_k4 179 rfl rfl, eh_k1 3 rfl rfl, ⟨by decide, by decide, by decide +kernel⟩, (fun h => by cases h), by decide⟩, ⟨eh_k4 177 rfl rfl, eh_k4 178 rfl rfl⟩, ⟨_, _, rfl⟩, by decide⟩
theorem eV_6_isReserved : eh_MV eY_6_isReserved eM_6_isReserved 2 6 := ⟨⟨rfl, by decide, eh_k5 222 rfl rfl, eh_k1 3 rfl rfl, ⟨by decide, by decide, by decide +kernel⟩, (fun h => by cases h), by decide⟩, ⟨eh_k5 220 rfl rfl, eh_k5 221 rfl rfl⟩, ⟨_, _, rfl⟩, by decide⟩
theorem eV_6_isSpan : eh_MS eY_6_isSpan eM_6_isSpan 2 := ⟨⟨rfl, by decide, eh_k4 94 rfl rfl, eh_k1 3 rfl rfl, ⟨by decide, by decide, by decide +kernel⟩, (fun h => by cases h), by decide⟩, eh_k4 93 rfl rfl⟩
theorem eV_6_overlaps : eh_MV eY_6_overlaps eM_6_overlaps 2 6 := ⟨⟨rfl, by decide, eh_k4 98 rfl rfl, eh_k1 3 rfl rfl, ⟨by decide, by decide, by decide +kernel⟩, (fun h => by cases h), by decide⟩, ⟨eh_k4 96 rfl rfl, eh_k4 97 rfl rfl⟩, ⟨_, _, rfl⟩, by decide⟩
theorem eV_6_leastFreeRegion : eh_MV eY_6_leastFreeRegion eM_6_leastFreeRegion 0 6 := ⟨⟨rfl, by decide, eh_k4 106 rfl rfl, eh_k1 3 rfl rfl, ⟨by decide, by decide, by decide +kernel⟩, (fun h => by cases h), by decide⟩, ⟨eh_k4 104 rfl rfl, eh_k4 105 rfl rfl⟩, ⟨_, _, rfl⟩, by decide⟩
theorem eV_6_regionCount : eh_MV eY_6_regionCount eM_6_regionCount 0 6 := ⟨⟨rfl, by decide, eh_k7 42 rfl rfl, eh_k1 3 rfl rfl, ⟨by decide, by decide, by decide +kernel⟩, (fun h => by cases h), by decide⟩, ⟨eh_k7 40 rfl rfl, eh_k7 41 rfl rfl⟩, ⟨_, _, rfl⟩, by decide⟩
theorem eV_6_markPages : eh_MV eY_6_markPages eM_6_markPages 2 6 := ⟨⟨rfl, by decide, eh_k4 114 rfl rfl, eh_k1 3 rfl rfl, ⟨by decide, by decide, by decide +kernel⟩, (fun h => by cases h), by decide⟩, ⟨eh_k4 113 rfl rfl, eh_q1 7 rfl⟩, ⟨_, _, rfl⟩, by decide⟩
theorem eV_6_entryPart : eh_MV eY_6_entryPart eM_6_entryPart 3 6 := ⟨⟨rfl, by decide, eh_k6 191 rfl rfl, eh_k1 3 rfl rfl, ⟨by decide, by decide, by decide +kernel⟩, (fun h => by cases h), by decide⟩, ⟨eh_k6 190 rfl rfl, eh_q5 13 rfl⟩, ⟨_, _, rfl⟩, by decide⟩
theorem eV_7_fail : eh_MV eY_7_fail eM_7_fail 2 7 := ⟨⟨rfl, by decide, eh_k5 94 rfl rfl, eh_k1 13 rfl rfl, ⟨by decide, by decide, by decide +kernel⟩, (fun h => by cases h), by decide⟩, ⟨eh_k5 93 rfl rfl, eh_q3 2 rfl⟩, ⟨_, _, rfl⟩, by decide⟩
theorem eV_7_put : eh_MV eY_7_put eM_7_put 2 7 := ⟨⟨rfl, by decide, eh_k5 129 rfl rfl, eh_k1 13 rfl rfl, ⟨by decide, by decide, by decide +kernel⟩, (fun h => by cases h), by decide⟩, ⟨eh_k5 128 rfl rfl, eh_q3 6 rfl⟩, ⟨_, _, rfl⟩, by decide⟩
theorem eV_7_offsetJ : eh_MS eY_7_offsetJ eM_7_offsetJ 1 := ⟨⟨rfl, by decide, eh_k5 132 rfl rfl, eh_k1 13 rfl rfl, ⟨by decide, by decide, by decide +kernel⟩, (fun h => by cases h), by decide⟩, eh_k5 131 rfl rfl⟩
theorem eV_7_offsetB : eh_MS eY_7_offsetB eM_7_offsetB 1 := ⟨⟨rfl, by decide, eh_k5 161 rfl rfl, eh_k1 13 rfl rfl, ⟨by decide, by decide, by decide +kernel⟩, (fun h => by cases h), by decide⟩, eh_k5 160 rfl rfl⟩
theorem eV_7_leftOf : eh_MV eY_7_leftOf eM_7_leftOf 1 7 := ⟨⟨rfl, by decide, eh_k5 149 rfl rfl, eh_k1 13 rfl rfl, ⟨by decide, by decide, by decide +kernel⟩, (fun h => by cases h), by decide⟩, ⟨eh_k5 148 rfl rfl, eh_q3 10 rfl⟩, ⟨_, _, rfl⟩, by decide⟩
theorem eV_7_rightOf : eh_MV eY_7_rightOf eM_7_rightOf 1 7 := ⟨⟨rfl, by decide, eh_k5 157 rfl rfl, eh_k1 13 rfl rfl, ⟨by decide, by decide, by decide +kernel⟩, (fun h => by cases h), by decide⟩, ⟨eh_k5 156 rfl rfl, eh_q3 12 rfl⟩, ⟨_, _, rfl⟩, by decide⟩
theorem eV_7_multiplied : eh_MS eY_7_multiplied eM_7_multiplied 3 := ⟨⟨rfl, by decide, eh_k5 207 rfl rfl, eh_k1 13 rfl rfl, ⟨by decide, by decide, by decide +kernel⟩, (fun h => by cases h), by decide⟩, eh_k5 206 rfl rfl⟩
theorem eV_7_divided : eh_MS eY_7_divided eM_7_divided 3 := ⟨⟨rfl, by decide, eh_k5 210 rfl rfl, eh_k1 13 rfl rfl, ⟨by decide, by decide, by decide +kernel⟩, (fun h => by cases h), by decide⟩, eh_k5 209 rfl rfl⟩
theorem eV_7_allows : eh_MV eY_7_allows eM_7_allows 2 7 := ⟨⟨rfl, by decide, eh_k5 111 rfl rfl, eh_k1 13 rfl rfl, ⟨by decide, by decide, by decide +kernel⟩, (fun h => by cases h), by decide⟩, ⟨eh_k5 110 rfl rfl, eh_q3 4 rfl⟩, ⟨_, _, rfl⟩, by decide⟩
theorem eV_7_accessFault : eh_MS eY_7_accessFault eM_7_accessFault 1 := ⟨⟨rfl, by decide, eh_k5 104 rfl rfl, eh_k1 13 rfl rfl, ⟨by decide, by decide, by decide +kernel⟩, (fun h => by cases h), by decide⟩, eh_k5 103 rfl rfl⟩
theorem eV_7_pageFault : eh_MS eY_7_pageFault eM_7_pageFault 1 := ⟨⟨rfl, by decide, eh_k5 116 rfl rfl, eh_k1 13 rfl rfl, ⟨by decide, by decide, by decide +kernel⟩, (fun h => by cases h), by decide⟩, eh_k5 115 rfl rfl⟩
theorem eV_8_clear : eh_MV eY_8_clear eM_8_clear 0 8 := ⟨⟨rfl, by decide, eh_k2 233 rfl rfl, eh_k1 5 rfl rfl, ⟨by decide, by decide, by decide +kernel⟩, (fun h => by cases h), by decide⟩, ⟨eh_k2 231 rfl rfl, eh_k2 232 rfl rfl⟩, ⟨_, _, rfl⟩, by decide⟩
theorem eV_8_add : eh_MV eY_8_add eM_8_add 1 8 := ⟨⟨rfl, by decide, eh_k4 232 rfl rfl, eh_k1 5 rfl rfl, ⟨by decide, by decide, by decide +kernel⟩, (fun h => by cases h), by decide⟩, ⟨eh_k4 230 rfl rfl, eh_k4 231 rfl rfl⟩, ⟨_, _, rfl⟩, by decide⟩
theorem eV_8_takeFirst : eh_MV eY_8_takeFirst eM_8_takeFirst 1 8 := ⟨⟨rfl, by decide, eh_k5 38 rfl rfl, eh_k1 5 rfl rfl, ⟨by decide, by decide, by decide +kernel⟩, (fun h => by cases h), by decide⟩, ⟨eh_k5 36 rfl rfl, eh_k5 37 rfl rfl⟩, ⟨_, _, rfl⟩, by decide⟩
theorem eV_8_at : eh_MV eY_8_at eM_8_at 1 8 := ⟨⟨rfl, by decide, eh_k6 163 rfl rfl, eh_k1 5 rfl rfl, ⟨by decide, by decide, by decide +kernel⟩, (fun h => by cases h), by decide⟩, ⟨eh_k6 161 rfl rfl, eh_k6 162 rfl rfl⟩, ⟨_, _, rfl⟩, by decide⟩
theorem eV_9_begin : eh_MV eY_9_begin eM_9_begin 0 9 := ⟨⟨rfl, by decide, eh_k2 187 rfl rfl, eh_k1 6 rfl rfl, ⟨by decide, by decide, by decide +kernel⟩, (fun h => by cases h), by decide⟩, ⟨eh_k2 185 rfl rfl, eh_k2 186 rfl rfl⟩, ⟨_, _, rfl⟩, by decide⟩
theorem eV_9_clearBlockFrom : eh_MV eY_9_clearBlockFrom eM_9_clearBlockFrom 1 9 := ⟨⟨rfl, by decide, eh_k2 214 rfl rfl, eh_k1 6 rfl rfl, ⟨by decide, by decide, by decide +kernel⟩, (fun h => by cases h), by decide⟩, ⟨eh_k2 213 rfl rfl, eh_q1 1 rfl⟩, ⟨_, _, rfl⟩, by decide⟩
theorem eV_9_compress : eh_MV eY_9_compress eM_9_compress 0 9 := ⟨⟨rfl, by decide, eh_k2 204 rfl rfl, eh_k1 6 rfl rfl, ⟨by decide, by decide, by decide +kernel⟩, (fun h => by cases h), by decide⟩, ⟨eh_k2 203 rfl rfl, eh_q1 0 rfl⟩, ⟨_, _, rfl⟩, by decide⟩
theorem eV_9_flip : eh_MS eY_9_flip eM_9_flip 1 := ⟨⟨rfl, by decide, eh_k2 199 rfl rfl, eh_k1 6 rfl rfl, ⟨by decide, by decide, by decide +kernel⟩, (fun h => by cases h), by decide⟩, eh_k2 198 rfl rfl⟩
theorem eV_10_leastFreeEnclave : eh_MV eY_10_leastFreeEnclave eM_10_leastFreeEnclave 0 10 := ⟨⟨rfl, by decide, eh_k4 102 rfl rfl, eh_k1 12 rfl rfl, ⟨by decide, by decide, by decide +kernel⟩, (fun h => by cases h), by decide⟩, ⟨eh_k4 101 rfl rfl, eh_q1 6 rfl⟩, ⟨_, _, rfl⟩, by decide⟩
theorem eV_10_leastFreeFibre : eh_MV eY_10_leastFreeFibre eM_10_leastFreeFibre 0 10 := ⟨⟨rfl, by decide, eh_k4 143 rfl rfl, eh_k1 12 rfl rfl, ⟨by decide, by decide, by decide +kernel⟩, (fun h => by cases h), by decide⟩, ⟨eh_k4 142 rfl rfl, eh_q1 10 rfl⟩, ⟨_, _, rfl⟩, by decide⟩
theorem eV_10_goOff : eh_MV eY_10_goOff eM_10_goOff 0 10 := ⟨⟨rfl, by decide, eh_k5 25 rfl rfl, eh_k1 12 rfl rfl, ⟨by decide, by decide, by decide +kernel⟩, (fun h => by cases h), by decide⟩, ⟨eh_k5 24 rfl rfl, eh_q2 11 rfl⟩, ⟨_, _, rfl⟩, by decide⟩
theorem eV_10_setSlice : eh_MV eY_10_setSlice eM_10_setSlice 2 10 := ⟨⟨rfl, by decide, eh_k5 29 rfl rfl, eh_k1 12 rfl rfl, ⟨by decide, by decide, by decide +kernel⟩, (fun h => by cases h), by decide⟩, ⟨eh_k5 28 rfl rfl, eh_q2 12 rfl⟩, ⟨_, _, rfl⟩, by decide⟩
theorem eV_11_line : eh_MV eY_11_line eM_11_line 1 11 := ⟨⟨rfl, by decide, eh_k6 167 rfl rfl, eh_k1 1 rfl rfl, ⟨by decide, by decide, by decide +kernel⟩, (fun h => by cases h), by decide⟩, ⟨eh_k6 165 rfl rfl, eh_k6 166 rfl rfl⟩, ⟨_, _, rfl⟩, by decide⟩
theorem eV_11_thread : eh_MV eY_11_thread eM_11_thread 2 11 := ⟨⟨rfl, by decide, eh_k6 175 rfl rfl, eh_k1 1 rfl rfl, ⟨by decide, by decide, by decide +kernel⟩, (fun h => by cases h), by decide⟩, ⟨eh_k6 173 rfl rfl, eh_k6 174 rfl rfl⟩, ⟨_, _, rfl⟩, by decide⟩
theorem eV_11_region : eh_MV eY_11_region eM_11_region 2 11 := ⟨⟨rfl, by decide, eh_k6 179 rfl rfl, eh_k1 1 rfl rfl, ⟨by decide, by decide, by decide +kernel⟩, (fun h => by cases h), by decide⟩, ⟨eh_k6 177 rfl rfl, eh_k6 178 rfl rfl⟩, ⟨_, _, rfl⟩, by decide⟩
theorem eV_11_countOfHart : eh_MV eY_11_countOfHart eM_11_countOfHart 1 11 := ⟨⟨rfl, by decide, eh_k7 50 rfl rfl, eh_k1 1 rfl rfl, ⟨by decide, by decide, by decide +kernel⟩, (fun h => by cases h), by decide⟩, ⟨eh_k7 49 rfl rfl, eh_q5 14 rfl⟩, ⟨_, _, rfl⟩, by decide⟩
theorem eV_11_isHart : eh_MS eY_11_isHart eM_11_isHart 1 := ⟨⟨rfl, by decide, eh_k4 26 rfl rfl, eh_k1 1 rfl rfl, ⟨by decide, by decide, by decide +kernel⟩, (fun h => by cases h), by decide⟩, eh_k4 25 rfl rfl⟩
theorem eV_11_isBelow : eh_MS eY_11_isBelow eM_11_isBelow 2 := ⟨⟨rfl, by decide, eh_k4 70 rfl rfl, eh_k1 1 rfl rfl, ⟨by decide, by decide, by decide +kernel⟩, (fun h => by cases h), by decide⟩, eh_k4 69 rfl rfl⟩
theorem eV_12_begin : eh_MV eY_12_begin eM_12_begin 1 12 := ⟨⟨rfl, by decide, eh_k7 64 rfl rfl, eh_k1 15 rfl rfl, ⟨by decide, by decide, by decide +kernel⟩, (fun h => by cases h), by decide⟩, ⟨eh_k7 63 rfl rfl, eh_q5 15 rfl⟩, ⟨_, _, rfl⟩, by decide⟩
theorem eV_12_say : eh_MV eY_12_say eM_12_say 1 12 := ⟨⟨rfl, by decide, eh_k7 102 rfl rfl, eh_k1 15 rfl rfl, ⟨by decide, by decide, by decide +kernel⟩, (fun h => by cases h), by decide⟩, ⟨eh_k7 101 rfl rfl, eh_q6 5 rfl⟩, ⟨_, _, rfl⟩, by decide⟩
theorem eV_12_sayBytes : eh_MV eY_12_sayBytes eM_12_sayBytes 3 12 := ⟨⟨rfl, by decide, eh_k9 91 rfl rfl, eh_k1 15 rfl rfl, ⟨by decide, by decide, by decide +kernel⟩, (fun h => by cases h), by decide⟩, ⟨eh_k9 90 rfl rfl, eh_q8 12 rfl⟩, ⟨_, _, rfl⟩, by decide⟩
theorem eV_12_bigWord : eh_MS eY_12_bigWord eM_12_bigWord 2 := ⟨⟨rfl, by decide, eh_k9 214 rfl rfl, eh_k1 15 rfl rfl, ⟨by decide, by decide, by decide +kernel⟩, (fun h => by cases h), by decide⟩, eh_k9 213 rfl rfl⟩
theorem eV_12_littleWord : eh_MS eY_12_littleWord eM_12_littleWord 2 := ⟨⟨rfl, by decide, eh_k8 209 rfl rfl, eh_k1 15 rfl rfl, ⟨by decide, by decide, by decide +kernel⟩, (fun h => by cases h), by decide⟩, eh_k8 208 rfl rfl⟩
theorem eV_12_clearPath : eh_MV eY_12_clearPath eM_12_clearPath 1 12 := ⟨⟨rfl, by decide, eh_k7 98 rfl rfl, eh_k1 15 rfl rfl, ⟨by decide, by decide, by decide +kernel⟩, (fun h => by cases h), by decide⟩, ⟨eh_k7 97 rfl rfl, eh_q6 4 rfl⟩, ⟨_, _, rfl⟩, by decide⟩
theorem eV_12_isOpen : eh_MV eY_12_isOpen eM_12_isOpen 1 12 := ⟨⟨rfl, by decide, eh_k10 17 rfl rfl, eh_k1 15 rfl rfl, ⟨by decide, by decide, by decide +kernel⟩, (fun h => by cases h), by decide⟩, ⟨eh_k10 16 rfl rfl, eh_q10 15 rfl⟩, ⟨_, _, rfl⟩, by decide⟩
theorem eV_12_areOpen : eh_MV eY_12_areOpen eM_12_areOpen 2 12 := ⟨⟨rfl, by decide, eh_k9 163 rfl rfl, eh_k1 15 rfl rfl, ⟨by decide, by decide, by decide +kernel⟩, (fun h => by cases h), by decide⟩, ⟨eh_k9 162 rfl rfl, eh_q9 12 rfl⟩, ⟨_, _, rfl⟩, by decide⟩
theorem eV_12_setByte : eh_MV eY_12_setByte eM_12_setByte 2 12 := ⟨⟨rfl, by decide, eh_k9 19 rfl rfl, eh_k1 15 rfl rfl, ⟨by decide, by decide, by decide +kernel⟩, (fun h => by cases h), by decide⟩, ⟨eh_k9 18 rfl rfl, eh_q7 14 rfl⟩, ⟨_, _, rfl⟩, by decide⟩
theorem eV_12_sharedAt : eh_MV eY_12_sharedAt eM_12_sharedAt 1 12 := ⟨⟨rfl, by decide, eh_k9 23 rfl rfl, eh_k1 15 rfl rfl, ⟨by decide, by decide, by decide +kernel⟩, (fun h => by cases h), by decide⟩, ⟨eh_k9 22 rfl rfl, eh_q7 15 rfl⟩, ⟨_, _, rfl⟩, by decide⟩
theorem eV_12_gate : eh_MV eY_12_gate eM_12_gate 3 12 := ⟨⟨rfl, by decide, eh_k8 191 rfl rfl, eh_k1 15 rfl rfl, ⟨by decide, by decide, by decide +kernel⟩, (fun h => by cases h), by decide⟩, ⟨eh_k8 190 rfl rfl, eh_q7 1 rfl⟩, ⟨_, _, rfl⟩, by decide⟩
theorem eV_12_isOf : eh_MV eY_12_isOf eM_12_isOf 2 12 := ⟨⟨rfl, by decide, eh_k8 195 rfl rfl, eh_k1 15 rfl rfl, ⟨by decide, by decide, by decide +kernel⟩, (fun h => by cases h), by decide⟩, ⟨eh_k8 194 rfl rfl, eh_q7 2 rfl⟩, ⟨_, _, rfl⟩, by decide⟩
theorem eV_12_isAccepted : eh_MV eY_12_isAccepted eM_12_isAccepted 2 12 := ⟨⟨rfl, by decide, eh_k8 199 rfl rfl, eh_k1 15 rfl rfl, ⟨by decide, by decide, by decide +kernel⟩, (fun h => by cases h), by decide⟩, ⟨eh_k8 198 rfl rfl, eh_q7 3 rfl⟩, ⟨_, _, rfl⟩, by decide⟩
theorem eV_12_except : eh_MV eY_12_except eM_12_except 2 12 := ⟨⟨rfl, by decide, eh_k8 206 rfl rfl, eh_k1 15 rfl rfl, ⟨by decide, by decide, by decide +kernel⟩, (fun h => by cases h), by decide⟩, ⟨eh_k8 205 rfl rfl, eh_q7 4 rfl⟩, ⟨_, _, rfl⟩, by decide⟩
theorem eV_12_denied : eh_MS eY_12_denied eM_12_denied 1 := ⟨⟨rfl, by decide, eh_k8 202 rfl rfl, eh_k1 15 rfl rfl, ⟨by decide, by decide, by decide +kernel⟩, (fun h => by cases h), by decide⟩, eh_k8 201 rfl rfl⟩
theorem eV_12_unpaged : eh_MS eY_12_unpaged eM_12_unpaged 1 := ⟨⟨rfl, by decide, eh_k8 212 rfl rfl, eh_k1 15 rfl rfl, ⟨by decide, by decide, by decide +kernel⟩, (fun h => by cases h), by decide⟩, eh_k8 211 rfl rfl⟩
theorem eV_12_happens : eh_MV eY_12_happens eM_12_happens 5 12 := ⟨⟨rfl, by decide, eh_k9 28 rfl rfl, eh_k1 15 rfl rfl, ⟨by decide, by decide, by decide +kernel⟩, (fun h => by cases h), by decide⟩, ⟨eh_k9 27 rfl rfl, eh_q8 0 rfl⟩, ⟨_, _, rfl⟩, by decide⟩
theorem eV_12_who : eh_MV eY_12_who eM_12_who 1 12 := ⟨⟨rfl, by decide, eh_k8 167 rfl rfl, eh_k1 15 rfl rfl, ⟨by decide, by decide, by decide +kernel⟩, (fun h => by cases h), by decide⟩, ⟨eh_k8 166 rfl rfl, eh_q6 12 rfl⟩, ⟨_, _, rfl⟩, by decide⟩
theorem eV_12_trap : eh_MV eY_12_trap eM_12_trap 3 12 := ⟨⟨rfl, by decide, eh_k8 163 rfl rfl, eh_k1 15 rfl rfl, ⟨by decide, by decide, by decide +kernel⟩, (fun h => by cases h), by decide⟩, ⟨eh_k8 162 rfl rfl, eh_q6 11 rfl⟩, ⟨_, _, rfl⟩, by decide⟩
theorem eV_12_leave : eh_MV eY_12_leave eM_12_leave 4 12 := ⟨⟨rfl, by decide, eh_k8 158 rfl rfl, eh_k1 15 rfl rfl, ⟨by decide, by decide, by decide +kernel⟩, (fun h => by cases h), by decide⟩, ⟨eh_k8 157 rfl rfl, eh_q6 10 rfl⟩, ⟨_, _, rfl⟩, by decide⟩
theorem eV_12_enter : eh_MV eY_12_enter eM_12_enter 2 12 := ⟨⟨rfl, by decide, eh_k9 187 rfl rfl, eh_k1 15 rfl rfl, ⟨by decide, by decide, by decide +kernel⟩, (fun h => by cases h), by decide⟩, ⟨eh_k9 186 rfl rfl, eh_q10 2 rfl⟩, ⟨_, _, rfl⟩, by decide⟩
theorem eV_12_product : eh_MS eY_12_product eM_12_product 3 := ⟨⟨rfl, by decide, eh_k9 42 rfl rfl, eh_k1 15 rfl rfl, ⟨by decide, by decide, by decide +kernel⟩, (fun h => by cases h), by decide⟩, eh_k9 41 rfl rfl⟩
theorem eV_12_isRegister : eh_MS eY_12_isRegister eM_12_isRegister 1 := ⟨⟨rfl, by decide, eh_k9 226 rfl rfl, eh_k1 15 rfl rfl, ⟨by decide, by decide, by decide +kernel⟩, (fun h => by cases h), by decide⟩, eh_k9 225 rfl rfl⟩
theorem eV_12_writeRegister : eh_MV eY_12_writeRegister eM_12_writeRegister 3 12 := ⟨⟨rfl, by decide, eh_k9 234 rfl rfl, eh_k1 15 rfl rfl, ⟨by decide, by decide, by decide +kernel⟩, (fun h => by cases h), by decide⟩, ⟨eh_k9 233 rfl rfl, eh_q10 12 rfl⟩, ⟨_, _, rfl⟩, by decide⟩
theorem eV_12_isEnclave : eh_MV eY_12_isEnclave eM_12_isEnclave 1 12 := ⟨⟨rfl, by decide, eh_k9 111 rfl rfl, eh_k1 15 rfl rfl, ⟨by decide, by decide, by decide +kernel⟩, (fun h => by cases h), by decide⟩, ⟨eh_k9 110 rfl rfl, eh_q9 1 rfl⟩, ⟨_, _, rfl⟩, by decide⟩
theorem eV_12_isThread : eh_MV eY_12_isThread eM_12_isThread 1 12 := ⟨⟨rfl, by decide, eh_k9 183 rfl rfl, eh_k1 15 rfl rfl, ⟨by decide, by decide, by decide +kernel⟩, (fun h => by cases h), by decide⟩, ⟨eh_k9 182 rfl rfl, eh_q10 1 rfl⟩, ⟨_, _, rfl⟩, by decide⟩
theorem eV_12_isSpan : eh_MS eY_12_isSpan eM_12_isSpan 2 := ⟨⟨rfl, by decide, eh_k9 138 rfl rfl, eh_k1 15 rfl rfl, ⟨by decide, by decide, by decide +kernel⟩, (fun h => by cases h), by decide⟩, eh_k9 137 rfl rfl⟩
theorem eV_12_isOverlap : eh_MV eY_12_isOverlap eM_12_isOverlap 2 12 := ⟨⟨rfl, by decide, eh_k9 143 rfl rfl, eh_k1 15 rfl rfl, ⟨by decide, by decide, by decide +kernel⟩, (fun h => by cases h), by decide⟩, ⟨eh_k9 142 rfl rfl, eh_q9 8 rfl⟩, ⟨_, _, rfl⟩, by decide⟩
theorem eV_12_free : eh_MS eY_12_free eM_12_free 1 := ⟨⟨rfl, by decide, eh_k9 146 rfl rfl, eh_k1 15 rfl rfl, ⟨by decide, by decide, by decide +kernel⟩, (fun h => by cases h), by decide⟩, eh_k9 145 rfl rfl⟩
theorem eV_12_threadsOf : eh_MV eY_12_threadsOf eM_12_threadsOf 1 12 := ⟨⟨rfl, by decide, eh_k9 171 rfl rfl, eh_k1 15 rfl rfl, ⟨by decide, by decide, by decide +kernel⟩, (fun h => by cases h), by decide⟩, ⟨eh_k9 170 rfl rfl, eh_q9 14 rfl⟩, ⟨_, _, rfl⟩, by decide⟩
theorem eV_12_move : eh_MV eY_12_move eM_12_move 3 12 := ⟨⟨rfl, by decide, eh_k9 211 rfl rfl, eh_k1 15 rfl rfl, ⟨by decide, by decide, by decide +kernel⟩, (fun h => by cases h), by decide⟩, ⟨eh_k9 210 rfl rfl, eh_q10 8 rfl⟩, ⟨_, _, rfl⟩, by decide⟩
theorem eV_12_key : eh_MV eY_12_key eM_12_key 0 12 := ⟨⟨rfl, by decide, eh_k9 219 rfl rfl, eh_k1 15 rfl rfl, ⟨by decide, by decide, by decide +kernel⟩, (fun h => by cases h), by decide⟩, ⟨eh_k9 218 rfl rfl, eh_q10 9 rfl⟩, ⟨_, _, rfl⟩, by decide⟩
theorem eV_12_isWord : eh_MV eY_12_isWord eM_12_isWord 1 12 := ⟨⟨rfl, by decide, eh_k10 13 rfl rfl, eh_k1 15 rfl rfl, ⟨by decide, by decide, by decide +kernel⟩, (fun h => by cases h), by decide⟩, ⟨eh_k10 12 rfl rfl, eh_q10 14 rfl⟩, ⟨_, _, rfl⟩, by decide⟩
theorem eV_12_isHart : eh_MS eY_12_isHart eM_12_isHart 1 := ⟨⟨rfl, by decide, eh_k10 32 rfl rfl, eh_k1 15 rfl rfl, ⟨by decide, by decide, by decide +kernel⟩, (fun h => by cases h), by decide⟩, eh_k10 31 rfl rfl⟩
theorem eV_12_type : eh_MV eY_12_type eM_12_type 1 12 := ⟨⟨rfl, by decide, eh_k10 60 rfl rfl, eh_k1 15 rfl rfl, ⟨by decide, by decide, by decide +kernel⟩, (fun h => by cases h), by decide⟩, ⟨eh_k10 58 rfl rfl, eh_k10 59 rfl rfl⟩, ⟨_, _, rfl⟩, by decide⟩
theorem eV_12_panel : eh_MV eY_12_panel eM_12_panel 1 12 := ⟨⟨rfl, by decide, eh_k10 64 rfl rfl, eh_k1 15 rfl rfl, ⟨by decide, by decide, by decide +kernel⟩, (fun h => by cases h), by decide⟩, ⟨eh_k10 62 rfl rfl, eh_k10 63 rfl rfl⟩, ⟨_, _, rfl⟩, by decide⟩
theorem eV_12_line : eh_MV eY_12_line eM_12_line 1 12 := ⟨⟨rfl, by decide, eh_k10 68 rfl rfl, eh_k1 15 rfl rfl, ⟨by decide, by decide, by decide +kernel⟩, (fun h => by cases h), by decide⟩, ⟨eh_k10 66 rfl rfl, eh_k10 67 rfl rfl⟩, ⟨_, _, rfl⟩, by decide⟩
theorem eV_12_thread : eh_MV eY_12_thread eM_12_thread 2 12 := ⟨⟨rfl, by decide, eh_k10 76 rfl rfl, eh_k1 15 rfl rfl, ⟨by decide, by decide, by decide +kernel⟩, (fun h => by cases h), by decide⟩, ⟨eh_k10 74 rfl rfl, eh_k10 75 rfl rfl⟩, ⟨_, _, rfl⟩, by decide⟩
theorem eV_12_region : eh_MV eY_12_region eM_12_region 2 12 := ⟨⟨rfl, by decide, eh_k10 80 rfl rfl, eh_k1 15 rfl rfl, ⟨by decide, by decide, by decide +kernel⟩, (fun h => by cases h), by decide⟩, ⟨eh_k10 78 rfl rfl, eh_k10 79 rfl rfl⟩, ⟨_, _, rfl⟩, by decide⟩
theorem eV_12_console : eh_MV eY_12_console eM_12_console 1 12 := ⟨⟨rfl, by decide, eh_k10 92 rfl rfl, eh_k1 15 rfl rfl, ⟨by decide, by decide, by decide +kernel⟩, (fun h => by cases h), by decide⟩, ⟨eh_k10 90 rfl rfl, eh_k10 91 rfl rfl⟩, ⟨_, _, rfl⟩, by decide⟩
theorem eV_12_disk : eh_MV eY_12_disk eM_12_disk 3 12 := ⟨⟨rfl, by decide, eh_k10 96 rfl rfl, eh_k1 15 rfl rfl, ⟨by decide, by decide, by decide +kernel⟩, (fun h => by cases h), by decide⟩, ⟨eh_k10 94 rfl rfl, eh_k10 95 rfl rfl⟩, ⟨_, _, rfl⟩, by decide⟩
theorem eV_12_on : eh_MS eY_12_on eM_12_on 2 := ⟨⟨rfl, by decide, eh_k10 117 rfl rfl, eh_k1 15 rfl rfl, ⟨by decide, by decide, by decide +kernel⟩, (fun h => by cases h), by decide⟩, eh_k10 116 rfl rfl⟩
theorem eV_12_many : eh_MS eY_12_many eM_12_many 1 := ⟨⟨rfl, by decide, eh_k10 125 rfl rfl, eh_k1 15 rfl rfl, ⟨by decide, by decide, by decide +kernel⟩, (fun h => by cases h), by decide⟩, eh_k10 124 rfl rfl⟩
theorem eV_13_cell : eh_MS eY_13_cell eM_13_cell 2 := ⟨⟨rfl, by decide, eh_k7 53 rfl rfl, eh_k1 0 rfl rfl, ⟨by decide, by decide, by decide +kernel⟩, (fun h => by cases h), by decide⟩, eh_k7 52 rfl rfl⟩
theorem eV_20_compare : eh_MS eY_20_compare eM_20_compare 2 := ⟨⟨rfl, by decide, eh_k8 154 rfl rfl, eh_k1 16 rfl rfl, ⟨by decide, by decide, by decide +kernel⟩, (fun h => by cases h), by decide⟩, eh_k8 153 rfl rfl⟩
theorem eV_20_rotateRight : eh_MS eY_20_rotateRight eM_20_rotateRight 2 := ⟨⟨rfl, by decide, eh_k7 82 rfl rfl, eh_k1 16 rfl rfl, ⟨by decide, by decide, by decide +kernel⟩, (fun h => by cases h), by decide⟩, eh_k7 81 rfl rfl⟩
theorem eV_23_fill : eh_MS eY_23_fill eM_23_fill 2 := ⟨⟨rfl, by decide, eh_k2 225 rfl rfl, eh_k1 11 rfl rfl, ⟨by decide, by decide, by decide +kernel⟩, (fun h => by cases h), by decide⟩, eh_k2 224 rfl rfl⟩
theorem eV_0_givePath : eh_MV eY_0_givePath eM_0_givePath 1 0 := ⟨⟨rfl, by decide, eh_k2 237 rfl rfl, eh_k1 4 rfl rfl, ⟨by decide, by decide, by decide +kernel⟩, (fun h => by cases h), by decide⟩, ⟨eh_k2 235 rfl rfl, eh_k2 236 rfl rfl⟩, ⟨_, _, rfl⟩, by decide⟩
theorem eV_0_mixDisk : eh_MV eY_0_mixDisk eM_0_mixDisk 1 0 := ⟨⟨rfl, by decide, eh_k7 33 rfl rfl, eh_k1 4 rfl rfl, ⟨by decide, by decide, by decide +kernel⟩, (fun h => by cases h), by decide⟩, ⟨eh_k7 31 rfl rfl, eh_k7 32 rfl rfl⟩, ⟨_, _, rfl⟩, by decide⟩
theorem eV_2_clear : eh_MV eY_2_clear eM_2_clear 0 2 := ⟨⟨rfl, by decide, eh_k4 151 rfl rfl, eh_k1 8 rfl rfl, ⟨by decide, by decide, by decide +kernel⟩, (fun h => by cases h), by decide⟩, ⟨eh_k4 150 rfl rfl, eh_q1 11 rfl⟩, ⟨_, _, rfl⟩, by decide⟩
theorem eV_3_accept : eh_MV eY_3_accept eM_3_accept 2 3 := ⟨⟨rfl, by decide, eh_k6 84 rfl rfl, eh_k1 14 rfl rfl, ⟨by decide, by decide, by decide +kernel⟩, (fun h => by cases h), by decide⟩, ⟨eh_k6 83 rfl rfl, eh_q5 1 rfl⟩, ⟨_, _, rfl⟩, by decide⟩
theorem eV_4_restart : eh_MV eY_4_restart eM_4_restart 0 4 := ⟨⟨rfl, by decide, eh_k3 1 rfl rfl, eh_k1 7 rfl rfl, ⟨by decide, by decide, by decide +kernel⟩, (fun h => by cases h), by decide⟩, ⟨eh_k2 239 rfl rfl, eh_k3 0 rfl rfl⟩, ⟨_, _, rfl⟩, by decide⟩
theorem eV_4_pending : eh_MV eY_4_pending eM_4_pending 1 4 := ⟨⟨rfl, by decide, eh_k4 67 rfl rfl, eh_k1 7 rfl rfl, ⟨by decide, by decide, by decide +kernel⟩, (fun h => by cases h), by decide⟩, ⟨eh_k4 65 rfl rfl, eh_k4 66 rfl rfl⟩, ⟨_, _, rfl⟩, by decide⟩
theorem eV_4_mixAll : eh_MV eY_4_mixAll eM_4_mixAll 1 4 := ⟨⟨rfl, by decide, eh_k7 18 rfl rfl, eh_k1 7 rfl rfl, ⟨by decide, by decide, by decide +kernel⟩, (fun h => by cases h), by decide⟩, ⟨eh_k7 16 rfl rfl, eh_k7 17 rfl rfl⟩, ⟨_, _, rfl⟩, by decide⟩
theorem eV_5_begin : eh_MV eY_5_begin eM_5_begin 2 5 := ⟨⟨rfl, by decide, eh_k4 175 rfl rfl, eh_k1 2 rfl rfl, ⟨by decide, by decide, by decide +kernel⟩, (fun h => by cases h), by decide⟩, ⟨eh_k4 173 rfl rfl, eh_k4 174 rfl rfl⟩, ⟨_, _, rfl⟩, by decide⟩
theorem eV_5_cease : eh_MV eY_5_cease eM_5_cease 5 5 := ⟨⟨rfl, by decide, eh_k5 77 rfl rfl, eh_k1 2 rfl rfl, ⟨by decide, by decide, by decide +kernel⟩, (fun h => by cases h), by decide⟩, ⟨eh_k5 75 rfl rfl, eh_k5 76 rfl rfl⟩, ⟨_, _, rfl⟩, by decide⟩
theorem eV_5_countUp : eh_MV eY_5_countUp eM_5_countUp 1 5 := ⟨⟨rfl, by decide, eh_k6 108 rfl rfl, eh_k1 2 rfl rfl, ⟨by decide, by decide, by decide +kernel⟩, (fun h => by cases h), by decide⟩, ⟨eh_k6 106 rfl rfl, eh_k6 107 rfl rfl⟩, ⟨_, _, rfl⟩, by decide⟩
theorem eV_6_clear : eh_MV eY_6_clear eM_6_clear 0 6 := ⟨⟨rfl, by decide, eh_k2 222 rfl rfl, eh_k1 3 rfl rfl, ⟨by decide, by decide, by decide +kernel⟩, (fun h => by cases h), by decide⟩, ⟨eh_k2 220 rfl rfl, eh_k2 221 rfl rfl⟩, ⟨_, _, rfl⟩, by decide⟩
theorem eV_6_byteAt : eh_MV eY_6_byteAt eM_6_byteAt 1 6 := ⟨⟨rfl, by decide, eh_k4 13 rfl rfl, eh_k1 3 rfl rfl, ⟨by decide, by decide, by decide +kernel⟩, (fun h => by cases h), by decide⟩, ⟨eh_k4 11 rfl rfl, eh_k4 12 rfl rfl⟩, ⟨_, _, rfl⟩, by decide⟩
theorem eV_6_areOpen : eh_MV eY_6_areOpen eM_6_areOpen 2 6 := ⟨⟨rfl, by decide, eh_k3 205 rfl rfl, eh_k1 3 rfl rfl, ⟨by decide, by decide, by decide +kernel⟩, (fun h => by cases h), by decide⟩, ⟨eh_k3 203 rfl rfl, eh_k3 204 rfl rfl⟩, ⟨_, _, rfl⟩, by decide⟩
theorem eV_6_rightsIn : eh_MV eY_6_rightsIn eM_6_rightsIn 2 6 := ⟨⟨rfl, by decide, eh_k5 124 rfl rfl, eh_k1 3 rfl rfl, ⟨by decide, by decide, by decide +kernel⟩, (fun h => by cases h), by decide⟩, ⟨eh_k5 123 rfl rfl, eh_q3 5 rfl⟩, ⟨_, _, rfl⟩, by decide⟩
theorem eV_6_store : eh_MV eY_6_store eM_6_store 3 6 := ⟨⟨rfl, by decide, eh_k3 215 rfl rfl, eh_k1 3 rfl rfl, ⟨by decide, by decide, by decide +kernel⟩, (fun h => by cases h), by decide⟩, ⟨eh_k3 213 rfl rfl, eh_k3 214 rfl rfl⟩, ⟨_, _, rfl⟩, by decide⟩
theorem eV_6_give : eh_MV eY_6_give eM_6_give 6 6 := ⟨⟨rfl, by decide, eh_k4 110 rfl rfl, eh_k1 3 rfl rfl, ⟨by decide, by decide, by decide +kernel⟩, (fun h => by cases h), by decide⟩, ⟨eh_k4 108 rfl rfl, eh_k4 109 rfl rfl⟩, ⟨_, _, rfl⟩, by decide⟩
theorem eV_6_takeBack : eh_MV eY_6_takeBack eM_6_takeBack 1 6 := ⟨⟨rfl, by decide, eh_k4 199 rfl rfl, eh_k1 3 rfl rfl, ⟨by decide, by decide, by decide +kernel⟩, (fun h => by cases h), by decide⟩, ⟨eh_k4 197 rfl rfl, eh_k4 198 rfl rfl⟩, ⟨_, _, rfl⟩, by decide⟩
theorem eV_6_entryOfSystem : eh_MV eY_6_entryOfSystem eM_6_entryOfSystem 2 6 := ⟨⟨rfl, by decide, eh_k6 195 rfl rfl, eh_k1 3 rfl rfl, ⟨by decide, by decide, by decide +kernel⟩, (fun h => by cases h), by decide⟩, ⟨eh_k6 193 rfl rfl, eh_k6 194 rfl rfl⟩, ⟨_, _, rfl⟩, by decide⟩
theorem eV_6_mixWords : eh_MV eY_6_mixWords eM_6_mixWords 1 6 := ⟨⟨rfl, by decide, eh_k7 10 rfl rfl, eh_k1 3 rfl rfl, ⟨by decide, by decide, by decide +kernel⟩, (fun h => by cases h), by decide⟩, ⟨eh_k7 8 rfl rfl, eh_k7 9 rfl rfl⟩, ⟨_, _, rfl⟩, by decide⟩
theorem eV_6_mixRegions : eh_MV eY_6_mixRegions eM_6_mixRegions 1 6 := ⟨⟨rfl, by decide, eh_k7 24 rfl rfl, eh_k1 3 rfl rfl, ⟨by decide, by decide, by decide +kernel⟩, (fun h => by cases h), by decide⟩, ⟨eh_k7 22 rfl rfl, eh_k7 23 rfl rfl⟩, ⟨_, _, rfl⟩, by decide⟩
theorem eV_7_look : eh_MV eY_7_look eM_7_look 1 7 := ⟨⟨rfl, by decide, eh_k5 63 rfl rfl, eh_k1 13 rfl rfl, ⟨by decide, by decide, by decide +kernel⟩, (fun h => by cases h), by decide⟩, ⟨eh_k5 62 rfl rfl, eh_q2 14 rfl⟩, ⟨_, _, rfl⟩, by decide⟩
theorem eV_7_goTo : eh_MV eY_7_goTo eM_7_goTo 1 7 := ⟨⟨rfl, by decide, eh_k5 141 rfl rfl, eh_k1 13 rfl rfl, ⟨by decide, by decide, by decide +kernel⟩, (fun h => by cases h), by decide⟩, ⟨eh_k5 140 rfl rfl, eh_q3 8 rfl⟩, ⟨_, _, rfl⟩, by decide⟩
theorem eV_7_fence : eh_MV eY_7_fence eM_7_fence 1 7 := ⟨⟨rfl, by decide, eh_k5 193 rfl rfl, eh_k1 13 rfl rfl, ⟨by decide, by decide, by decide +kernel⟩, (fun h => by cases h), by decide⟩, ⟨eh_k5 192 rfl rfl, eh_q4 0 rfl⟩, ⟨_, _, rfl⟩, by decide⟩
theorem eV_7_reckoned : eh_MS eY_7_reckoned eM_7_reckoned 4 := ⟨⟨rfl, by decide, eh_k5 200 rfl rfl, eh_k1 13 rfl rfl, ⟨by decide, by decide, by decide +kernel⟩, (fun h => by cases h), by decide⟩, eh_k5 199 rfl rfl⟩
theorem eV_7_combined : eh_MS eY_7_combined eM_7_combined 3 := ⟨⟨rfl, by decide, eh_k5 226 rfl rfl, eh_k1 13 rfl rfl, ⟨by decide, by decide, by decide +kernel⟩, (fun h => by cases h), by decide⟩, eh_k5 225 rfl rfl⟩
theorem eV_7_failUnless : eh_MV eY_7_failUnless eM_7_failUnless 2 7 := ⟨⟨rfl, by decide, eh_k6 1 rfl rfl, eh_k1 13 rfl rfl, ⟨by decide, by decide, by decide +kernel⟩, (fun h => by cases h), by decide⟩, ⟨eh_k6 0 rfl rfl, eh_q4 6 rfl⟩, ⟨_, _, rfl⟩, by decide⟩
theorem eV_7_specialByCode : eh_MV eY_7_specialByCode eM_7_specialByCode 2 7 := ⟨⟨rfl, by decide, eh_k6 5 rfl rfl, eh_k1 13 rfl rfl, ⟨by decide, by decide, by decide +kernel⟩, (fun h => by cases h), by decide⟩, ⟨eh_k6 4 rfl rfl, eh_q4 7 rfl⟩, ⟨_, _, rfl⟩, by decide⟩
theorem eV_7_walk : eh_MV eY_7_walk eM_7_walk 2 7 := ⟨⟨rfl, by decide, eh_k5 99 rfl rfl, eh_k1 13 rfl rfl, ⟨by decide, by decide, by decide +kernel⟩, (fun h => by cases h), by decide⟩, ⟨eh_k5 98 rfl rfl, eh_q3 3 rfl⟩, ⟨_, _, rfl⟩, by decide⟩
theorem eV_8_mixAll : eh_MV eY_8_mixAll eM_8_mixAll 1 8 := ⟨⟨rfl, by decide, eh_k7 28 rfl rfl, eh_k1 5 rfl rfl, ⟨by decide, by decide, by decide +kernel⟩, (fun h => by cases h), by decide⟩, ⟨eh_k7 26 rfl rfl, eh_k7 27 rfl rfl⟩, ⟨_, _, rfl⟩, by decide⟩
theorem eV_9_feedByte : eh_MV eY_9_feedByte eM_9_feedByte 1 9 := ⟨⟨rfl, by decide, eh_k6 230 rfl rfl, eh_k1 6 rfl rfl, ⟨by decide, by decide, by decide +kernel⟩, (fun h => by cases h), by decide⟩, ⟨eh_k6 228 rfl rfl, eh_k6 229 rfl rfl⟩, ⟨_, _, rfl⟩, by decide⟩
theorem eV_9_feedWord : eh_MV eY_9_feedWord eM_9_feedWord 1 9 := ⟨⟨rfl, by decide, eh_k5 51 rfl rfl, eh_k1 6 rfl rfl, ⟨by decide, by decide, by decide +kernel⟩, (fun h => by cases h), by decide⟩, ⟨eh_k5 49 rfl rfl, eh_k5 50 rfl rfl⟩, ⟨_, _, rfl⟩, by decide⟩
theorem eV_9_feedNumber : eh_MV eY_9_feedNumber eM_9_feedNumber 1 9 := ⟨⟨rfl, by decide, eh_k2 196 rfl rfl, eh_k1 6 rfl rfl, ⟨by decide, by decide, by decide +kernel⟩, (fun h => by cases h), by decide⟩, ⟨eh_k2 194 rfl rfl, eh_k2 195 rfl rfl⟩, ⟨_, _, rfl⟩, by decide⟩
theorem eV_9_end : eh_MV eY_9_end eM_9_end 1 9 := ⟨⟨rfl, by decide, eh_k2 210 rfl rfl, eh_k1 6 rfl rfl, ⟨by decide, by decide, by decide +kernel⟩, (fun h => by cases h), by decide⟩, ⟨eh_k2 208 rfl rfl, eh_k2 209 rfl rfl⟩, ⟨_, _, rfl⟩, by decide⟩
theorem eV_9_feedPaddedKey : eh_MV eY_9_feedPaddedKey eM_9_feedPaddedKey 2 9 := ⟨⟨rfl, by decide, eh_k3 13 rfl rfl, eh_k1 6 rfl rfl, ⟨by decide, by decide, by decide +kernel⟩, (fun h => by cases h), by decide⟩, ⟨eh_k3 12 rfl rfl, eh_q1 2 rfl⟩, ⟨_, _, rfl⟩, by decide⟩
theorem eV_10_stop : eh_MV eY_10_stop eM_10_stop 1 10 := ⟨⟨rfl, by decide, eh_k4 187 rfl rfl, eh_k1 12 rfl rfl, ⟨by decide, by decide, by decide +kernel⟩, (fun h => by cases h), by decide⟩, ⟨eh_k4 186 rfl rfl, eh_q1 15 rfl⟩, ⟨_, _, rfl⟩, by decide⟩
theorem eV_10_putOut : eh_MV eY_10_putOut eM_10_putOut 1 10 := ⟨⟨rfl, by decide, eh_k4 228 rfl rfl, eh_k1 12 rfl rfl, ⟨by decide, by decide, by decide +kernel⟩, (fun h => by cases h), by decide⟩, ⟨eh_k4 227 rfl rfl, eh_q2 6 rfl⟩, ⟨_, _, rfl⟩, by decide⟩
theorem eV_10_signal : eh_MV eY_10_signal eM_10_signal 1 10 := ⟨⟨rfl, by decide, eh_k4 236 rfl rfl, eh_k1 12 rfl rfl, ⟨by decide, by decide, by decide +kernel⟩, (fun h => by cases h), by decide⟩, ⟨eh_k4 235 rfl rfl, eh_q2 7 rfl⟩, ⟨_, _, rfl⟩, by decide⟩
theorem eV_10_askDisk : eh_MV eY_10_askDisk eM_10_askDisk 3 10 := ⟨⟨rfl, by decide, eh_k5 4 rfl rfl, eh_k1 12 rfl rfl, ⟨by decide, by decide, by decide +kernel⟩, (fun h => by cases h), by decide⟩, ⟨eh_k5 3 rfl rfl, eh_q2 8 rfl⟩, ⟨_, _, rfl⟩, by decide⟩
theorem eV_10_measure : eh_MV eY_10_measure eM_10_measure 2 10 := ⟨⟨rfl, by decide, eh_k5 17 rfl rfl, eh_k1 12 rfl rfl, ⟨by decide, by decide, by decide +kernel⟩, (fun h => by cases h), by decide⟩, ⟨eh_k5 16 rfl rfl, eh_q2 9 rfl⟩, ⟨_, _, rfl⟩, by decide⟩
theorem eV_10_look : eh_MV eY_10_look eM_10_look 2 10 := ⟨⟨rfl, by decide, eh_k5 21 rfl rfl, eh_k1 12 rfl rfl, ⟨by decide, by decide, by decide +kernel⟩, (fun h => by cases h), by decide⟩, ⟨eh_k5 20 rfl rfl, eh_q2 10 rfl⟩, ⟨_, _, rfl⟩, by decide⟩
theorem eV_11_word : eh_MV eY_11_word eM_11_word 1 11 := ⟨⟨rfl, by decide, eh_k3 224 rfl rfl, eh_k1 1 rfl rfl, ⟨by decide, by decide, by decide +kernel⟩, (fun h => by cases h), by decide⟩, ⟨eh_k3 222 rfl rfl, eh_k3 223 rfl rfl⟩, ⟨_, _, rfl⟩, by decide⟩
theorem eV_11_inner : eh_MV eY_11_inner eM_11_inner 1 11 := ⟨⟨rfl, by decide, eh_k3 233 rfl rfl, eh_k1 1 rfl rfl, ⟨by decide, by decide, by decide +kernel⟩, (fun h => by cases h), by decide⟩, ⟨eh_k3 231 rfl rfl, eh_k3 232 rfl rfl⟩, ⟨_, _, rfl⟩, by decide⟩
theorem eV_11_inside : eh_MV eY_11_inside eM_11_inside 2 11 := ⟨⟨rfl, by decide, eh_k4 34 rfl rfl, eh_k1 1 rfl rfl, ⟨by decide, by decide, by decide +kernel⟩, (fun h => by cases h), by decide⟩, ⟨eh_k4 32 rfl rfl, eh_k4 33 rfl rfl⟩, ⟨_, _, rfl⟩, by decide⟩
theorem eV_11_place : eh_MV eY_11_place eM_11_place 3 11 := ⟨⟨rfl, by decide, eh_k4 42 rfl rfl, eh_k1 1 rfl rfl, ⟨by decide, by decide, by decide +kernel⟩, (fun h => by cases h), by decide⟩, ⟨eh_k4 40 rfl rfl, eh_k4 41 rfl rfl⟩, ⟨_, _, rfl⟩, by decide⟩
theorem eV_11_setControl : eh_MV eY_11_setControl eM_11_setControl 3 11 := ⟨⟨rfl, by decide, eh_k4 46 rfl rfl, eh_k1 1 rfl rfl, ⟨by decide, by decide, by decide +kernel⟩, (fun h => by cases h), by decide⟩, ⟨eh_k4 44 rfl rfl, eh_k4 45 rfl rfl⟩, ⟨_, _, rfl⟩, by decide⟩
theorem eV_11_type : eh_MV eY_11_type eM_11_type 1 11 := ⟨⟨rfl, by decide, eh_k6 154 rfl rfl, eh_k1 1 rfl rfl, ⟨by decide, by decide, by decide +kernel⟩, (fun h => by cases h), by decide⟩, ⟨eh_k6 152 rfl rfl, eh_k6 153 rfl rfl⟩, ⟨_, _, rfl⟩, by decide⟩
theorem eV_11_panel : eh_MV eY_11_panel eM_11_panel 1 11 := ⟨⟨rfl, by decide, eh_k6 159 rfl rfl, eh_k1 1 rfl rfl, ⟨by decide, by decide, by decide +kernel⟩, (fun h => by cases h), by decide⟩, ⟨eh_k6 157 rfl rfl, eh_k6 158 rfl rfl⟩, ⟨_, _, rfl⟩, by decide⟩
theorem eV_11_enclave : eh_MV eY_11_enclave eM_11_enclave 2 11 := ⟨⟨rfl, by decide, eh_k6 171 rfl rfl, eh_k1 1 rfl rfl, ⟨by decide, by decide, by decide +kernel⟩, (fun h => by cases h), by decide⟩, ⟨eh_k6 169 rfl rfl, eh_k6 170 rfl rfl⟩, ⟨_, _, rfl⟩, by decide⟩
theorem eV_11_event : eh_MV eY_11_event eM_11_event 2 11 := ⟨⟨rfl, by decide, eh_k6 199 rfl rfl, eh_k1 1 rfl rfl, ⟨by decide, by decide, by decide +kernel⟩, (fun h => by cases h), by decide⟩, ⟨eh_k6 197 rfl rfl, eh_k6 198 rfl rfl⟩, ⟨_, _, rfl⟩, by decide⟩
theorem eV_11_console : eh_MV eY_11_console eM_11_console 1 11 := ⟨⟨rfl, by decide, eh_k6 207 rfl rfl, eh_k1 1 rfl rfl, ⟨by decide, by decide, by decide +kernel⟩, (fun h => by cases h), by decide⟩, ⟨eh_k6 205 rfl rfl, eh_k6 206 rfl rfl⟩, ⟨_, _, rfl⟩, by decide⟩
theorem eV_11_disk : eh_MV eY_11_disk eM_11_disk 3 11 := ⟨⟨rfl, by decide, eh_k6 211 rfl rfl, eh_k1 1 rfl rfl, ⟨by decide, by decide, by decide +kernel⟩, (fun h => by cases h), by decide⟩, ⟨eh_k6 209 rfl rfl, eh_k6 210 rfl rfl⟩, ⟨_, _, rfl⟩, by decide⟩
theorem eV_11_count : eh_MV eY_11_count eM_11_count 1 11 := ⟨⟨rfl, by decide, eh_k7 38 rfl rfl, eh_k1 1 rfl rfl, ⟨by decide, by decide, by decide +kernel⟩, (fun h => by cases h), by decide⟩, ⟨eh_k7 36 rfl rfl, eh_k7 37 rfl rfl⟩, ⟨_, _, rfl⟩, by decide⟩
theorem eV_11_registerOrZero : eh_MV eY_11_registerOrZero eM_11_registerOrZero 2 11 := ⟨⟨rfl, by decide, eh_k4 23 rfl rfl, eh_k1 1 rfl rfl, ⟨by decide, by decide, by decide +kernel⟩, (fun h => by cases h), by decide⟩, ⟨eh_k4 22 rfl rfl, eh_q1 3 rfl⟩, ⟨_, _, rfl⟩, by decide⟩
theorem eV_12_block : eh_MV eY_12_block eM_12_block 1 12 := ⟨⟨rfl, by decide, eh_k7 79 rfl rfl, eh_k1 15 rfl rfl, ⟨by decide, by decide, by decide +kernel⟩, (fun h => by cases h), by decide⟩, ⟨eh_k7 78 rfl rfl, eh_q6 2 rfl⟩, ⟨_, _, rfl⟩, by decide⟩
theorem eV_12_clear : eh_MV eY_12_clear eM_12_clear 2 12 := ⟨⟨rfl, by decide, eh_k9 154 rfl rfl, eh_k1 15 rfl rfl, ⟨by decide, by decide, by decide +kernel⟩, (fun h => by cases h), by decide⟩, ⟨eh_k9 153 rfl rfl, eh_q9 10 rfl⟩, ⟨_, _, rfl⟩, by decide⟩
theorem eV_12_gather : eh_MV eY_12_gather eM_12_gather 1 12 := ⟨⟨rfl, by decide, eh_k8 187 rfl rfl, eh_k1 15 rfl rfl, ⟨by decide, by decide, by decide +kernel⟩, (fun h => by cases h), by decide⟩, ⟨eh_k8 186 rfl rfl, eh_q7 0 rfl⟩, ⟨_, _, rfl⟩, by decide⟩
theorem eV_12_allowed : eh_MV eY_12_allowed eM_12_allowed 5 12 := ⟨⟨rfl, by decide, eh_k8 216 rfl rfl, eh_k1 15 rfl rfl, ⟨by decide, by decide, by decide +kernel⟩, (fun h => by cases h), by decide⟩, ⟨eh_k8 215 rfl rfl, eh_q7 5 rfl⟩, ⟨_, _, rfl⟩, by decide⟩
theorem eV_12_storeAt : eh_MV eY_12_storeAt eM_12_storeAt 4 12 := ⟨⟨rfl, by decide, eh_k9 15 rfl rfl, eh_k1 15 rfl rfl, ⟨by decide, by decide, by decide +kernel⟩, (fun h => by cases h), by decide⟩, ⟨eh_k9 14 rfl rfl, eh_q7 13 rfl⟩, ⟨_, _, rfl⟩, by decide⟩
theorem eV_12_get : eh_MV eY_12_get eM_12_get 2 12 := ⟨⟨rfl, by decide, eh_k8 227 rfl rfl, eh_k1 15 rfl rfl, ⟨by decide, by decide, by decide +kernel⟩, (fun h => by cases h), by decide⟩, ⟨eh_k8 226 rfl rfl, eh_q7 7 rfl⟩, ⟨_, _, rfl⟩, by decide⟩
theorem eV_12_set : eh_MV eY_12_set eM_12_set 3 12 := ⟨⟨rfl, by decide, eh_k8 231 rfl rfl, eh_k1 15 rfl rfl, ⟨by decide, by decide, by decide +kernel⟩, (fun h => by cases h), by decide⟩, ⟨eh_k8 230 rfl rfl, eh_q7 8 rfl⟩, ⟨_, _, rfl⟩, by decide⟩
theorem eV_12_jump : eh_MV eY_12_jump eM_12_jump 1 12 := ⟨⟨rfl, by decide, eh_k8 236 rfl rfl, eh_k1 15 rfl rfl, ⟨by decide, by decide, by decide +kernel⟩, (fun h => by cases h), by decide⟩, ⟨eh_k8 235 rfl rfl, eh_q7 9 rfl⟩, ⟨_, _, rfl⟩, by decide⟩
theorem eV_12_run : eh_MV eY_12_run eM_12_run 5 12 := ⟨⟨rfl, by decide, eh_k9 179 rfl rfl, eh_k1 15 rfl rfl, ⟨by decide, by decide, by decide +kernel⟩, (fun h => by cases h), by decide⟩, ⟨eh_k9 178 rfl rfl, eh_q10 0 rfl⟩, ⟨_, _, rfl⟩, by decide⟩
theorem eV_12_stop : eh_MV eY_12_stop eM_12_stop 1 12 := ⟨⟨rfl, by decide, eh_k9 191 rfl rfl, eh_k1 15 rfl rfl, ⟨by decide, by decide, by decide +kernel⟩, (fun h => by cases h), by decide⟩, ⟨eh_k9 190 rfl rfl, eh_q10 3 rfl⟩, ⟨_, _, rfl⟩, by decide⟩
theorem eV_12_accept : eh_MV eY_12_accept eM_12_accept 3 12 := ⟨⟨rfl, by decide, eh_k9 103 rfl rfl, eh_k1 15 rfl rfl, ⟨by decide, by decide, by decide +kernel⟩, (fun h => by cases h), by decide⟩, ⟨eh_k9 102 rfl rfl, eh_q8 15 rfl⟩, ⟨_, _, rfl⟩, by decide⟩
theorem eV_12_count : eh_MV eY_12_count eM_12_count 2 12 := ⟨⟨rfl, by decide, eh_k9 119 rfl rfl, eh_k1 15 rfl rfl, ⟨by decide, by decide, by decide +kernel⟩, (fun h => by cases h), by decide⟩, ⟨eh_k9 118 rfl rfl, eh_q9 3 rfl⟩, ⟨_, _, rfl⟩, by decide⟩
theorem eV_12_onPath : eh_MV eY_12_onPath eM_12_onPath 3 12 := ⟨⟨rfl, by decide, eh_k9 123 rfl rfl, eh_k1 15 rfl rfl, ⟨by decide, by decide, by decide +kernel⟩, (fun h => by cases h), by decide⟩, ⟨eh_k9 122 rfl rfl, eh_q9 4 rfl⟩, ⟨_, _, rfl⟩, by decide⟩
theorem eV_12_device : eh_MV eY_12_device eM_12_device 0 12 := ⟨⟨rfl, by decide, eh_k10 0 rfl rfl, eh_k1 15 rfl rfl, ⟨by decide, by decide, by decide +kernel⟩, (fun h => by cases h), by decide⟩, ⟨eh_k9 239 rfl rfl, eh_q10 13 rfl⟩, ⟨_, _, rfl⟩, by decide⟩
theorem eV_12_poke : eh_MV eY_12_poke eM_12_poke 6 12 := ⟨⟨rfl, by decide, eh_k10 4 rfl rfl, eh_k1 15 rfl rfl, ⟨by decide, by decide, by decide +kernel⟩, (fun h => by cases h), by decide⟩, ⟨eh_k10 2 rfl rfl, eh_k10 3 rfl rfl⟩, ⟨_, _, rfl⟩, by decide⟩
theorem eV_12_word : eh_MV eY_12_word eM_12_word 1 12 := ⟨⟨rfl, by decide, eh_k10 9 rfl rfl, eh_k1 15 rfl rfl, ⟨by decide, by decide, by decide +kernel⟩, (fun h => by cases h), by decide⟩, ⟨eh_k10 7 rfl rfl, eh_k10 8 rfl rfl⟩, ⟨_, _, rfl⟩, by decide⟩
theorem eV_12_inner : eh_MV eY_12_inner eM_12_inner 1 12 := ⟨⟨rfl, by decide, eh_k10 21 rfl rfl, eh_k1 15 rfl rfl, ⟨by decide, by decide, by decide +kernel⟩, (fun h => by cases h), by decide⟩, ⟨eh_k10 19 rfl rfl, eh_k10 20 rfl rfl⟩, ⟨_, _, rfl⟩, by decide⟩
theorem eV_12_secret : eh_MV eY_12_secret eM_12_secret 3 12 := ⟨⟨rfl, by decide, eh_k10 25 rfl rfl, eh_k1 15 rfl rfl, ⟨by decide, by decide, by decide +kernel⟩, (fun h => by cases h), by decide⟩, ⟨eh_k10 23 rfl rfl, eh_k10 24 rfl rfl⟩, ⟨_, _, rfl⟩, by decide⟩
theorem eV_12_setRegister : eh_MV eY_12_setRegister eM_12_setRegister 3 12 := ⟨⟨rfl, by decide, eh_k10 29 rfl rfl, eh_k1 15 rfl rfl, ⟨by decide, by decide, by decide +kernel⟩, (fun h => by cases h), by decide⟩, ⟨eh_k10 27 rfl rfl, eh_k10 28 rfl rfl⟩, ⟨_, _, rfl⟩, by decide⟩
theorem eV_12_register : eh_MV eY_12_register eM_12_register 2 12 := ⟨⟨rfl, by decide, eh_k10 36 rfl rfl, eh_k1 15 rfl rfl, ⟨by decide, by decide, by decide +kernel⟩, (fun h => by cases h), by decide⟩, ⟨eh_k10 34 rfl rfl, eh_k10 35 rfl rfl⟩, ⟨_, _, rfl⟩, by decide⟩
theorem eV_12_inside : eh_MV eY_12_inside eM_12_inside 2 12 := ⟨⟨rfl, by decide, eh_k10 40 rfl rfl, eh_k1 15 rfl rfl, ⟨by decide, by decide, by decide +kernel⟩, (fun h => by cases h), by decide⟩, ⟨eh_k10 38 rfl rfl, eh_k10 39 rfl rfl⟩, ⟨_, _, rfl⟩, by decide⟩
theorem eV_12_place : eh_MV eY_12_place eM_12_place 3 12 := ⟨⟨rfl, by decide, eh_k10 44 rfl rfl, eh_k1 15 rfl rfl, ⟨by decide, by decide, by decide +kernel⟩, (fun h => by cases h), by decide⟩, ⟨eh_k10 42 rfl rfl, eh_k10 43 rfl rfl⟩, ⟨_, _, rfl⟩, by decide⟩
theorem eV_12_setControl : eh_MV eY_12_setControl eM_12_setControl 3 12 := ⟨⟨rfl, by decide, eh_k10 48 rfl rfl, eh_k1 15 rfl rfl, ⟨by decide, by decide, by decide +kernel⟩, (fun h => by cases h), by decide⟩, ⟨eh_k10 46 rfl rfl, eh_k10 47 rfl rfl⟩, ⟨_, _, rfl⟩, by decide⟩
theorem eV_12_enclave : eh_MV eY_12_enclave eM_12_enclave 2 12 := ⟨⟨rfl, by decide, eh_k10 72 rfl rfl, eh_k1 15 rfl rfl, ⟨by decide, by decide, by decide +kernel⟩, (fun h => by cases h), by decide⟩, ⟨eh_k10 70 rfl rfl, eh_k10 71 rfl rfl⟩, ⟨_, _, rfl⟩, by decide⟩
theorem eV_12_event : eh_MV eY_12_event eM_12_event 2 12 := ⟨⟨rfl, by decide, eh_k10 88 rfl rfl, eh_k1 15 rfl rfl, ⟨by decide, by decide, by decide +kernel⟩, (fun h => by cases h), by decide⟩, ⟨eh_k10 86 rfl rfl, eh_k10 87 rfl rfl⟩, ⟨_, _, rfl⟩, by decide⟩
theorem eV_12_shown : eh_MV eY_12_shown eM_12_shown 1 12 := ⟨⟨rfl, by decide, eh_k10 104 rfl rfl, eh_k1 15 rfl rfl, ⟨by decide, by decide, by decide +kernel⟩, (fun h => by cases h), by decide⟩, ⟨eh_k10 103 rfl rfl, eh_q11 0 rfl⟩, ⟨_, _, rfl⟩, by decide⟩
theorem eV_12_count_2 : eh_MV eY_12_count_2 eM_12_count_2 1 12 := ⟨⟨rfl, by decide, eh_k10 122 rfl rfl, eh_k1 15 rfl rfl, ⟨by decide, by decide, by decide +kernel⟩, (fun h => by cases h), by decide⟩, ⟨eh_k10 120 rfl rfl, eh_k10 121 rfl rfl⟩, ⟨_, _, rfl⟩, by decide⟩
theorem eV_20_compareUnsigned : eh_MS eY_20_compareUnsigned eM_20_compareUnsigned 2 := ⟨⟨rfl, by decide, eh_k8 150 rfl rfl, eh_k1 16 rfl rfl, ⟨by decide, by decide, by decide +kernel⟩, (fun h => by cases h), by decide⟩, eh_k8 149 rfl rfl⟩
theorem eV_0_restart : eh_MV eY_0_restart eM_0_restart 0 0 := ⟨⟨rfl, by decide, eh_k2 229 rfl rfl, eh_k1 4 rfl rfl, ⟨by decide, by decide, by decide +kernel⟩, (fun h => by cases h), by decide⟩, ⟨eh_k2 227 rfl rfl, eh_k2 228 rfl rfl⟩, ⟨_, _, rfl⟩, by decide⟩
theorem eV_0_carryOutFirst : eh_MV eY_0_carryOutFirst eM_0_carryOutFirst 1 0 := ⟨⟨rfl, by decide, eh_k6 143 rfl rfl, eh_k1 4 rfl rfl, ⟨by decide, by decide, by decide +kernel⟩, (fun h => by cases h), by decide⟩, ⟨eh_k6 142 rfl rfl, eh_q5 11 rfl⟩, ⟨_, _, rfl⟩, by decide⟩
theorem eV_1_make : eh_MV eY_1_make eM_1_make 2 1 := ⟨⟨rfl, by decide, eh_k4 122 rfl rfl, eh_k1 9 rfl rfl, ⟨by decide, by decide, by decide +kernel⟩, (fun h => by cases h), by decide⟩, ⟨eh_k4 120 rfl rfl, eh_k4 121 rfl rfl⟩, ⟨_, _, rfl⟩, by decide⟩
theorem eV_1_finish : eh_MV eY_1_finish eM_1_finish 1 1 := ⟨⟨rfl, by decide, eh_k4 160 rfl rfl, eh_k1 9 rfl rfl, ⟨by decide, by decide, by decide +kernel⟩, (fun h => by cases h), by decide⟩, ⟨eh_k4 158 rfl rfl, eh_k4 159 rfl rfl⟩, ⟨_, _, rfl⟩, by decide⟩
theorem eV_2_make : eh_MV eY_2_make eM_2_make 3 2 := ⟨⟨rfl, by decide, eh_k4 147 rfl rfl, eh_k1 8 rfl rfl, ⟨by decide, by decide, by decide +kernel⟩, (fun h => by cases h), by decide⟩, ⟨eh_k4 145 rfl rfl, eh_k4 146 rfl rfl⟩, ⟨_, _, rfl⟩, by decide⟩
theorem eV_2_enter : eh_MV eY_2_enter eM_2_enter 3 2 := ⟨⟨rfl, by decide, eh_k4 171 rfl rfl, eh_k1 8 rfl rfl, ⟨by decide, by decide, by decide +kernel⟩, (fun h => by cases h), by decide⟩, ⟨eh_k4 169 rfl rfl, eh_k4 170 rfl rfl⟩, ⟨_, _, rfl⟩, by decide⟩
theorem eV_3_leave : eh_MV eY_3_leave eM_3_leave 5 3 := ⟨⟨rfl, by decide, eh_k6 26 rfl rfl, eh_k1 14 rfl rfl, ⟨by decide, by decide, by decide +kernel⟩, (fun h => by cases h), by decide⟩, ⟨eh_k6 25 rfl rfl, eh_q4 9 rfl⟩, ⟨_, _, rfl⟩, by decide⟩
theorem eV_3_read : eh_MV eY_3_read eM_3_read 4 3 := ⟨⟨rfl, by decide, eh_k6 50 rfl rfl, eh_k1 14 rfl rfl, ⟨by decide, by decide, by decide +kernel⟩, (fun h => by cases h), by decide⟩, ⟨eh_k6 49 rfl rfl, eh_q4 12 rfl⟩, ⟨_, _, rfl⟩, by decide⟩
theorem eV_3_countOne : eh_MV eY_3_countOne eM_3_countOne 1 3 := ⟨⟨rfl, by decide, eh_k6 104 rfl rfl, eh_k1 14 rfl rfl, ⟨by decide, by decide, by decide +kernel⟩, (fun h => by cases h), by decide⟩, ⟨eh_k6 103 rfl rfl, eh_q5 5 rfl⟩, ⟨_, _, rfl⟩, by decide⟩
theorem eV_3_claim : eh_MV eY_3_claim eM_3_claim 2 3 := ⟨⟨rfl, by decide, eh_k6 131 rfl rfl, eh_k1 14 rfl rfl, ⟨by decide, by decide, by decide +kernel⟩, (fun h => by cases h), by decide⟩, ⟨eh_k6 130 rfl rfl, eh_q5 10 rfl⟩, ⟨_, _, rfl⟩, by decide⟩
theorem eV_4_dueInterrupt : eh_MV eY_4_dueInterrupt eM_4_dueInterrupt 1 4 := ⟨⟨rfl, by decide, eh_k5 73 rfl rfl, eh_k1 7 rfl rfl, ⟨by decide, by decide, by decide +kernel⟩, (fun h => by cases h), by decide⟩, ⟨eh_k5 71 rfl rfl, eh_k5 72 rfl rfl⟩, ⟨_, _, rfl⟩, by decide⟩
theorem eV_4_readControl : eh_MV eY_4_readControl eM_4_readControl 2 4 := ⟨⟨rfl, by decide, eh_k4 63 rfl rfl, eh_k1 7 rfl rfl, ⟨by decide, by decide, by decide +kernel⟩, (fun h => by cases h), by decide⟩, ⟨eh_k4 61 rfl rfl, eh_k4 62 rfl rfl⟩, ⟨_, _, rfl⟩, by decide⟩
theorem eV_5_storeFor : eh_MV eY_5_storeFor eM_5_storeFor 4 5 := ⟨⟨rfl, by decide, eh_k5 178 rfl rfl, eh_k1 2 rfl rfl, ⟨by decide, by decide, by decide +kernel⟩, (fun h => by cases h), by decide⟩, ⟨eh_k5 176 rfl rfl, eh_k5 177 rfl rfl⟩, ⟨_, _, rfl⟩, by decide⟩
theorem eV_5_survey : eh_MV eY_5_survey eM_5_survey 0 5 := ⟨⟨rfl, by decide, eh_k7 6 rfl rfl, eh_k1 2 rfl rfl, ⟨by decide, by decide, by decide +kernel⟩, (fun h => by cases h), by decide⟩, ⟨eh_k7 4 rfl rfl, eh_k7 5 rfl rfl⟩, ⟨_, _, rfl⟩, by decide⟩
theorem eV_6_openByteAt : eh_MV eY_6_openByteAt eM_6_openByteAt 1 6 := ⟨⟨rfl, by decide, eh_k6 225 rfl rfl, eh_k1 3 rfl rfl, ⟨by decide, by decide, by decide +kernel⟩, (fun h => by cases h), by decide⟩, ⟨eh_k6 223 rfl rfl, eh_k6 224 rfl rfl⟩, ⟨_, _, rfl⟩, by decide⟩
theorem eV_6_rightsAt : eh_MV eY_6_rightsAt eM_6_rightsAt 2 6 := ⟨⟨rfl, by decide, eh_k5 120 rfl rfl, eh_k1 3 rfl rfl, ⟨by decide, by decide, by decide +kernel⟩, (fun h => by cases h), by decide⟩, ⟨eh_k5 118 rfl rfl, eh_k5 119 rfl rfl⟩, ⟨_, _, rfl⟩, by decide⟩
theorem eV_6_entryOfEnclave : eh_MV eY_6_entryOfEnclave eM_6_entryOfEnclave 3 6 := ⟨⟨rfl, by decide, eh_k6 187 rfl rfl, eh_k1 3 rfl rfl, ⟨by decide, by decide, by decide +kernel⟩, (fun h => by cases h), by decide⟩, ⟨eh_k6 185 rfl rfl, eh_k6 186 rfl rfl⟩, ⟨_, _, rfl⟩, by decide⟩
theorem eV_7_suffer : eh_MV eY_7_suffer eM_7_suffer 0 7 := ⟨⟨rfl, by decide, eh_k6 13 rfl rfl, eh_k1 13 rfl rfl, ⟨by decide, by decide, by decide +kernel⟩, (fun h => by cases h), by decide⟩, ⟨eh_k6 12 rfl rfl, eh_q4 8 rfl⟩, ⟨_, _, rfl⟩, by decide⟩
theorem eV_7_jump : eh_MV eY_7_jump eM_7_jump 2 7 := ⟨⟨rfl, by decide, eh_k5 137 rfl rfl, eh_k1 13 rfl rfl, ⟨by decide, by decide, by decide +kernel⟩, (fun h => by cases h), by decide⟩, ⟨eh_k5 136 rfl rfl, eh_q3 7 rfl⟩, ⟨_, _, rfl⟩, by decide⟩
theorem eV_7_branch : eh_MV eY_7_branch eM_7_branch 1 7 := ⟨⟨rfl, by decide, eh_k5 153 rfl rfl, eh_k1 13 rfl rfl, ⟨by decide, by decide, by decide +kernel⟩, (fun h => by cases h), by decide⟩, ⟨eh_k5 152 rfl rfl, eh_q3 11 rfl⟩, ⟨_, _, rfl⟩, by decide⟩
theorem eV_7_reckonWithNumber : eh_MV eY_7_reckonWithNumber eM_7_reckonWithNumber 1 7 := ⟨⟨rfl, by decide, eh_k5 197 rfl rfl, eh_k1 13 rfl rfl, ⟨by decide, by decide, by decide +kernel⟩, (fun h => by cases h), by decide⟩, ⟨eh_k5 196 rfl rfl, eh_q4 1 rfl⟩, ⟨_, _, rfl⟩, by decide⟩
theorem eV_7_reckonWithRegister : eh_MV eY_7_reckonWithRegister eM_7_reckonWithRegister 1 7 := ⟨⟨rfl, by decide, eh_k5 204 rfl rfl, eh_k1 13 rfl rfl, ⟨by decide, by decide, by decide +kernel⟩, (fun h => by cases h), by decide⟩, ⟨eh_k5 203 rfl rfl, eh_q4 2 rfl⟩, ⟨_, _, rfl⟩, by decide⟩
theorem eV_9_feedWords : eh_MV eY_9_feedWords eM_9_feedWords 2 9 := ⟨⟨rfl, by decide, eh_k5 47 rfl rfl, eh_k1 6 rfl rfl, ⟨by decide, by decide, by decide +kernel⟩, (fun h => by cases h), by decide⟩, ⟨eh_k5 45 rfl rfl, eh_k5 46 rfl rfl⟩, ⟨_, _, rfl⟩, by decide⟩
theorem eV_9_beginKeyed : eh_MV eY_9_beginKeyed eM_9_beginKeyed 1 9 := ⟨⟨rfl, by decide, eh_k3 7 rfl rfl, eh_k1 6 rfl rfl, ⟨by decide, by decide, by decide +kernel⟩, (fun h => by cases h), by decide⟩, ⟨eh_k3 5 rfl rfl, eh_k3 6 rfl rfl⟩, ⟨_, _, rfl⟩, by decide⟩
theorem eV_9_endKeyed : eh_MV eY_9_endKeyed eM_9_endKeyed 2 9 := ⟨⟨rfl, by decide, eh_k3 17 rfl rfl, eh_k1 6 rfl rfl, ⟨by decide, by decide, by decide +kernel⟩, (fun h => by cases h), by decide⟩, ⟨eh_k3 15 rfl rfl, eh_k3 16 rfl rfl⟩, ⟨_, _, rfl⟩, by decide⟩
theorem eV_10_giveRegion : eh_MV eY_10_giveRegion eM_10_giveRegion 5 10 := ⟨⟨rfl, by decide, eh_k4 208 rfl rfl, eh_k1 12 rfl rfl, ⟨by decide, by decide, by decide +kernel⟩, (fun h => by cases h), by decide⟩, ⟨eh_k4 207 rfl rfl, eh_q2 2 rfl⟩, ⟨_, _, rfl⟩, by decide⟩
theorem eV_10_load : eh_MV eY_10_load eM_10_load 3 10 := ⟨⟨rfl, by decide, eh_k4 128 rfl rfl, eh_k1 12 rfl rfl, ⟨by decide, by decide, by decide +kernel⟩, (fun h => by cases h), by decide⟩, ⟨eh_k4 127 rfl rfl, eh_q1 8 rfl⟩, ⟨_, _, rfl⟩, by decide⟩
theorem eV_10_resume : eh_MV eY_10_resume eM_10_resume 3 10 := ⟨⟨rfl, by decide, eh_k4 183 rfl rfl, eh_k1 12 rfl rfl, ⟨by decide, by decide, by decide +kernel⟩, (fun h => by cases h), by decide⟩, ⟨eh_k4 182 rfl rfl, eh_q1 14 rfl⟩, ⟨_, _, rfl⟩, by decide⟩
theorem eV_10_destroy : eh_MV eY_10_destroy eM_10_destroy 1 10 := ⟨⟨rfl, by decide, eh_k4 191 rfl rfl, eh_k1 12 rfl rfl, ⟨by decide, by decide, by decide +kernel⟩, (fun h => by cases h), by decide⟩, ⟨eh_k4 190 rfl rfl, eh_q2 0 rfl⟩, ⟨_, _, rfl⟩, by decide⟩
theorem eV_10_drop : eh_MV eY_10_drop eM_10_drop 1 10 := ⟨⟨rfl, by decide, eh_k4 216 rfl rfl, eh_k1 12 rfl rfl, ⟨by decide, by decide, by decide +kernel⟩, (fun h => by cases h), by decide⟩, ⟨eh_k4 215 rfl rfl, eh_q2 4 rfl⟩, ⟨_, _, rfl⟩, by decide⟩
theorem eV_11_poke : eh_MV eY_11_poke eM_11_poke 6 11 := ⟨⟨rfl, by decide, eh_k3 201 rfl rfl, eh_k1 1 rfl rfl, ⟨by decide, by decide, by decide +kernel⟩, (fun h => by cases h), by decide⟩, ⟨eh_k3 199 rfl rfl, eh_k3 200 rfl rfl⟩, ⟨_, _, rfl⟩, by decide⟩
theorem eV_11_secret : eh_MV eY_11_secret eM_11_secret 3 11 := ⟨⟨rfl, by decide, eh_k3 237 rfl rfl, eh_k1 1 rfl rfl, ⟨by decide, by decide, by decide +kernel⟩, (fun h => by cases h), by decide⟩, ⟨eh_k3 235 rfl rfl, eh_k3 236 rfl rfl⟩, ⟨_, _, rfl⟩, by decide⟩
theorem eV_11_setRegister : eh_MV eY_11_setRegister eM_11_setRegister 3 11 := ⟨⟨rfl, by decide, eh_k4 19 rfl rfl, eh_k1 1 rfl rfl, ⟨by decide, by decide, by decide +kernel⟩, (fun h => by cases h), by decide⟩, ⟨eh_k4 17 rfl rfl, eh_k4 18 rfl rfl⟩, ⟨_, _, rfl⟩, by decide⟩
theorem eV_11_register : eh_MV eY_11_register eM_11_register 2 11 := ⟨⟨rfl, by decide, eh_k4 30 rfl rfl, eh_k1 1 rfl rfl, ⟨by decide, by decide, by decide +kernel⟩, (fun h => by cases h), by decide⟩, ⟨eh_k4 28 rfl rfl, eh_k4 29 rfl rfl⟩, ⟨_, _, rfl⟩, by decide⟩
theorem eV_12_add : eh_MV eY_12_add eM_12_add 2 12 := ⟨⟨rfl, by decide, eh_k7 74 rfl rfl, eh_k1 15 rfl rfl, ⟨by decide, by decide, by decide +kernel⟩, (fun h => by cases h), by decide⟩, ⟨eh_k7 73 rfl rfl, eh_q6 1 rfl⟩, ⟨_, _, rfl⟩, by decide⟩
theorem eV_12_isLet : eh_MV eY_12_isLet eM_12_isLet 4 12 := ⟨⟨rfl, by decide, eh_k8 183 rfl rfl, eh_k1 15 rfl rfl, ⟨by decide, by decide, by decide +kernel⟩, (fun h => by cases h), by decide⟩, ⟨eh_k8 182 rfl rfl, eh_q6 15 rfl⟩, ⟨_, _, rfl⟩, by decide⟩
theorem eV_12_pending : eh_MV eY_12_pending eM_12_pending 1 12 := ⟨⟨rfl, by decide, eh_k8 147 rfl rfl, eh_k1 15 rfl rfl, ⟨by decide, by decide, by decide +kernel⟩, (fun h => by cases h), by decide⟩, ⟨eh_k8 146 rfl rfl, eh_q6 9 rfl⟩, ⟨_, _, rfl⟩, by decide⟩
theorem eV_12_isTaken : eh_MS eY_12_isTaken eM_12_isTaken 3 := ⟨⟨rfl, by decide, eh_k8 239 rfl rfl, eh_k1 15 rfl rfl, ⟨by decide, by decide, by decide +kernel⟩, (fun h => by cases h), by decide⟩, eh_k8 238 rfl rfl⟩
theorem eV_12_immediate : eh_MV eY_12_immediate eM_12_immediate 8 12 := ⟨⟨rfl, by decide, eh_k9 32 rfl rfl, eh_k1 15 rfl rfl, ⟨by decide, by decide, by decide +kernel⟩, (fun h => by cases h), by decide⟩, ⟨eh_k9 31 rfl rfl, eh_q8 1 rfl⟩, ⟨_, _, rfl⟩, by decide⟩
theorem eV_12_plain : eh_MS eY_12_plain eM_12_plain 3 := ⟨⟨rfl, by decide, eh_k9 39 rfl rfl, eh_k1 15 rfl rfl, ⟨by decide, by decide, by decide +kernel⟩, (fun h => by cases h), by decide⟩, eh_k9 38 rfl rfl⟩
theorem eV_12_joined : eh_MS eY_12_joined eM_12_joined 3 := ⟨⟨rfl, by decide, eh_k9 49 rfl rfl, eh_k1 15 rfl rfl, ⟨by decide, by decide, by decide +kernel⟩, (fun h => by cases h), by decide⟩, eh_k9 48 rfl rfl⟩
theorem eV_12_makeRegion : eh_MV eY_12_makeRegion eM_12_makeRegion 5 12 := ⟨⟨rfl, by decide, eh_k9 150 rfl rfl, eh_k1 15 rfl rfl, ⟨by decide, by decide, by decide +kernel⟩, (fun h => by cases h), by decide⟩, ⟨eh_k9 149 rfl rfl, eh_q9 9 rfl⟩, ⟨_, _, rfl⟩, by decide⟩
theorem eV_12_drop : eh_MV eY_12_drop eM_12_drop 1 12 := ⟨⟨rfl, by decide, eh_k9 199 rfl rfl, eh_k1 15 rfl rfl, ⟨by decide, by decide, by decide +kernel⟩, (fun h => by cases h), by decide⟩, ⟨eh_k9 198 rfl rfl, eh_q10 5 rfl⟩, ⟨_, _, rfl⟩, by decide⟩
theorem eV_12_writeTo : eh_MV eY_12_writeTo eM_12_writeTo 5 12 := ⟨⟨rfl, by decide, eh_k9 95 rfl rfl, eh_k1 15 rfl rfl, ⟨by decide, by decide, by decide +kernel⟩, (fun h => by cases h), by decide⟩, ⟨eh_k9 94 rfl rfl, eh_q8 13 rfl⟩, ⟨_, _, rfl⟩, by decide⟩
theorem eV_12_entry : eh_MV eY_12_entry eM_12_entry 3 12 := ⟨⟨rfl, by decide, eh_k10 84 rfl rfl, eh_k1 15 rfl rfl, ⟨by decide, by decide, by decide +kernel⟩, (fun h => by cases h), by decide⟩, ⟨eh_k10 82 rfl rfl, eh_k10 83 rfl rfl⟩, ⟨_, _, rfl⟩, by decide⟩
theorem eV_12_outside : eh_MV eY_12_outside eM_12_outside 0 12 := ⟨⟨rfl, by decide, eh_k10 113 rfl rfl, eh_k1 15 rfl rfl, ⟨by decide, by decide, by decide +kernel⟩, (fun h => by cases h), by decide⟩, ⟨eh_k10 111 rfl rfl, eh_k10 112 rfl rfl⟩, ⟨_, _, rfl⟩, by decide⟩
theorem eV_0_endRound : eh_MV eY_0_endRound eM_0_endRound 1 0 := ⟨⟨rfl, by decide, eh_k6 139 rfl rfl, eh_k1 4 rfl rfl, ⟨by decide, by decide, by decide +kernel⟩, (fun h => by cases h), by decide⟩, ⟨eh_k6 137 rfl rfl, eh_k6 138 rfl rfl⟩, ⟨_, _, rfl⟩, by decide⟩
theorem eV_3_reaches : eh_MV eY_3_reaches eM_3_reaches 4 3 := ⟨⟨rfl, by decide, eh_k6 43 rfl rfl, eh_k1 14 rfl rfl, ⟨by decide, by decide, by decide +kernel⟩, (fun h => by cases h), by decide⟩, ⟨eh_k6 42 rfl rfl, eh_q4 11 rfl⟩, ⟨_, _, rfl⟩, by decide⟩
theorem eV_3_write : eh_MV eY_3_write eM_3_write 4 3 := ⟨⟨rfl, by decide, eh_k6 59 rfl rfl, eh_k1 14 rfl rfl, ⟨by decide, by decide, by decide +kernel⟩, (fun h => by cases h), by decide⟩, ⟨eh_k6 58 rfl rfl, eh_q4 13 rfl⟩, ⟨_, _, rfl⟩, by decide⟩
theorem eV_3_answerOfPath : eh_MV eY_3_answerOfPath eM_3_answerOfPath 3 3 := ⟨⟨rfl, by decide, eh_k6 127 rfl rfl, eh_k1 14 rfl rfl, ⟨by decide, by decide, by decide +kernel⟩, (fun h => by cases h), by decide⟩, ⟨eh_k6 126 rfl rfl, eh_q5 9 rfl⟩, ⟨_, _, rfl⟩, by decide⟩
theorem eV_5_restart : eh_MV eY_5_restart eM_5_restart 1 5 := ⟨⟨rfl, by decide, eh_k2 218 rfl rfl, eh_k1 2 rfl rfl, ⟨by decide, by decide, by decide +kernel⟩, (fun h => by cases h), by decide⟩, ⟨eh_k2 216 rfl rfl, eh_k2 217 rfl rfl⟩, ⟨_, _, rfl⟩, by decide⟩
theorem eV_5_sealReport : eh_MV eY_5_sealReport eM_5_sealReport 1 5 := ⟨⟨rfl, by decide, eh_k6 55 rfl rfl, eh_k1 2 rfl rfl, ⟨by decide, by decide, by decide +kernel⟩, (fun h => by cases h), by decide⟩, ⟨eh_k6 53 rfl rfl, eh_k6 54 rfl rfl⟩, ⟨_, _, rfl⟩, by decide⟩
theorem eV_5_chain : eh_MV eY_5_chain eM_5_chain 5 5 := ⟨⟨rfl, by decide, eh_k5 43 rfl rfl, eh_k1 2 rfl rfl, ⟨by decide, by decide, by decide +kernel⟩, (fun h => by cases h), by decide⟩, ⟨eh_k5 41 rfl rfl, eh_k5 42 rfl rfl⟩, ⟨_, _, rfl⟩, by decide⟩
theorem eV_7_isInterrupted : eh_MV eY_7_isInterrupted eM_7_isInterrupted 0 7 := ⟨⟨rfl, by decide, eh_k5 69 rfl rfl, eh_k1 13 rfl rfl, ⟨by decide, by decide, by decide +kernel⟩, (fun h => by cases h), by decide⟩, ⟨eh_k5 68 rfl rfl, eh_q2 15 rfl⟩, ⟨_, _, rfl⟩, by decide⟩
theorem eV_7_jumpToRegister : eh_MV eY_7_jumpToRegister eM_7_jumpToRegister 1 7 := ⟨⟨rfl, by decide, eh_k5 145 rfl rfl, eh_k1 13 rfl rfl, ⟨by decide, by decide, by decide +kernel⟩, (fun h => by cases h), by decide⟩, ⟨eh_k5 144 rfl rfl, eh_q3 9 rfl⟩, ⟨_, _, rfl⟩, by decide⟩
theorem eV_7_keep : eh_MV eY_7_keep eM_7_keep 3 7 := ⟨⟨rfl, by decide, eh_k5 174 rfl rfl, eh_k1 13 rfl rfl, ⟨by decide, by decide, by decide +kernel⟩, (fun h => by cases h), by decide⟩, ⟨eh_k5 173 rfl rfl, eh_q3 15 rfl⟩, ⟨_, _, rfl⟩, by decide⟩
theorem eV_7_useControl : eh_MV eY_7_useControl eM_7_useControl 3 7 := ⟨⟨rfl, by decide, eh_k5 234 rfl rfl, eh_k1 13 rfl rfl, ⟨by decide, by decide, by decide +kernel⟩, (fun h => by cases h), by decide⟩, ⟨eh_k5 233 rfl rfl, eh_q4 5 rfl⟩, ⟨_, _, rfl⟩, by decide⟩
theorem eV_7_locate : eh_MV eY_7_locate eM_7_locate 3 7 := ⟨⟨rfl, by decide, eh_k5 90 rfl rfl, eh_k1 13 rfl rfl, ⟨by decide, by decide, by decide +kernel⟩, (fun h => by cases h), by decide⟩, ⟨eh_k5 89 rfl rfl, eh_q3 1 rfl⟩, ⟨_, _, rfl⟩, by decide⟩
theorem eV_10_create : eh_MV eY_10_create eM_10_create 2 10 := ⟨⟨rfl, by decide, eh_k4 91 rfl rfl, eh_k1 12 rfl rfl, ⟨by decide, by decide, by decide +kernel⟩, (fun h => by cases h), by decide⟩, ⟨eh_k4 90 rfl rfl, eh_q1 5 rfl⟩, ⟨_, _, rfl⟩, by decide⟩
theorem eV_10_makeFibre : eh_MV eY_10_makeFibre eM_10_makeFibre 3 10 := ⟨⟨rfl, by decide, eh_k4 139 rfl rfl, eh_k1 12 rfl rfl, ⟨by decide, by decide, by decide +kernel⟩, (fun h => by cases h), by decide⟩, ⟨eh_k4 138 rfl rfl, eh_q1 9 rfl⟩, ⟨_, _, rfl⟩, by decide⟩
theorem eV_10_finalise : eh_MV eY_10_finalise eM_10_finalise 2 10 := ⟨⟨rfl, by decide, eh_k4 156 rfl rfl, eh_k1 12 rfl rfl, ⟨by decide, by decide, by decide +kernel⟩, (fun h => by cases h), by decide⟩, ⟨eh_k4 155 rfl rfl, eh_q1 12 rfl⟩, ⟨_, _, rfl⟩, by decide⟩
theorem eV_10_enter : eh_MV eY_10_enter eM_10_enter 4 10 := ⟨⟨rfl, by decide, eh_k4 166 rfl rfl, eh_k1 12 rfl rfl, ⟨by decide, by decide, by decide +kernel⟩, (fun h => by cases h), by decide⟩, ⟨eh_k4 165 rfl rfl, eh_q1 13 rfl⟩, ⟨_, _, rfl⟩, by decide⟩
theorem eV_10_share : eh_MV eY_10_share eM_10_share 3 10 := ⟨⟨rfl, by decide, eh_k4 204 rfl rfl, eh_k1 12 rfl rfl, ⟨by decide, by decide, by decide +kernel⟩, (fun h => by cases h), by decide⟩, ⟨eh_k4 203 rfl rfl, eh_q2 1 rfl⟩, ⟨_, _, rfl⟩, by decide⟩
theorem eV_10_join : eh_MV eY_10_join eM_10_join 4 10 := ⟨⟨rfl, by decide, eh_k4 212 rfl rfl, eh_k1 12 rfl rfl, ⟨by decide, by decide, by decide +kernel⟩, (fun h => by cases h), by decide⟩, ⟨eh_k4 211 rfl rfl, eh_q2 3 rfl⟩, ⟨_, _, rfl⟩, by decide⟩
theorem eV_10_offer : eh_MV eY_10_offer eM_10_offer 3 10 := ⟨⟨rfl, by decide, eh_k5 34 rfl rfl, eh_k1 12 rfl rfl, ⟨by decide, by decide, by decide +kernel⟩, (fun h => by cases h), by decide⟩, ⟨eh_k5 33 rfl rfl, eh_q2 13 rfl⟩, ⟨_, _, rfl⟩, by decide⟩
theorem eV_11_control : eh_MV eY_11_control eM_11_control 2 11 := ⟨⟨rfl, by decide, eh_k4 59 rfl rfl, eh_k1 1 rfl rfl, ⟨by decide, by decide, by decide +kernel⟩, (fun h => by cases h), by decide⟩, ⟨eh_k4 57 rfl rfl, eh_k4 58 rfl rfl⟩, ⟨_, _, rfl⟩, by decide⟩
theorem eV_11_entry : eh_MV eY_11_entry eM_11_entry 3 11 := ⟨⟨rfl, by decide, eh_k6 183 rfl rfl, eh_k1 1 rfl rfl, ⟨by decide, by decide, by decide +kernel⟩, (fun h => by cases h), by decide⟩, ⟨eh_k6 181 rfl rfl, eh_k6 182 rfl rfl⟩, ⟨_, _, rfl⟩, by decide⟩
theorem eV_11_digest : eh_MV eY_11_digest eM_11_digest 3 11 := ⟨⟨rfl, by decide, eh_k6 219 rfl rfl, eh_k1 1 rfl rfl, ⟨by decide, by decide, by decide +kernel⟩, (fun h => by cases h), by decide⟩, ⟨eh_k6 217 rfl rfl, eh_k6 218 rfl rfl⟩, ⟨_, _, rfl⟩, by decide⟩
theorem eV_11_outside : eh_MV eY_11_outside eM_11_outside 0 11 := ⟨⟨rfl, by decide, eh_k7 2 rfl rfl, eh_k1 1 rfl rfl, ⟨by decide, by decide, by decide +kernel⟩, (fun h => by cases h), by decide⟩, ⟨eh_k7 0 rfl rfl, eh_k7 1 rfl rfl⟩, ⟨_, _, rfl⟩, by decide⟩
theorem eV_12_addNumber : eh_MV eY_12_addNumber eM_12_addNumber 2 12 := ⟨⟨rfl, by decide, eh_k7 70 rfl rfl, eh_k1 15 rfl rfl, ⟨by decide, by decide, by decide +kernel⟩, (fun h => by cases h), by decide⟩, ⟨eh_k7 69 rfl rfl, eh_q6 0 rfl⟩, ⟨_, _, rfl⟩, by decide⟩
theorem eV_12_addBytes : eh_MV eY_12_addBytes eM_12_addBytes 4 12 := ⟨⟨rfl, by decide, eh_k7 110 rfl rfl, eh_k1 15 rfl rfl, ⟨by decide, by decide, by decide +kernel⟩, (fun h => by cases h), by decide⟩, ⟨eh_k7 109 rfl rfl, eh_q6 7 rfl⟩, ⟨_, _, rfl⟩, by decide⟩
theorem eV_12_finish : eh_MV eY_12_finish eM_12_finish 3 12 := ⟨⟨rfl, by decide, eh_k7 88 rfl rfl, eh_k1 15 rfl rfl, ⟨by decide, by decide, by decide +kernel⟩, (fun h => by cases h), by decide⟩, ⟨eh_k7 87 rfl rfl, eh_q6 3 rfl⟩, ⟨_, _, rfl⟩, by decide⟩
theorem eV_12_walk : eh_MV eY_12_walk eM_12_walk 3 12 := ⟨⟨rfl, by decide, eh_k8 176 rfl rfl, eh_k1 15 rfl rfl, ⟨by decide, by decide, by decide +kernel⟩, (fun h => by cases h), by decide⟩, ⟨eh_k8 175 rfl rfl, eh_q6 14 rfl⟩, ⟨_, _, rfl⟩, by decide⟩
theorem eV_12_sums : eh_MV eY_12_sums eM_12_sums 7 12 := ⟨⟨rfl, by decide, eh_k9 36 rfl rfl, eh_k1 15 rfl rfl, ⟨by decide, by decide, by decide +kernel⟩, (fun h => by cases h), by decide⟩, ⟨eh_k9 35 rfl rfl, eh_q8 2 rfl⟩, ⟨_, _, rfl⟩, by decide⟩
theorem eV_12_readRegister : eh_MV eY_12_readRegister eM_12_readRegister 2 12 := ⟨⟨rfl, by decide, eh_k9 230 rfl rfl, eh_k1 15 rfl rfl, ⟨by decide, by decide, by decide +kernel⟩, (fun h => by cases h), by decide⟩, ⟨eh_k9 229 rfl rfl, eh_q10 11 rfl⟩, ⟨_, _, rfl⟩, by decide⟩
theorem eV_12_destroy : eh_MV eY_12_destroy eM_12_destroy 1 12 := ⟨⟨rfl, by decide, eh_k9 195 rfl rfl, eh_k1 15 rfl rfl, ⟨by decide, by decide, by decide +kernel⟩, (fun h => by cases h), by decide⟩, ⟨eh_k9 194 rfl rfl, eh_q10 4 rfl⟩, ⟨_, _, rfl⟩, by decide⟩
theorem eV_12_share : eh_MV eY_12_share eM_12_share 4 12 := ⟨⟨rfl, by decide, eh_k9 203 rfl rfl, eh_k1 15 rfl rfl, ⟨by decide, by decide, by decide +kernel⟩, (fun h => by cases h), by decide⟩, ⟨eh_k9 202 rfl rfl, eh_q10 6 rfl⟩, ⟨_, _, rfl⟩, by decide⟩
theorem eV_12_link : eh_MV eY_12_link eM_12_link 4 12 := ⟨⟨rfl, by decide, eh_k9 207 rfl rfl, eh_k1 15 rfl rfl, ⟨by decide, by decide, by decide +kernel⟩, (fun h => by cases h), by decide⟩, ⟨eh_k9 206 rfl rfl, eh_q10 7 rfl⟩, ⟨_, _, rfl⟩, by decide⟩
theorem eV_12_canRead : eh_MV eY_12_canRead eM_12_canRead 3 12 := ⟨⟨rfl, by decide, eh_k9 79 rfl rfl, eh_k1 15 rfl rfl, ⟨by decide, by decide, by decide +kernel⟩, (fun h => by cases h), by decide⟩, ⟨eh_k9 78 rfl rfl, eh_q8 9 rfl⟩, ⟨_, _, rfl⟩, by decide⟩
theorem eV_12_canWrite : eh_MV eY_12_canWrite eM_12_canWrite 3 12 := ⟨⟨rfl, by decide, eh_k9 83 rfl rfl, eh_k1 15 rfl rfl, ⟨by decide, by decide, by decide +kernel⟩, (fun h => by cases h), by decide⟩, ⟨eh_k9 82 rfl rfl, eh_q8 10 rfl⟩, ⟨_, _, rfl⟩, by decide⟩
theorem eV_3_attest : eh_MV eY_3_attest eM_3_attest 3 3 := ⟨⟨rfl, by decide, eh_k6 39 rfl rfl, eh_k1 14 rfl rfl, ⟨by decide, by decide, by decide +kernel⟩, (fun h => by cases h), by decide⟩, ⟨eh_k6 38 rfl rfl, eh_q4 10 rfl⟩, ⟨_, _, rfl⟩, by decide⟩
theorem eV_3_verify : eh_MV eY_3_verify eM_3_verify 2 3 := ⟨⟨rfl, by decide, eh_k6 76 rfl rfl, eh_k1 14 rfl rfl, ⟨by decide, by decide, by decide +kernel⟩, (fun h => by cases h), by decide⟩, ⟨eh_k6 75 rfl rfl, eh_q5 0 rfl⟩, ⟨_, _, rfl⟩, by decide⟩
theorem eV_3_giveKey : eh_MV eY_3_giveKey eM_3_giveKey 3 3 := ⟨⟨rfl, by decide, eh_k6 64 rfl rfl, eh_k1 14 rfl rfl, ⟨by decide, by decide, by decide +kernel⟩, (fun h => by cases h), by decide⟩, ⟨eh_k6 63 rfl rfl, eh_q4 14 rfl⟩, ⟨_, _, rfl⟩, by decide⟩
theorem eV_3_giveRandom : eh_MV eY_3_giveRandom eM_3_giveRandom 3 3 := ⟨⟨rfl, by decide, eh_k6 72 rfl rfl, eh_k1 14 rfl rfl, ⟨by decide, by decide, by decide +kernel⟩, (fun h => by cases h), by decide⟩, ⟨eh_k6 71 rfl rfl, eh_q4 15 rfl⟩, ⟨_, _, rfl⟩, by decide⟩
theorem eV_3_giveDigest : eh_MV eY_3_giveDigest eM_3_giveDigest 3 3 := ⟨⟨rfl, by decide, eh_k6 90 rfl rfl, eh_k1 14 rfl rfl, ⟨by decide, by decide, by decide +kernel⟩, (fun h => by cases h), by decide⟩, ⟨eh_k6 89 rfl rfl, eh_q5 2 rfl⟩, ⟨_, _, rfl⟩, by decide⟩
theorem eV_3_send : eh_MV eY_3_send eM_3_send 3 3 := ⟨⟨rfl, by decide, eh_k6 94 rfl rfl, eh_k1 14 rfl rfl, ⟨by decide, by decide, by decide +kernel⟩, (fun h => by cases h), by decide⟩, ⟨eh_k6 93 rfl rfl, eh_q5 3 rfl⟩, ⟨_, _, rfl⟩, by decide⟩
theorem eV_3_receive : eh_MV eY_3_receive eM_3_receive 2 3 := ⟨⟨rfl, by decide, eh_k6 100 rfl rfl, eh_k1 14 rfl rfl, ⟨by decide, by decide, by decide +kernel⟩, (fun h => by cases h), by decide⟩, ⟨eh_k6 99 rfl rfl, eh_q5 4 rfl⟩, ⟨_, _, rfl⟩, by decide⟩
theorem eV_3_extend : eh_MV eY_3_extend eM_3_extend 2 3 := ⟨⟨rfl, by decide, eh_k6 121 rfl rfl, eh_k1 14 rfl rfl, ⟨by decide, by decide, by decide +kernel⟩, (fun h => by cases h), by decide⟩, ⟨eh_k6 120 rfl rfl, eh_q5 8 rfl⟩, ⟨_, _, rfl⟩, by decide⟩
theorem eV_7_load : eh_MV eY_7_load eM_7_load 1 7 := ⟨⟨rfl, by decide, eh_k5 165 rfl rfl, eh_k1 13 rfl rfl, ⟨by decide, by decide, by decide +kernel⟩, (fun h => by cases h), by decide⟩, ⟨eh_k5 164 rfl rfl, eh_q3 13 rfl⟩, ⟨_, _, rfl⟩, by decide⟩
theorem eV_7_store : eh_MV eY_7_store eM_7_store 1 7 := ⟨⟨rfl, by decide, eh_k5 170 rfl rfl, eh_k1 13 rfl rfl, ⟨by decide, by decide, by decide +kernel⟩, (fun h => by cases h), by decide⟩, ⟨eh_k5 169 rfl rfl, eh_q3 14 rfl⟩, ⟨_, _, rfl⟩, by decide⟩
theorem eV_7_reckonInMemory : eh_MV eY_7_reckonInMemory eM_7_reckonInMemory 1 7 := ⟨⟨rfl, by decide, eh_k5 214 rfl rfl, eh_k1 13 rfl rfl, ⟨by decide, by decide, by decide +kernel⟩, (fun h => by cases h), by decide⟩, ⟨eh_k5 213 rfl rfl, eh_q4 3 rfl⟩, ⟨_, _, rfl⟩, by decide⟩
theorem eV_7_special : eh_MV eY_7_special eM_7_special 1 7 := ⟨⟨rfl, by decide, eh_k5 230 rfl rfl, eh_k1 13 rfl rfl, ⟨by decide, by decide, by decide +kernel⟩, (fun h => by cases h), by decide⟩, ⟨eh_k5 229 rfl rfl, eh_q4 4 rfl⟩, ⟨_, _, rfl⟩, by decide⟩
theorem eV_10_answerOfEnclaves : eh_MV eY_10_answerOfEnclaves eM_10_answerOfEnclaves 6 10 := ⟨⟨rfl, by decide, eh_k4 87 rfl rfl, eh_k1 12 rfl rfl, ⟨by decide, by decide, by decide +kernel⟩, (fun h => by cases h), by decide⟩, ⟨eh_k4 86 rfl rfl, eh_q1 4 rfl⟩, ⟨_, _, rfl⟩, by decide⟩
theorem eV_10_answerOfMachine : eh_MV eY_10_answerOfMachine eM_10_answerOfMachine 5 10 := ⟨⟨rfl, by decide, eh_k4 224 rfl rfl, eh_k1 12 rfl rfl, ⟨by decide, by decide, by decide +kernel⟩, (fun h => by cases h), by decide⟩, ⟨eh_k4 223 rfl rfl, eh_q2 5 rfl⟩, ⟨_, _, rfl⟩, by decide⟩
theorem eV_11_boot : eh_MV eY_11_boot eM_11_boot 1 11 := ⟨⟨rfl, by decide, eh_k3 192 rfl rfl, eh_k1 1 rfl rfl, ⟨by decide, by decide, by decide +kernel⟩, (fun h => by cases h), by decide⟩, ⟨eh_k3 190 rfl rfl, eh_k3 191 rfl rfl⟩, ⟨_, _, rfl⟩, by decide⟩
theorem eV_11_genuine : eh_MV eY_11_genuine eM_11_genuine 1 11 := ⟨⟨rfl, by decide, eh_k6 235 rfl rfl, eh_k1 1 rfl rfl, ⟨by decide, by decide, by decide +kernel⟩, (fun h => by cases h), by decide⟩, ⟨eh_k6 233 rfl rfl, eh_k6 234 rfl rfl⟩, ⟨_, _, rfl⟩, by decide⟩
theorem eV_12_keyed : eh_MV eY_12_keyed eM_12_keyed 1 12 := ⟨⟨rfl, by decide, eh_k7 106 rfl rfl, eh_k1 15 rfl rfl, ⟨by decide, by decide, by decide +kernel⟩, (fun h => by cases h), by decide⟩, ⟨eh_k7 105 rfl rfl, eh_q6 6 rfl⟩, ⟨_, _, rfl⟩, by decide⟩
theorem eV_12_locate : eh_MV eY_12_locate eM_12_locate 4 12 := ⟨⟨rfl, by decide, eh_k8 171 rfl rfl, eh_k1 15 rfl rfl, ⟨by decide, by decide, by decide +kernel⟩, (fun h => by cases h), by decide⟩, ⟨eh_k8 170 rfl rfl, eh_q6 13 rfl⟩, ⟨_, _, rfl⟩, by decide⟩
theorem eV_12_registers : eh_MV eY_12_registers eM_12_registers 6 12 := ⟨⟨rfl, by decide, eh_k9 223 rfl rfl, eh_k1 15 rfl rfl, ⟨by decide, by decide, by decide +kernel⟩, (fun h => by cases h), by decide⟩, ⟨eh_k9 222 rfl rfl, eh_q10 10 rfl⟩, ⟨_, _, rfl⟩, by decide⟩
theorem eV_12_create : eh_MV eY_12_create eM_12_create 2 12 := ⟨⟨rfl, by decide, eh_k9 135 rfl rfl, eh_k1 15 rfl rfl, ⟨by decide, by decide, by decide +kernel⟩, (fun h => by cases h), by decide⟩, ⟨eh_k9 134 rfl rfl, eh_q9 7 rfl⟩, ⟨_, _, rfl⟩, by decide⟩
theorem eV_12_loadPage : eh_MV eY_12_loadPage eM_12_loadPage 3 12 := ⟨⟨rfl, by decide, eh_k9 158 rfl rfl, eh_k1 15 rfl rfl, ⟨by decide, by decide, by decide +kernel⟩, (fun h => by cases h), by decide⟩, ⟨eh_k9 157 rfl rfl, eh_q9 11 rfl⟩, ⟨_, _, rfl⟩, by decide⟩
theorem eV_12_makeThread : eh_MV eY_12_makeThread eM_12_makeThread 3 12 := ⟨⟨rfl, by decide, eh_k9 167 rfl rfl, eh_k1 15 rfl rfl, ⟨by decide, by decide, by decide +kernel⟩, (fun h => by cases h), by decide⟩, ⟨eh_k9 166 rfl rfl, eh_q9 13 rfl⟩, ⟨_, _, rfl⟩, by decide⟩
theorem eV_12_finalise : eh_MV eY_12_finalise eM_12_finalise 2 12 := ⟨⟨rfl, by decide, eh_k9 175 rfl rfl, eh_k1 15 rfl rfl, ⟨by decide, by decide, by decide +kernel⟩, (fun h => by cases h), by decide⟩, ⟨eh_k9 174 rfl rfl, eh_q9 15 rfl⟩, ⟨_, _, rfl⟩, by decide⟩
theorem eV_12_send : eh_MV eY_12_send eM_12_send 4 12 := ⟨⟨rfl, by decide, eh_k9 107 rfl rfl, eh_k1 15 rfl rfl, ⟨by decide, by decide, by decide +kernel⟩, (fun h => by cases h), by decide⟩, ⟨eh_k9 106 rfl rfl, eh_q9 0 rfl⟩, ⟨_, _, rfl⟩, by decide⟩
theorem eV_12_receive : eh_MV eY_12_receive eM_12_receive 3 12 := ⟨⟨rfl, by decide, eh_k9 115 rfl rfl, eh_k1 15 rfl rfl, ⟨by decide, by decide, by decide +kernel⟩, (fun h => by cases h), by decide⟩, ⟨eh_k9 114 rfl rfl, eh_q9 2 rfl⟩, ⟨_, _, rfl⟩, by decide⟩
theorem eV_12_control_2 : eh_MV eY_12_control_2 eM_12_control_2 2 12 := ⟨⟨rfl, by decide, eh_k10 52 rfl rfl, eh_k1 15 rfl rfl, ⟨by decide, by decide, by decide +kernel⟩, (fun h => by cases h), by decide⟩, ⟨eh_k10 50 rfl rfl, eh_k10 51 rfl rfl⟩, ⟨_, _, rfl⟩, by decide⟩
theorem eV_12_digest : eh_MV eY_12_digest eM_12_digest 3 12 := ⟨⟨rfl, by decide, eh_k10 100 rfl rfl, eh_k1 15 rfl rfl, ⟨by decide, by decide, by decide +kernel⟩, (fun h => by cases h), by decide⟩, ⟨eh_k10 98 rfl rfl, eh_k10 99 rfl rfl⟩, ⟨_, _, rfl⟩, by decide⟩
theorem eV_3_serve : eh_MV eY_3_serve eM_3_serve 2 3 := ⟨⟨rfl, by decide, eh_k6 22 rfl rfl, eh_k1 14 rfl rfl, ⟨by decide, by decide, by decide +kernel⟩, (fun h => by cases h), by decide⟩, ⟨eh_k6 20 rfl rfl, eh_k6 21 rfl rfl⟩, ⟨_, _, rfl⟩, by decide⟩
theorem eV_7_doOne : eh_MV eY_7_doOne eM_7_doOne 0 7 := ⟨⟨rfl, by decide, eh_k5 86 rfl rfl, eh_k1 13 rfl rfl, ⟨by decide, by decide, by decide +kernel⟩, (fun h => by cases h), by decide⟩, ⟨eh_k5 85 rfl rfl, eh_q3 0 rfl⟩, ⟨_, _, rfl⟩, by decide⟩
theorem eV_10_serve : eh_MV eY_10_serve eM_10_serve 6 10 := ⟨⟨rfl, by decide, eh_k4 83 rfl rfl, eh_k1 12 rfl rfl, ⟨by decide, by decide, by decide +kernel⟩, (fun h => by cases h), by decide⟩, ⟨eh_k4 81 rfl rfl, eh_k4 82 rfl rfl⟩, ⟨_, _, rfl⟩, by decide⟩
theorem eV_12_mark : eh_MV eY_12_mark eM_12_mark 1 12 := ⟨⟨rfl, by decide, eh_k9 87 rfl rfl, eh_k1 15 rfl rfl, ⟨by decide, by decide, by decide +kernel⟩, (fun h => by cases h), by decide⟩, ⟨eh_k9 86 rfl rfl, eh_q8 11 rfl⟩, ⟨_, _, rfl⟩, by decide⟩
theorem eV_12_boot : eh_MV eY_12_boot eM_12_boot 1 12 := ⟨⟨rfl, by decide, eh_k7 94 rfl rfl, eh_k1 15 rfl rfl, ⟨by decide, by decide, by decide +kernel⟩, (fun h => by cases h), by decide⟩, ⟨eh_k7 92 rfl rfl, eh_k7 93 rfl rfl⟩, ⟨_, _, rfl⟩, by decide⟩
theorem eV_12_load : eh_MV eY_12_load eM_12_load 4 12 := ⟨⟨rfl, by decide, eh_k9 7 rfl rfl, eh_k1 15 rfl rfl, ⟨by decide, by decide, by decide +kernel⟩, (fun h => by cases h), by decide⟩, ⟨eh_k9 6 rfl rfl, eh_q7 11 rfl⟩, ⟨_, _, rfl⟩, by decide⟩
theorem eV_12_store : eh_MV eY_12_store eM_12_store 4 12 := ⟨⟨rfl, by decide, eh_k9 11 rfl rfl, eh_k1 15 rfl rfl, ⟨by decide, by decide, by decide +kernel⟩, (fun h => by cases h), by decide⟩, ⟨eh_k9 10 rfl rfl, eh_q7 12 rfl⟩, ⟨_, _, rfl⟩, by decide⟩
theorem eV_12_asked : eh_MV eY_12_asked eM_12_asked 6 12 := ⟨⟨rfl, by decide, eh_k9 131 rfl rfl, eh_k1 15 rfl rfl, ⟨by decide, by decide, by decide +kernel⟩, (fun h => by cases h), by decide⟩, ⟨eh_k9 130 rfl rfl, eh_q9 6 rfl⟩, ⟨_, _, rfl⟩, by decide⟩
theorem eV_7_step : eh_MV eY_7_step eM_7_step 1 7 := ⟨⟨rfl, by decide, eh_k5 59 rfl rfl, eh_k1 13 rfl rfl, ⟨by decide, by decide, by decide +kernel⟩, (fun h => by cases h), by decide⟩, ⟨eh_k5 57 rfl rfl, eh_k5 58 rfl rfl⟩, ⟨_, _, rfl⟩, by decide⟩
theorem eV_11_call : eh_MV eY_11_call eM_11_call 6 11 := ⟨⟨rfl, by decide, eh_k4 79 rfl rfl, eh_k1 1 rfl rfl, ⟨by decide, by decide, by decide +kernel⟩, (fun h => by cases h), by decide⟩, ⟨eh_k4 77 rfl rfl, eh_k4 78 rfl rfl⟩, ⟨_, _, rfl⟩, by decide⟩
theorem eV_12_isReport : eh_MV eY_12_isReport eM_12_isReport 1 12 := ⟨⟨rfl, by decide, eh_k9 99 rfl rfl, eh_k1 15 rfl rfl, ⟨by decide, by decide, by decide +kernel⟩, (fun h => by cases h), by decide⟩, ⟨eh_k9 98 rfl rfl, eh_q8 14 rfl⟩, ⟨_, _, rfl⟩, by decide⟩
theorem eV_12_loads : eh_MV eY_12_loads eM_12_loads 5 12 := ⟨⟨rfl, by decide, eh_k9 3 rfl rfl, eh_k1 15 rfl rfl, ⟨by decide, by decide, by decide +kernel⟩, (fun h => by cases h), by decide⟩, ⟨eh_k9 2 rfl rfl, eh_q7 10 rfl⟩, ⟨_, _, rfl⟩, by decide⟩
theorem eV_12_atomic : eh_MV eY_12_atomic eM_12_atomic 8 12 := ⟨⟨rfl, by decide, eh_k9 46 rfl rfl, eh_k1 15 rfl rfl, ⟨by decide, by decide, by decide +kernel⟩, (fun h => by cases h), by decide⟩, ⟨eh_k9 45 rfl rfl, eh_q8 3 rfl⟩, ⟨_, _, rfl⟩, by decide⟩
theorem eV_12_systemCall : eh_MV eY_12_systemCall eM_12_systemCall 6 12 := ⟨⟨rfl, by decide, eh_k9 127 rfl rfl, eh_k1 15 rfl rfl, ⟨by decide, by decide, by decide +kernel⟩, (fun h => by cases h), by decide⟩, ⟨eh_k9 126 rfl rfl, eh_q9 5 rfl⟩, ⟨_, _, rfl⟩, by decide⟩
theorem eV_12_attest : eh_MV eY_12_attest eM_12_attest 4 12 := ⟨⟨rfl, by decide, eh_k9 75 rfl rfl, eh_k1 15 rfl rfl, ⟨by decide, by decide, by decide +kernel⟩, (fun h => by cases h), by decide⟩, ⟨eh_k9 74 rfl rfl, eh_q8 8 rfl⟩, ⟨_, _, rfl⟩, by decide⟩
theorem eV_11_run : eh_MV eY_11_run eM_11_run 1 11 := ⟨⟨rfl, by decide, eh_k5 55 rfl rfl, eh_k1 1 rfl rfl, ⟨by decide, by decide, by decide +kernel⟩, (fun h => by cases h), by decide⟩, ⟨eh_k5 53 rfl rfl, eh_k5 54 rfl rfl⟩, ⟨_, _, rfl⟩, by decide⟩
theorem eV_12_answered : eh_MV eY_12_answered eM_12_answered 6 12 := ⟨⟨rfl, by decide, eh_k9 71 rfl rfl, eh_k1 15 rfl rfl, ⟨by decide, by decide, by decide +kernel⟩, (fun h => by cases h), by decide⟩, ⟨eh_k9 70 rfl rfl, eh_q8 7 rfl⟩, ⟨_, _, rfl⟩, by decide⟩
theorem eV_12_call : eh_MV eY_12_call eM_12_call 6 12 := ⟨⟨rfl, by decide, eh_k10 56 rfl rfl, eh_k1 15 rfl rfl, ⟨by decide, by decide, by decide +kernel⟩, (fun h => by cases h), by decide⟩, ⟨eh_k10 54 rfl rfl, eh_k10 55 rfl rfl⟩, ⟨_, _, rfl⟩, by decide⟩
theorem eV_12_genuine : eh_MV eY_12_genuine eM_12_genuine 1 12 := ⟨⟨rfl, by decide, eh_k10 108 rfl rfl, eh_k1 15 rfl rfl, ⟨by decide, by decide, by decide +kernel⟩, (fun h => by cases h), by decide⟩, ⟨eh_k10 106 rfl rfl, eh_k10 107 rfl rfl⟩, ⟨_, _, rfl⟩, by decide⟩
theorem eV_12_threadCall : eh_MV eY_12_threadCall eM_12_threadCall 2 12 := ⟨⟨rfl, by decide, eh_k9 67 rfl rfl, eh_k1 15 rfl rfl, ⟨by decide, by decide, by decide +kernel⟩, (fun h => by cases h), by decide⟩, ⟨eh_k9 66 rfl rfl, eh_q8 6 rfl⟩, ⟨_, _, rfl⟩, by decide⟩
theorem eV_12_calls : eh_MV eY_12_calls eM_12_calls 2 12 := ⟨⟨rfl, by decide, eh_k9 63 rfl rfl, eh_k1 15 rfl rfl, ⟨by decide, by decide, by decide +kernel⟩, (fun h => by cases h), by decide⟩, ⟨eh_k9 62 rfl rfl, eh_q8 5 rfl⟩, ⟨_, _, rfl⟩, by decide⟩
theorem eV_12_control : eh_MV eY_12_control eM_12_control 6 12 := ⟨⟨rfl, by decide, eh_k9 59 rfl rfl, eh_k1 15 rfl rfl, ⟨by decide, by decide, by decide +kernel⟩, (fun h => by cases h), by decide⟩, ⟨eh_k9 58 rfl rfl, eh_q8 4 rfl⟩, ⟨_, _, rfl⟩, by decide⟩
theorem eV_12_execute : eh_MV eY_12_execute eM_12_execute 3 12 := ⟨⟨rfl, by decide, eh_k8 223 rfl rfl, eh_k1 15 rfl rfl, ⟨by decide, by decide, by decide +kernel⟩, (fun h => by cases h), by decide⟩, ⟨eh_k8 222 rfl rfl, eh_q7 6 rfl⟩, ⟨_, _, rfl⟩, by decide⟩
theorem eV_12_step : eh_MV eY_12_step eM_12_step 1 12 := ⟨⟨rfl, by decide, eh_k8 143 rfl rfl, eh_k1 15 rfl rfl, ⟨by decide, by decide, by decide +kernel⟩, (fun h => by cases h), by decide⟩, ⟨eh_k8 142 rfl rfl, eh_q6 8 rfl⟩, ⟨_, _, rfl⟩, by decide⟩
theorem eV_12_run_2 : eh_MV eY_12_run_2 eM_12_run_2 1 12 := ⟨⟨rfl, by decide, eh_k8 139 rfl rfl, eh_k1 15 rfl rfl, ⟨by decide, by decide, by decide +kernel⟩, (fun h => by cases h), by decide⟩, ⟨eh_k8 137 rfl rfl, eh_k8 138 rfl rfl⟩, ⟨_, _, rfl⟩, by decide⟩
theorem eL_0_37 : eh_FL eh_R0 37 0 11 := ⟨eh_R0, eh_T0, 15, rfl, by decide, by decide, rfl, eh_k1 128 rfl rfl⟩
theorem eL_0_50 : eh_FL eh_R0 50 0 1 := ⟨eh_R0, eh_T0, 15, rfl, by decide, by decide, rfl, eh_k1 108 rfl rfl⟩
theorem eL_0_57 : eh_FL eh_R0 57 0 8 := ⟨eh_R0, eh_T0, 15, rfl, by decide, by decide, rfl, eh_k1 118 rfl rfl⟩
theorem eL_0_72 : eh_FL eh_R0 72 8 1 := ⟨eh_R8, eh_T8, 2, rfl, by decide, by decide, rfl, eh_k1 94 rfl rfl⟩
theorem eL_0_15 : eh_FL eh_R0 15 0 3 := ⟨eh_R0, eh_T0, 15, rfl, by decide, by decide, rfl, eh_k1 111 rfl rfl⟩
theorem eL_0_19 : eh_FL eh_R0 19 0 4 := ⟨eh_R0, eh_T0, 15, rfl, by decide, by decide, rfl, eh_k1 112 rfl rfl⟩
theorem eL_0_22 : eh_FL eh_R0 22 0 5 := ⟨eh_R0, eh_T0, 15, rfl, by decide, by decide, rfl, eh_k1 113 rfl rfl⟩
theorem eL_0_25 : eh_FL eh_R0 25 0 6 := ⟨eh_R0, eh_T0, 15, rfl, by decide, by decide, rfl, eh_k1 114 rfl rfl⟩
theorem eL_0_54 : eh_FL eh_R0 54 0 7 := ⟨eh_R0, eh_T0, 15, rfl, by decide, by decide, rfl, eh_k1 115 rfl rfl⟩
theorem eL_0_60 : eh_FL eh_R0 60 0 9 := ⟨eh_R0, eh_T0, 15, rfl, by decide, by decide, rfl, eh_k1 121 rfl rfl⟩
theorem eL_0_11 : eh_FL eh_R0 11 0 2 := ⟨eh_R0, eh_T0, 15, rfl, by decide, by decide, rfl, eh_k1 110 rfl rfl⟩
theorem eL_2_37 : eh_FL eh_R2 37 2 2 := ⟨eh_R2, eh_T2, 14, rfl, by decide, by decide, rfl, eh_k2 61 rfl rfl⟩
theorem eL_2_46 : eh_FL eh_R2 46 2 8 := ⟨eh_R2, eh_T2, 14, rfl, by decide, by decide, rfl, eh_k2 80 rfl rfl⟩
theorem eL_2_49 : eh_FL eh_R2 49 2 9 := ⟨eh_R2, eh_T2, 14, rfl, by decide, by decide, rfl, eh_k2 84 rfl rfl⟩
theorem eL_2_53 : eh_FL eh_R2 53 2 10 := ⟨eh_R2, eh_T2, 14, rfl, by decide, by decide, rfl, eh_k2 85 rfl rfl⟩
theorem eL_2_56 : eh_FL eh_R2 56 2 11 := ⟨eh_R2, eh_T2, 14, rfl, by decide, by decide, rfl, eh_k2 86 rfl rfl⟩
theorem eL_2_59 : eh_FL eh_R2 59 2 12 := ⟨eh_R2, eh_T2, 14, rfl, by decide, by decide, rfl, eh_k2 87 rfl rfl⟩
theorem eL_2_62 : eh_FL eh_R2 62 2 13 := ⟨eh_R2, eh_T2, 14, rfl, by decide, by decide, rfl, eh_k2 88 rfl rfl⟩
theorem eL_2_9 : eh_FL eh_R2 9 2 1 := ⟨eh_R2, eh_T2, 14, rfl, by decide, by decide, rfl, eh_k2 54 rfl rfl⟩
theorem eL_3_108 : eh_FL eh_R3 108 2 2 := ⟨eh_R2, eh_T2, 14, rfl, by decide, by decide, rfl, eh_k2 60 rfl rfl⟩
theorem eL_3_31 : eh_FL eh_R3 31 2 1 := ⟨eh_R2, eh_T2, 14, rfl, by decide, by decide, rfl, eh_k2 55 rfl rfl⟩
theorem eL_3_234 : eh_FL eh_R3 234 2 8 := ⟨eh_R2, eh_T2, 14, rfl, by decide, by decide, rfl, eh_k2 82 rfl rfl⟩
theorem eL_4_25 : eh_FL eh_R4 25 4 2 := ⟨eh_R4, eh_T4, 19, rfl, by decide, by decide, rfl, eh_k1 211 rfl rfl⟩
theorem eL_4_28 : eh_FL eh_R4 28 4 3 := ⟨eh_R4, eh_T4, 19, rfl, by decide, by decide, rfl, eh_k1 214 rfl rfl⟩
theorem eL_4_47 : eh_FL eh_R4 47 4 9 := ⟨eh_R4, eh_T4, 19, rfl, by decide, by decide, rfl, eh_k1 234 rfl rfl⟩
theorem eL_4_53 : eh_FL eh_R4 53 4 11 := ⟨eh_R4, eh_T4, 19, rfl, by decide, by decide, rfl, eh_k1 238 rfl rfl⟩
theorem eL_4_59 : eh_FL eh_R4 59 4 13 := ⟨eh_R4, eh_T4, 19, rfl, by decide, by decide, rfl, eh_k2 0 rfl rfl⟩
theorem eL_4_62 : eh_FL eh_R4 62 4 14 := ⟨eh_R4, eh_T4, 19, rfl, by decide, by decide, rfl, eh_k2 2 rfl rfl⟩
theorem eL_4_65 : eh_FL eh_R4 65 4 15 := ⟨eh_R4, eh_T4, 19, rfl, by decide, by decide, rfl, eh_k2 3 rfl rfl⟩
theorem eL_4_68 : eh_FL eh_R4 68 4 16 := ⟨eh_R4, eh_T4, 19, rfl, by decide, by decide, rfl, eh_k2 4 rfl rfl⟩
theorem eC_4_94 : Cond.constant eh_R4 94 (786722) ∈ eh_tb := eh_k4 54 rfl rfl
theorem eC_4_95 : Cond.constant eh_R4 95 (-2143289345) ∈ eh_tb := eh_k4 55 rfl rfl
theorem eL_4_50 : eh_FL eh_R4 50 4 10 := ⟨eh_R4, eh_T4, 19, rfl, by decide, by decide, rfl, eh_k1 237 rfl rfl⟩
theorem eL_4_56 : eh_FL eh_R4 56 4 12 := ⟨eh_R4, eh_T4, 19, rfl, by decide, by decide, rfl, eh_k1 239 rfl rfl⟩
theorem eL_4_71 : eh_FL eh_R4 71 4 17 := ⟨eh_R4, eh_T4, 19, rfl, by decide, by decide, rfl, eh_k2 5 rfl rfl⟩
theorem eL_4_74 : eh_FL eh_R4 74 4 18 := ⟨eh_R4, eh_T4, 19, rfl, by decide, by decide, rfl, eh_k2 6 rfl rfl⟩
theorem eL_5_103 : eh_FL eh_R5 103 1 5 := ⟨eh_R1, eh_T1, 12, rfl, by decide, by decide, rfl, eh_k2 137 rfl rfl⟩
theorem eL_5_39 : eh_FL eh_R5 39 5 4 := ⟨eh_R5, eh_T5, 17, rfl, by decide, by decide, rfl, eh_k3 38 rfl rfl⟩
theorem eL_5_33 : eh_FL eh_R5 33 5 3 := ⟨eh_R5, eh_T5, 17, rfl, by decide, by decide, rfl, eh_k3 34 rfl rfl⟩
theorem eL_5_99 : eh_FL eh_R5 99 2 6 := ⟨eh_R2, eh_T2, 14, rfl, by decide, by decide, rfl, eh_k2 74 rfl rfl⟩
theorem eL_5_12 : eh_FL eh_R5 12 5 0 := ⟨eh_R5, eh_T5, 17, rfl, by decide, by decide, rfl, eh_k3 22 rfl rfl⟩
theorem eL_5_127 : eh_FL eh_R5 127 6 0 := ⟨eh_R6, eh_T6, 9, rfl, by decide, by decide, rfl, eh_k1 40 rfl rfl⟩
theorem eL_5_130 : eh_FL eh_R5 130 6 1 := ⟨eh_R6, eh_T6, 9, rfl, by decide, by decide, rfl, eh_k1 45 rfl rfl⟩
theorem eL_5_133 : eh_FL eh_R5 133 1 6 := ⟨eh_R1, eh_T1, 12, rfl, by decide, by decide, rfl, eh_k2 142 rfl rfl⟩
theorem eL_5_136 : eh_FL eh_R5 136 6 2 := ⟨eh_R6, eh_T6, 9, rfl, by decide, by decide, rfl, eh_k1 48 rfl rfl⟩
theorem eL_5_117 : eh_FL eh_R5 117 5 11 := ⟨eh_R5, eh_T5, 17, rfl, by decide, by decide, rfl, eh_k3 58 rfl rfl⟩
theorem eL_5_142 : eh_FL eh_R5 142 2 7 := ⟨eh_R2, eh_T2, 14, rfl, by decide, by decide, rfl, eh_k2 78 rfl rfl⟩
theorem eL_5_145 : eh_FL eh_R5 145 2 0 := ⟨eh_R2, eh_T2, 14, rfl, by decide, by decide, rfl, eh_k2 53 rfl rfl⟩
theorem eL_5_167 : eh_FL eh_R5 167 0 0 := ⟨eh_R0, eh_T0, 15, rfl, by decide, by decide, rfl, eh_k1 106 rfl rfl⟩
theorem eL_5_170 : eh_FL eh_R5 170 2 3 := ⟨eh_R2, eh_T2, 14, rfl, by decide, by decide, rfl, eh_k2 66 rfl rfl⟩
theorem eL_5_21 : eh_FL eh_R5 21 5 1 := ⟨eh_R5, eh_T5, 17, rfl, by decide, by decide, rfl, eh_k3 25 rfl rfl⟩
theorem eL_5_66 : eh_FL eh_R5 66 5 14 := ⟨eh_R5, eh_T5, 17, rfl, by decide, by decide, rfl, eh_k3 63 rfl rfl⟩
theorem eL_5_60 : eh_FL eh_R5 60 5 9 := ⟨eh_R5, eh_T5, 17, rfl, by decide, by decide, rfl, eh_k3 52 rfl rfl⟩
theorem eL_5_69 : eh_FL eh_R5 69 5 15 := ⟨eh_R5, eh_T5, 17, rfl, by decide, by decide, rfl, eh_k3 64 rfl rfl⟩
theorem eC_5_202 : Cond.constantLong eh_R5 202 (6364136223846793005) ∈ eh_tb := eh_k7 14 rfl rfl
theorem eC_6_46 : Cond.constant eh_R6 46 (131072) ∈ eh_tb := eh_k3 206 rfl rfl
theorem eL_6_31 : eh_FL eh_R6 31 6 6 := ⟨eh_R6, eh_T6, 9, rfl, by decide, by decide, rfl, eh_k1 57 rfl rfl⟩
theorem eC_6_58 : Cond.constantLong eh_R6 58 (131072) ∈ eh_tb := eh_k3 211 rfl rfl
theorem eL_6_11 : eh_FL eh_R6 11 6 0 := ⟨eh_R6, eh_T6, 9, rfl, by decide, by decide, rfl, eh_k1 39 rfl rfl⟩
theorem eL_6_34 : eh_FL eh_R6 34 6 7 := ⟨eh_R6, eh_T6, 9, rfl, by decide, by decide, rfl, eh_k1 58 rfl rfl⟩
theorem eL_6_21 : eh_FL eh_R6 21 6 3 := ⟨eh_R6, eh_T6, 9, rfl, by decide, by decide, rfl, eh_k1 50 rfl rfl⟩
theorem eL_6_24 : eh_FL eh_R6 24 6 4 := ⟨eh_R6, eh_T6, 9, rfl, by decide, by decide, rfl, eh_k1 52 rfl rfl⟩
theorem eC_6_67 : Cond.constant eh_R6 67 (65535) ∈ eh_tb := eh_k3 220 rfl rfl
theorem eL_6_37 : eh_FL eh_R6 37 6 8 := ⟨eh_R6, eh_T6, 9, rfl, by decide, by decide, rfl, eh_k1 59 rfl rfl⟩
theorem eC_6_30 : Cond.constant eh_R6 30 (32768) ∈ eh_tb := eh_k1 38 rfl rfl
theorem eL_6_15 : eh_FL eh_R6 15 6 1 := ⟨eh_R6, eh_T6, 9, rfl, by decide, by decide, rfl, eh_k1 44 rfl rfl⟩
theorem eL_6_18 : eh_FL eh_R6 18 6 2 := ⟨eh_R6, eh_T6, 9, rfl, by decide, by decide, rfl, eh_k1 47 rfl rfl⟩
theorem eL_7_123 : eh_FL eh_R7 123 7 11 := ⟨eh_R7, eh_T7, 13, rfl, by decide, by decide, rfl, eh_k3 150 rfl rfl⟩
theorem eL_7_85 : eh_FL eh_R7 85 7 10 := ⟨eh_R7, eh_T7, 13, rfl, by decide, by decide, rfl, eh_k3 149 rfl rfl⟩
theorem eL_7_57 : eh_FL eh_R7 57 7 7 := ⟨eh_R7, eh_T7, 13, rfl, by decide, by decide, rfl, eh_k3 146 rfl rfl⟩
theorem eC_7_204 : Cond.constant eh_R7 204 (1044480) ∈ eh_tb := eh_k5 133 rfl rfl
theorem eC_7_242 : Cond.constantLong eh_R7 242 (4294967295) ∈ eh_tb := eh_k5 95 rfl rfl
theorem eC_7_326 : Cond.constant eh_R7 326 (524288) ∈ eh_tb := eh_k5 112 rfl rfl
theorem eC_7_327 : Cond.constant eh_R7 327 (262144) ∈ eh_tb := eh_k5 113 rfl rfl
theorem eL_7_259 : eh_FL eh_R7 259 4 3 := ⟨eh_R4, eh_T4, 19, rfl, by decide, by decide, rfl, eh_k1 216 rfl rfl⟩
theorem eL_7_323 : eh_FL eh_R7 323 4 9 := ⟨eh_R4, eh_T4, 19, rfl, by decide, by decide, rfl, eh_k1 235 rfl rfl⟩
theorem eL_7_39 : eh_FL eh_R7 39 7 4 := ⟨eh_R7, eh_T7, 13, rfl, by decide, by decide, rfl, eh_k3 143 rfl rfl⟩
theorem eL_8_15 : eh_FL eh_R8 15 8 1 := ⟨eh_R8, eh_T8, 2, rfl, by decide, by decide, rfl, eh_k1 93 rfl rfl⟩
theorem eL_8_9 : eh_FL eh_R8 9 8 0 := ⟨eh_R8, eh_T8, 2, rfl, by decide, by decide, rfl, eh_k1 92 rfl rfl⟩
theorem eK_8_19 : eh_LK eh_R8 19 arraycopyName := eh_k5 39 rfl rfl
theorem eL_9_28 : eh_FL eh_R9 28 9 3 := ⟨eh_R9, eh_T9, 4, rfl, by decide, by decide, rfl, eh_k1 189 rfl rfl⟩
theorem eL_9_7 : eh_FL eh_R9 7 9 0 := ⟨eh_R9, eh_T9, 4, rfl, by decide, by decide, rfl, eh_k1 186 rfl rfl⟩
theorem eG_9_19 : Cond.fieldLink eh_R9 19 (eh_sc 0) (eh_sn 0) "[I" ∈ eh_tb := eh_k2 188 rfl rfl
theorem eK_9_22 : eh_LK eh_R9 22 arraycopyName := eh_k2 190 rfl rfl
theorem eL_9_13 : eh_FL eh_R9 13 9 1 := ⟨eh_R9, eh_T9, 4, rfl, by decide, by decide, rfl, eh_k1 187 rfl rfl⟩
theorem eG_9_59 : Cond.fieldLink eh_R9 59 (eh_sc 1) (eh_sn 1) "[I" ∈ eh_tb := eh_k2 205 rfl rfl
theorem eC_9_62 : Cond.constant eh_R9 62 (65280) ∈ eh_tb := eh_k2 200 rfl rfl
theorem eL_10_136 : eh_FL eh_R10 136 5 4 := ⟨eh_R5, eh_T5, 17, rfl, by decide, by decide, rfl, eh_k3 40 rfl rfl⟩
theorem eL_10_146 : eh_FL eh_R10 146 1 5 := ⟨eh_R1, eh_T1, 12, rfl, by decide, by decide, rfl, eh_k2 138 rfl rfl⟩
theorem eL_10_9 : eh_FL eh_R10 9 10 0 := ⟨eh_R10, eh_T10, 2, rfl, by decide, by decide, rfl, eh_k3 107 rfl rfl⟩
theorem eL_10_186 : eh_FL eh_R10 186 5 3 := ⟨eh_R5, eh_T5, 17, rfl, by decide, by decide, rfl, eh_k3 37 rfl rfl⟩
theorem eL_10_193 : eh_FL eh_R10 193 2 6 := ⟨eh_R2, eh_T2, 14, rfl, by decide, by decide, rfl, eh_k2 75 rfl rfl⟩
theorem eL_10_264 : eh_FL eh_R10 264 5 10 := ⟨eh_R5, eh_T5, 17, rfl, by decide, by decide, rfl, eh_k3 57 rfl rfl⟩
theorem eC_10_268 : Cond.constant eh_R10 268 (100000) ∈ eh_tb := eh_k5 30 rfl rfl
theorem eL_10_269 : eh_FL eh_R10 269 4 6 := ⟨eh_R4, eh_T4, 19, rfl, by decide, by decide, rfl, eh_k1 227 rfl rfl⟩
theorem eL_11_12 : eh_FL eh_R11 12 11 0 := ⟨eh_R11, eh_T11, 3, rfl, by decide, by decide, rfl, eh_k3 179 rfl rfl⟩
theorem eL_11_128 : eh_FL eh_R11 128 5 1 := ⟨eh_R5, eh_T5, 17, rfl, by decide, by decide, rfl, eh_k3 29 rfl rfl⟩
theorem eL_11_176 : eh_FL eh_R11 176 0 1 := ⟨eh_R0, eh_T0, 15, rfl, by decide, by decide, rfl, eh_k1 109 rfl rfl⟩
theorem eL_11_101 : eh_FL eh_R11 101 5 3 := ⟨eh_R5, eh_T5, 17, rfl, by decide, by decide, rfl, eh_k3 36 rfl rfl⟩
theorem eL_11_202 : eh_FL eh_R11 202 2 6 := ⟨eh_R2, eh_T2, 14, rfl, by decide, by decide, rfl, eh_k2 76 rfl rfl⟩
theorem eL_11_203 : eh_FL eh_R11 203 2 3 := ⟨eh_R2, eh_T2, 14, rfl, by decide, by decide, rfl, eh_k2 67 rfl rfl⟩
theorem eL_11_206 : eh_FL eh_R11 206 2 7 := ⟨eh_R2, eh_T2, 14, rfl, by decide, by decide, rfl, eh_k2 79 rfl rfl⟩
theorem eL_11_209 : eh_FL eh_R11 209 2 4 := ⟨eh_R2, eh_T2, 14, rfl, by decide, by decide, rfl, eh_k2 70 rfl rfl⟩
theorem eL_11_212 : eh_FL eh_R11 212 2 5 := ⟨eh_R2, eh_T2, 14, rfl, by decide, by decide, rfl, eh_k2 72 rfl rfl⟩
theorem eL_11_215 : eh_FL eh_R11 215 6 0 := ⟨eh_R6, eh_T6, 9, rfl, by decide, by decide, rfl, eh_k1 43 rfl rfl⟩
theorem eL_11_218 : eh_FL eh_R11 218 6 1 := ⟨eh_R6, eh_T6, 9, rfl, by decide, by decide, rfl, eh_k1 46 rfl rfl⟩
theorem eL_11_221 : eh_FL eh_R11 221 6 2 := ⟨eh_R6, eh_T6, 9, rfl, by decide, by decide, rfl, eh_k1 49 rfl rfl⟩
theorem eL_11_224 : eh_FL eh_R11 224 6 3 := ⟨eh_R6, eh_T6, 9, rfl, by decide, by decide, rfl, eh_k1 51 rfl rfl⟩
theorem eL_11_227 : eh_FL eh_R11 227 6 4 := ⟨eh_R6, eh_T6, 9, rfl, by decide, by decide, rfl, eh_k1 53 rfl rfl⟩
theorem eL_11_230 : eh_FL eh_R11 230 6 5 := ⟨eh_R6, eh_T6, 9, rfl, by decide, by decide, rfl, eh_k1 56 rfl rfl⟩
theorem eL_11_43 : eh_FL eh_R11 43 5 0 := ⟨eh_R5, eh_T5, 17, rfl, by decide, by decide, rfl, eh_k3 24 rfl rfl⟩
theorem eL_11_112 : eh_FL eh_R11 112 4 2 := ⟨eh_R4, eh_T4, 19, rfl, by decide, by decide, rfl, eh_k1 213 rfl rfl⟩
theorem eL_11_113 : eh_FL eh_R11 113 4 3 := ⟨eh_R4, eh_T4, 19, rfl, by decide, by decide, rfl, eh_k1 215 rfl rfl⟩
theorem eL_11_116 : eh_FL eh_R11 116 4 4 := ⟨eh_R4, eh_T4, 19, rfl, by decide, by decide, rfl, eh_k1 220 rfl rfl⟩
theorem eL_11_139 : eh_FL eh_R11 139 4 5 := ⟨eh_R4, eh_T4, 19, rfl, by decide, by decide, rfl, eh_k1 224 rfl rfl⟩
theorem eL_11_88 : eh_FL eh_R11 88 5 2 := ⟨eh_R5, eh_T5, 17, rfl, by decide, by decide, rfl, eh_k3 32 rfl rfl⟩
theorem eC_11_316 : Cond.constant eh_R11 316 (-2147483648) ∈ eh_tb := eh_k4 71 rfl rfl
theorem eL_12_193 : eh_FL eh_R12 193 12 74 := ⟨eh_R12, eh_T12, 87, rfl, by decide, by decide, rfl, eh_k7 185 rfl rfl⟩
theorem eL_12_199 : eh_FL eh_R12 199 12 76 := ⟨eh_R12, eh_T12, 87, rfl, by decide, by decide, rfl, eh_k7 187 rfl rfl⟩
theorem eG_12_234 : Cond.fieldLink eh_R12 234 (eh_sc 2) (eh_sn 2) "[I" ∈ eh_tb := eh_k7 65 rfl rfl
theorem eL_12_206 : eh_FL eh_R12 206 12 78 := ⟨eh_R12, eh_T12, 87, rfl, by decide, by decide, rfl, eh_k7 189 rfl rfl⟩
theorem eL_12_258 : eh_FL eh_R12 258 12 79 := ⟨eh_R12, eh_T12, 87, rfl, by decide, by decide, rfl, eh_k7 190 rfl rfl⟩
theorem eL_12_311 : eh_FL eh_R12 311 12 67 := ⟨eh_R12, eh_T12, 87, rfl, by decide, by decide, rfl, eh_k7 178 rfl rfl⟩
theorem eL_12_314 : eh_FL eh_R12 314 12 64 := ⟨eh_R12, eh_T12, 87, rfl, by decide, by decide, rfl, eh_k7 175 rfl rfl⟩
theorem eL_12_317 : eh_FL eh_R12 317 12 66 := ⟨eh_R12, eh_T12, 87, rfl, by decide, by decide, rfl, eh_k7 177 rfl rfl⟩
theorem eL_12_121 : eh_FL eh_R12 121 12 39 := ⟨eh_R12, eh_T12, 87, rfl, by decide, by decide, rfl, eh_k7 150 rfl rfl⟩
theorem eL_12_124 : eh_FL eh_R12 124 12 40 := ⟨eh_R12, eh_T12, 87, rfl, by decide, by decide, rfl, eh_k7 151 rfl rfl⟩
theorem eL_12_127 : eh_FL eh_R12 127 12 41 := ⟨eh_R12, eh_T12, 87, rfl, by decide, by decide, rfl, eh_k7 152 rfl rfl⟩
theorem eL_12_10 : eh_FL eh_R12 10 12 0 := ⟨eh_R12, eh_T12, 87, rfl, by decide, by decide, rfl, eh_k7 111 rfl rfl⟩
theorem eL_12_70 : eh_FL eh_R12 70 12 19 := ⟨eh_R12, eh_T12, 87, rfl, by decide, by decide, rfl, eh_k7 130 rfl rfl⟩
theorem eL_12_139 : eh_FL eh_R12 139 12 45 := ⟨eh_R12, eh_T12, 87, rfl, by decide, by decide, rfl, eh_k7 156 rfl rfl⟩
theorem eL_12_142 : eh_FL eh_R12 142 12 46 := ⟨eh_R12, eh_T12, 87, rfl, by decide, by decide, rfl, eh_k7 157 rfl rfl⟩
theorem eL_12_145 : eh_FL eh_R12 145 12 47 := ⟨eh_R12, eh_T12, 87, rfl, by decide, by decide, rfl, eh_k7 158 rfl rfl⟩
theorem eL_12_323 : eh_FL eh_R12 323 12 48 := ⟨eh_R12, eh_T12, 87, rfl, by decide, by decide, rfl, eh_k7 159 rfl rfl⟩
theorem eL_12_130 : eh_FL eh_R12 130 12 42 := ⟨eh_R12, eh_T12, 87, rfl, by decide, by decide, rfl, eh_k7 153 rfl rfl⟩
theorem eL_12_133 : eh_FL eh_R12 133 12 43 := ⟨eh_R12, eh_T12, 87, rfl, by decide, by decide, rfl, eh_k7 154 rfl rfl⟩
theorem eL_12_136 : eh_FL eh_R12 136 12 44 := ⟨eh_R12, eh_T12, 87, rfl, by decide, by decide, rfl, eh_k7 155 rfl rfl⟩
theorem eL_12_340 : eh_FL eh_R12 340 12 83 := ⟨eh_R12, eh_T12, 87, rfl, by decide, by decide, rfl, eh_k7 194 rfl rfl⟩
theorem eL_12_343 : eh_FL eh_R12 343 12 84 := ⟨eh_R12, eh_T12, 87, rfl, by decide, by decide, rfl, eh_k7 195 rfl rfl⟩
theorem eL_12_148 : eh_FL eh_R12 148 12 49 := ⟨eh_R12, eh_T12, 87, rfl, by decide, by decide, rfl, eh_k7 160 rfl rfl⟩
theorem eL_12_280 : eh_FL eh_R12 280 12 20 := ⟨eh_R12, eh_T12, 87, rfl, by decide, by decide, rfl, eh_k7 131 rfl rfl⟩
theorem eL_12_290 : eh_FL eh_R12 290 12 50 := ⟨eh_R12, eh_T12, 87, rfl, by decide, by decide, rfl, eh_k7 161 rfl rfl⟩
theorem eL_12_61 : eh_FL eh_R12 61 12 16 := ⟨eh_R12, eh_T12, 87, rfl, by decide, by decide, rfl, eh_k7 127 rfl rfl⟩
theorem eL_12_76 : eh_FL eh_R12 76 12 24 := ⟨eh_R12, eh_T12, 87, rfl, by decide, by decide, rfl, eh_k7 135 rfl rfl⟩
theorem eL_12_18 : eh_FL eh_R12 18 12 2 := ⟨eh_R12, eh_T12, 87, rfl, by decide, by decide, rfl, eh_k7 113 rfl rfl⟩
theorem eL_12_21 : eh_FL eh_R12 21 12 3 := ⟨eh_R12, eh_T12, 87, rfl, by decide, by decide, rfl, eh_k7 114 rfl rfl⟩
theorem eL_12_28 : eh_FL eh_R12 28 12 5 := ⟨eh_R12, eh_T12, 87, rfl, by decide, by decide, rfl, eh_k7 116 rfl rfl⟩
theorem eL_12_34 : eh_FL eh_R12 34 12 7 := ⟨eh_R12, eh_T12, 87, rfl, by decide, by decide, rfl, eh_k7 118 rfl rfl⟩
theorem eL_12_40 : eh_FL eh_R12 40 12 9 := ⟨eh_R12, eh_T12, 87, rfl, by decide, by decide, rfl, eh_k7 120 rfl rfl⟩
theorem eL_12_43 : eh_FL eh_R12 43 12 10 := ⟨eh_R12, eh_T12, 87, rfl, by decide, by decide, rfl, eh_k7 121 rfl rfl⟩
theorem eL_12_46 : eh_FL eh_R12 46 12 11 := ⟨eh_R12, eh_T12, 87, rfl, by decide, by decide, rfl, eh_k7 122 rfl rfl⟩
theorem eL_12_14 : eh_FL eh_R12 14 12 1 := ⟨eh_R12, eh_T12, 87, rfl, by decide, by decide, rfl, eh_k7 112 rfl rfl⟩
theorem eL_12_73 : eh_FL eh_R12 73 12 23 := ⟨eh_R12, eh_T12, 87, rfl, by decide, by decide, rfl, eh_k7 134 rfl rfl⟩
theorem eL_12_24 : eh_FL eh_R12 24 12 4 := ⟨eh_R12, eh_T12, 87, rfl, by decide, by decide, rfl, eh_k7 115 rfl rfl⟩
theorem eL_12_414 : eh_FL eh_R12 414 12 86 := ⟨eh_R12, eh_T12, 87, rfl, by decide, by decide, rfl, eh_k7 197 rfl rfl⟩
theorem eL_12_58 : eh_FL eh_R12 58 12 15 := ⟨eh_R12, eh_T12, 87, rfl, by decide, by decide, rfl, eh_k7 126 rfl rfl⟩
theorem eL_12_64 : eh_FL eh_R12 64 12 17 := ⟨eh_R12, eh_T12, 87, rfl, by decide, by decide, rfl, eh_k7 128 rfl rfl⟩
theorem eL_12_67 : eh_FL eh_R12 67 12 18 := ⟨eh_R12, eh_T12, 87, rfl, by decide, by decide, rfl, eh_k7 129 rfl rfl⟩
theorem eC_12_346 : Cond.constantLong eh_R12 346 (4294967295) ∈ eh_tb := eh_k8 172 rfl rfl
theorem eC_12_410 : Cond.constant eh_R12 410 (-2147483648) ∈ eh_tb := eh_k8 159 rfl rfl
theorem eC_12_486 : Cond.constant eh_R12 486 (786722) ∈ eh_tb := eh_k9 235 rfl rfl
theorem eC_12_487 : Cond.constant eh_R12 487 (-2143289345) ∈ eh_tb := eh_k9 236 rfl rfl
theorem eL_12_31 : eh_FL eh_R12 31 12 6 := ⟨eh_R12, eh_T12, 87, rfl, by decide, by decide, rfl, eh_k7 117 rfl rfl⟩
theorem eL_12_37 : eh_FL eh_R12 37 12 8 := ⟨eh_R12, eh_T12, 87, rfl, by decide, by decide, rfl, eh_k7 119 rfl rfl⟩
theorem eL_12_49 : eh_FL eh_R12 49 12 12 := ⟨eh_R12, eh_T12, 87, rfl, by decide, by decide, rfl, eh_k7 123 rfl rfl⟩
theorem eL_12_52 : eh_FL eh_R12 52 12 13 := ⟨eh_R12, eh_T12, 87, rfl, by decide, by decide, rfl, eh_k7 124 rfl rfl⟩
theorem eL_12_55 : eh_FL eh_R12 55 12 14 := ⟨eh_R12, eh_T12, 87, rfl, by decide, by decide, rfl, eh_k7 125 rfl rfl⟩
theorem eL_12_94 : eh_FL eh_R12 94 12 30 := ⟨eh_R12, eh_T12, 87, rfl, by decide, by decide, rfl, eh_k7 141 rfl rfl⟩
theorem eC_12_505 : Cond.constant eh_R12 505 (32768) ∈ eh_tb := eh_k9 139 rfl rfl
theorem eC_12_9 : Cond.constant eh_R12 9 (131072) ∈ eh_tb := eh_k7 60 rfl rfl
theorem eC_12_569 : Cond.constant eh_R12 569 (130816) ∈ eh_tb := eh_k9 159 rfl rfl
theorem eL_12_157 : eh_FL eh_R12 157 12 54 := ⟨eh_R12, eh_T12, 87, rfl, by decide, by decide, rfl, eh_k7 165 rfl rfl⟩
theorem eL_12_160 : eh_FL eh_R12 160 12 55 := ⟨eh_R12, eh_T12, 87, rfl, by decide, by decide, rfl, eh_k7 166 rfl rfl⟩
theorem eL_12_163 : eh_FL eh_R12 163 12 56 := ⟨eh_R12, eh_T12, 87, rfl, by decide, by decide, rfl, eh_k7 167 rfl rfl⟩
theorem eL_12_166 : eh_FL eh_R12 166 12 57 := ⟨eh_R12, eh_T12, 87, rfl, by decide, by decide, rfl, eh_k7 168 rfl rfl⟩
theorem eL_12_296 : eh_FL eh_R12 296 12 58 := ⟨eh_R12, eh_T12, 87, rfl, by decide, by decide, rfl, eh_k7 169 rfl rfl⟩
theorem eL_12_169 : eh_FL eh_R12 169 12 61 := ⟨eh_R12, eh_T12, 87, rfl, by decide, by decide, rfl, eh_k7 172 rfl rfl⟩
theorem eL_12_305 : eh_FL eh_R12 305 12 62 := ⟨eh_R12, eh_T12, 87, rfl, by decide, by decide, rfl, eh_k7 173 rfl rfl⟩
theorem eL_12_172 : eh_FL eh_R12 172 12 63 := ⟨eh_R12, eh_T12, 87, rfl, by decide, by decide, rfl, eh_k7 174 rfl rfl⟩
theorem eL_12_175 : eh_FL eh_R12 175 12 65 := ⟨eh_R12, eh_T12, 87, rfl, by decide, by decide, rfl, eh_k7 176 rfl rfl⟩
theorem eL_12_287 : eh_FL eh_R12 287 12 22 := ⟨eh_R12, eh_T12, 87, rfl, by decide, by decide, rfl, eh_k7 133 rfl rfl⟩
theorem eL_12_79 : eh_FL eh_R12 79 12 25 := ⟨eh_R12, eh_T12, 87, rfl, by decide, by decide, rfl, eh_k7 136 rfl rfl⟩
theorem eL_12_82 : eh_FL eh_R12 82 12 26 := ⟨eh_R12, eh_T12, 87, rfl, by decide, by decide, rfl, eh_k7 137 rfl rfl⟩
theorem eL_12_151 : eh_FL eh_R12 151 12 51 := ⟨eh_R12, eh_T12, 87, rfl, by decide, by decide, rfl, eh_k7 162 rfl rfl⟩
theorem eL_12_293 : eh_FL eh_R12 293 12 52 := ⟨eh_R12, eh_T12, 87, rfl, by decide, by decide, rfl, eh_k7 163 rfl rfl⟩
theorem eL_12_154 : eh_FL eh_R12 154 12 53 := ⟨eh_R12, eh_T12, 87, rfl, by decide, by decide, rfl, eh_k7 164 rfl rfl⟩
theorem eC_12_639 : Cond.constantLong eh_R12 639 (6364136223846793005) ∈ eh_tb := eh_k10 118 rfl rfl
theorem eL_0_40 : eh_FL eh_R0 40 0 12 := ⟨eh_R0, eh_T0, 15, rfl, by decide, by decide, rfl, eh_k1 132 rfl rfl⟩
theorem eL_0_43 : eh_FL eh_R0 43 0 13 := ⟨eh_R0, eh_T0, 15, rfl, by decide, by decide, rfl, eh_k1 135 rfl rfl⟩
theorem eL_0_69 : eh_FL eh_R0 69 0 14 := ⟨eh_R0, eh_T0, 15, rfl, by decide, by decide, rfl, eh_k1 138 rfl rfl⟩
theorem eK_0_63 : eh_LK eh_R0 63 eY_8_clear := eh_k2 230 rfl rfl
theorem eK_0_96 : eh_LK eh_R0 96 eY_5_mix := eh_k7 34 rfl rfl
theorem eK_2_40 : eh_LK eh_R2 40 eY_23_fill := eh_k4 152 rfl rfl
theorem eL_3_15 : eh_FL eh_R3 15 3 0 := ⟨eh_R3, eh_T3, 4, rfl, by decide, by decide, rfl, eh_k3 126 rfl rfl⟩
theorem eL_3_202 : eh_FL eh_R3 202 6 0 := ⟨eh_R6, eh_T6, 9, rfl, by decide, by decide, rfl, eh_k1 41 rfl rfl⟩
theorem eL_3_209 : eh_FL eh_R3 209 6 5 := ⟨eh_R6, eh_T6, 9, rfl, by decide, by decide, rfl, eh_k1 55 rfl rfl⟩
theorem eL_3_25 : eh_FL eh_R3 25 3 1 := ⟨eh_R3, eh_T3, 4, rfl, by decide, by decide, rfl, eh_k3 127 rfl rfl⟩
theorem eL_3_73 : eh_FL eh_R3 73 2 3 := ⟨eh_R2, eh_T2, 14, rfl, by decide, by decide, rfl, eh_k2 64 rfl rfl⟩
theorem eK_3_111 : eh_LK eh_R3 111 eY_5_note := eh_k6 27 rfl rfl
theorem eK_3_198 : eh_LK eh_R3 198 eY_5_hasRegion := eh_k6 85 rfl rfl
theorem eK_3_205 : eh_LK eh_R3 205 eY_6_sideOf := eh_k6 86 rfl rfl
theorem eL_4_31 : eh_FL eh_R4 31 4 4 := ⟨eh_R4, eh_T4, 19, rfl, by decide, by decide, rfl, eh_k1 218 rfl rfl⟩
theorem eL_4_35 : eh_FL eh_R4 35 4 5 := ⟨eh_R4, eh_T4, 19, rfl, by decide, by decide, rfl, eh_k1 221 rfl rfl⟩
theorem eL_4_38 : eh_FL eh_R4 38 4 6 := ⟨eh_R4, eh_T4, 19, rfl, by decide, by decide, rfl, eh_k1 225 rfl rfl⟩
theorem eL_4_41 : eh_FL eh_R4 41 4 7 := ⟨eh_R4, eh_T4, 19, rfl, by decide, by decide, rfl, eh_k1 228 rfl rfl⟩
theorem eL_4_44 : eh_FL eh_R4 44 4 8 := ⟨eh_R4, eh_T4, 19, rfl, by decide, by decide, rfl, eh_k1 231 rfl rfl⟩
theorem eL_4_9 : eh_FL eh_R4 9 4 1 := ⟨eh_R4, eh_T4, 19, rfl, by decide, by decide, rfl, eh_k1 207 rfl rfl⟩
theorem eK_4_19 : eh_LK eh_R4 19 eY_23_fill := eh_k3 2 rfl rfl
theorem eL_4_77 : eh_FL eh_R4 77 0 0 := ⟨eh_R0, eh_T0, 15, rfl, by decide, by decide, rfl, eh_k1 105 rfl rfl⟩
theorem eK_4_86 : eh_LK eh_R4 86 eY_0_wantsTheSystem := eh_k4 72 rfl rfl
theorem eN_4_82 : Cond.methodLinkNest eh_R4 82 eY_11_isBelow "EnclaveHouse" ∈ lw_tbl := eh_n4 68 rfl
theorem eK_4_96 : eh_LK eh_R4 96 eY_5_mix := eh_k7 19 rfl rfl
theorem eL_5_139 : eh_FL eh_R5 139 4 0 := ⟨eh_R4, eh_T4, 19, rfl, by decide, by decide, rfl, eh_k1 205 rfl rfl⟩
theorem eL_5_146 : eh_FL eh_R5 146 4 5 := ⟨eh_R4, eh_T4, 19, rfl, by decide, by decide, rfl, eh_k1 223 rfl rfl⟩
theorem eL_5_149 : eh_FL eh_R5 149 4 4 := ⟨eh_R4, eh_T4, 19, rfl, by decide, by decide, rfl, eh_k1 219 rfl rfl⟩
theorem eL_5_152 : eh_FL eh_R5 152 4 6 := ⟨eh_R4, eh_T4, 19, rfl, by decide, by decide, rfl, eh_k1 226 rfl rfl⟩
theorem eL_5_155 : eh_FL eh_R5 155 4 7 := ⟨eh_R4, eh_T4, 19, rfl, by decide, by decide, rfl, eh_k1 230 rfl rfl⟩
theorem eL_5_158 : eh_FL eh_R5 158 4 8 := ⟨eh_R4, eh_T4, 19, rfl, by decide, by decide, rfl, eh_k1 233 rfl rfl⟩
theorem eK_5_161 : eh_LK eh_R5 161 eY_6_unreserve := eh_k4 176 rfl rfl
theorem eL_5_164 : eh_FL eh_R5 164 4 1 := ⟨eh_R4, eh_T4, 19, rfl, by decide, by decide, rfl, eh_k1 210 rfl rfl⟩
theorem eL_5_189 : eh_FL eh_R5 189 5 12 := ⟨eh_R5, eh_T5, 17, rfl, by decide, by decide, rfl, eh_k3 60 rfl rfl⟩
theorem eL_5_72 : eh_FL eh_R5 72 5 16 := ⟨eh_R5, eh_T5, 17, rfl, by decide, by decide, rfl, eh_k3 65 rfl rfl⟩
theorem eK_5_192 : eh_LK eh_R5 192 eY_5_isCounted := eh_k6 109 rfl rfl
theorem eK_5_196 : eh_LK eh_R5 196 arraycopyName := eh_k6 113 rfl rfl
theorem eK_6_40 : eh_LK eh_R6 40 eY_23_fill := eh_k2 223 rfl rfl
theorem eK_6_47 : eh_LK eh_R6 47 eY_6_wordAt := eh_k4 14 rfl rfl
theorem eK_6_51 : eh_LK eh_R6 51 eY_6_isOpen := eh_k3 207 rfl rfl
theorem eL_6_27 : eh_FL eh_R6 27 6 5 := ⟨eh_R6, eh_T6, 9, rfl, by decide, by decide, rfl, eh_k1 54 rfl rfl⟩
theorem eK_6_64 : eh_LK eh_R6 64 eY_6_sideOf := eh_k5 125 rfl rfl
theorem eK_6_68 : eh_LK eh_R6 68 eY_6_change := eh_k3 216 rfl rfl
theorem eK_6_72 : eh_LK eh_R6 72 eY_6_markPages := eh_k4 111 rfl rfl
theorem eK_6_76 : eh_LK eh_R6 76 eY_6_wipe := eh_k4 115 rfl rfl
theorem eK_6_79 : eh_LK eh_R6 79 eY_6_entryPart := eh_k6 188 rfl rfl
theorem eK_6_83 : eh_LK eh_R6 83 eY_5_mix := eh_k7 11 rfl rfl
theorem eL_7_106 : eh_FL eh_R7 106 7 9 := ⟨eh_R7, eh_T7, 13, rfl, by decide, by decide, rfl, eh_k3 148 rfl rfl⟩
theorem eL_7_109 : eh_FL eh_R7 109 4 2 := ⟨eh_R4, eh_T4, 19, rfl, by decide, by decide, rfl, eh_k1 212 rfl rfl⟩
theorem eL_7_112 : eh_FL eh_R7 112 4 5 := ⟨eh_R4, eh_T4, 19, rfl, by decide, by decide, rfl, eh_k1 222 rfl rfl⟩
theorem eL_7_114 : eh_FL eh_R7 114 2 2 := ⟨eh_R2, eh_T2, 14, rfl, by decide, by decide, rfl, eh_k2 59 rfl rfl⟩
theorem eL_7_121 : eh_FL eh_R7 121 2 1 := ⟨eh_R2, eh_T2, 14, rfl, by decide, by decide, rfl, eh_k2 56 rfl rfl⟩
theorem eL_7_122 : eh_FL eh_R7 122 7 8 := ⟨eh_R7, eh_T7, 13, rfl, by decide, by decide, rfl, eh_k3 147 rfl rfl⟩
theorem eL_7_43 : eh_FL eh_R7 43 5 3 := ⟨eh_R5, eh_T5, 17, rfl, by decide, by decide, rfl, eh_k3 35 rfl rfl⟩
theorem eL_7_47 : eh_FL eh_R7 47 7 5 := ⟨eh_R7, eh_T7, 13, rfl, by decide, by decide, rfl, eh_k3 144 rfl rfl⟩
theorem eL_7_51 : eh_FL eh_R7 51 4 1 := ⟨eh_R4, eh_T4, 19, rfl, by decide, by decide, rfl, eh_k1 208 rfl rfl⟩
theorem eL_7_9 : eh_FL eh_R7 9 7 0 := ⟨eh_R7, eh_T7, 13, rfl, by decide, by decide, rfl, eh_k3 139 rfl rfl⟩
theorem eL_7_91 : eh_FL eh_R7 91 7 12 := ⟨eh_R7, eh_T7, 13, rfl, by decide, by decide, rfl, eh_k3 151 rfl rfl⟩
theorem eL_7_94 : eh_FL eh_R7 94 7 6 := ⟨eh_R7, eh_T7, 13, rfl, by decide, by decide, rfl, eh_k3 145 rfl rfl⟩
theorem eK_7_117 : eh_LK eh_R7 117 eY_5_hasFibre := eh_k5 64 rfl rfl
theorem eK_7_201 : eh_LK eh_R7 201 eY_7_fail := eh_k5 91 rfl rfl
theorem eN_7_214 : Cond.methodLinkNest eh_R7 214 eY_11_isBelow "EnclaveHouse" ∈ lw_tbl := eh_n5 158 rfl
theorem eL_7_274 : eh_FL eh_R7 274 4 13 := ⟨eh_R4, eh_T4, 19, rfl, by decide, by decide, rfl, eh_k2 1 rfl rfl⟩
theorem eL_7_62 : eh_FL eh_R7 62 4 4 := ⟨eh_R4, eh_T4, 19, rfl, by decide, by decide, rfl, eh_k1 217 rfl rfl⟩
theorem eK_7_277 : eh_LK eh_R7 277 eY_4_leaveTrap := eh_k6 6 rfl rfl
theorem eC_7_308 : Cond.constantLong eh_R7 308 (4194303) ∈ eh_tb := eh_k5 100 rfl rfl
theorem eC_7_314 : Cond.constantLong eh_R7 314 (-1) ∈ eh_tb := eh_k5 105 rfl rfl
theorem eC_7_316 : Cond.constant eh_R7 316 (1047552) ∈ eh_tb := eh_k5 107 rfl rfl
theorem eL_7_21 : eh_FL eh_R7 21 7 1 := ⟨eh_R7, eh_T7, 13, rfl, by decide, by decide, rfl, eh_k3 140 rfl rfl⟩
theorem eL_7_291 : eh_FL eh_R7 291 4 18 := ⟨eh_R4, eh_T4, 19, rfl, by decide, by decide, rfl, eh_k2 7 rfl rfl⟩
theorem eK_7_159 : eh_LK eh_R7 159 eY_6_wordAt := eh_k5 106 rfl rfl
theorem eK_7_305 : eh_LK eh_R7 305 eY_7_accessFault := eh_k5 102 rfl rfl
theorem eK_7_310 : eh_LK eh_R7 310 eY_6_isOpen := eh_k5 101 rfl rfl
theorem eK_7_317 : eh_LK eh_R7 317 eY_7_allows := eh_k5 108 rfl rfl
theorem eK_7_320 : eh_LK eh_R7 320 eY_7_pageFault := eh_k5 114 rfl rfl
theorem eK_8_25 : eh_LK eh_R8 25 eY_5_mix := eh_k7 29 rfl rfl
theorem eK_9_32 : eh_LK eh_R9 32 eY_9_compress := eh_k2 201 rfl rfl
theorem eK_9_35 : eh_LK eh_R9 35 eY_9_flip := eh_k2 197 rfl rfl
theorem eK_9_43 : eh_LK eh_R9 43 eY_9_clearBlockFrom := eh_k2 211 rfl rfl
theorem eL_10_200 : eh_FL eh_R10 200 2 3 := ⟨eh_R2, eh_T2, 14, rfl, by decide, by decide, rfl, eh_k2 65 rfl rfl⟩
theorem eK_10_150 : eh_LK eh_R10 150 eY_5_hasEnclave := eh_k4 129 rfl rfl
theorem eL_10_235 : eh_FL eh_R10 235 0 10 := ⟨eh_R0, eh_T0, 15, rfl, by decide, by decide, rfl, eh_k1 125 rfl rfl⟩
theorem eL_10_241 : eh_FL eh_R10 241 8 1 := ⟨eh_R8, eh_T8, 2, rfl, by decide, by decide, rfl, eh_k1 96 rfl rfl⟩
theorem eL_10_82 : eh_FL eh_R10 82 5 1 := ⟨eh_R5, eh_T5, 17, rfl, by decide, by decide, rfl, eh_k3 28 rfl rfl⟩
theorem eK_10_238 : eh_LK eh_R10 238 eY_8_add := eh_k4 229 rfl rfl
theorem eL_10_244 : eh_FL eh_R10 244 5 2 := ⟨eh_R5, eh_T5, 17, rfl, by decide, by decide, rfl, eh_k3 33 rfl rfl⟩
theorem eK_10_248 : eh_LK eh_R10 248 eY_4_raiseSignal := eh_k4 237 rfl rfl
theorem eC_10_253 : Cond.constant eh_R10 253 (130816) ∈ eh_tb := eh_k5 5 rfl rfl
theorem eK_10_254 : eh_LK eh_R10 254 eY_0_ask := eh_k5 6 rfl rfl
theorem eL_10_258 : eh_FL eh_R10 258 1 1 := ⟨eh_R1, eh_T1, 12, rfl, by decide, by decide, rfl, eh_k2 129 rfl rfl⟩
theorem eL_10_21 : eh_FL eh_R10 21 10 1 := ⟨eh_R10, eh_T10, 2, rfl, by decide, by decide, rfl, eh_k3 108 rfl rfl⟩
theorem eL_10_261 : eh_FL eh_R10 261 1 7 := ⟨eh_R1, eh_T1, 12, rfl, by decide, by decide, rfl, eh_k2 145 rfl rfl⟩
theorem eK_10_154 : eh_LK eh_R10 154 eY_5_sizeOf := eh_k4 130 rfl rfl
theorem eK_10_160 : eh_LK eh_R10 160 eY_5_baseOf := eh_k4 132 rfl rfl
theorem eK_10_173 : eh_LK eh_R10 173 eY_6_wordAt := eh_k4 134 rfl rfl
theorem eK_11_57 : eh_LK eh_R11 57 eY_6_isOpen := eh_k3 225 rfl rfl
theorem eK_11_61 : eh_LK eh_R11 61 eY_6_wordAt := eh_k3 226 rfl rfl
theorem eL_11_105 : eh_FL eh_R11 105 2 2 := ⟨eh_R2, eh_T2, 14, rfl, by decide, by decide, rfl, eh_k2 62 rfl rfl⟩
theorem eL_11_111 : eh_FL eh_R11 111 2 1 := ⟨eh_R2, eh_T2, 14, rfl, by decide, by decide, rfl, eh_k2 57 rfl rfl⟩
theorem eK_11_98 : eh_LK eh_R11 98 eY_5_hasFibre := eh_k4 35 rfl rfl
theorem eK_11_85 : eh_LK eh_R11 85 eY_11_isHart := eh_k4 24 rfl rfl
theorem eK_11_120 : eh_LK eh_R11 120 eY_4_maySystemUse := eh_k4 47 rfl rfl
theorem eK_11_124 : eh_LK eh_R11 124 eY_4_writeControl := eh_k4 50 rfl rfl
theorem eL_11_155 : eh_FL eh_R11 155 0 14 := ⟨eh_R0, eh_T0, 15, rfl, by decide, by decide, rfl, eh_k1 139 rfl rfl⟩
theorem eL_11_158 : eh_FL eh_R11 158 0 12 := ⟨eh_R0, eh_T0, 15, rfl, by decide, by decide, rfl, eh_k1 133 rfl rfl⟩
theorem eL_11_162 : eh_FL eh_R11 162 0 11 := ⟨eh_R0, eh_T0, 15, rfl, by decide, by decide, rfl, eh_k1 130 rfl rfl⟩
theorem eK_11_165 : eh_LK eh_R11 165 eY_8_add := eh_k6 155 rfl rfl
theorem eL_11_170 : eh_FL eh_R11 170 0 13 := ⟨eh_R0, eh_T0, 15, rfl, by decide, by decide, rfl, eh_k1 136 rfl rfl⟩
theorem eK_11_173 : eh_LK eh_R11 173 eY_8_at := eh_k6 160 rfl rfl
theorem eL_11_179 : eh_FL eh_R11 179 5 4 := ⟨eh_R5, eh_T5, 17, rfl, by decide, by decide, rfl, eh_k3 41 rfl rfl⟩
theorem eL_11_183 : eh_FL eh_R11 183 1 5 := ⟨eh_R1, eh_T1, 12, rfl, by decide, by decide, rfl, eh_k2 140 rfl rfl⟩
theorem eL_11_188 : eh_FL eh_R11 188 1 8 := ⟨eh_R1, eh_T1, 12, rfl, by decide, by decide, rfl, eh_k2 149 rfl rfl⟩
theorem eL_11_191 : eh_FL eh_R11 191 1 7 := ⟨eh_R1, eh_T1, 12, rfl, by decide, by decide, rfl, eh_k2 144 rfl rfl⟩
theorem eL_11_194 : eh_FL eh_R11 194 1 10 := ⟨eh_R1, eh_T1, 12, rfl, by decide, by decide, rfl, eh_k2 155 rfl rfl⟩
theorem eL_11_196 : eh_FL eh_R11 196 1 11 := ⟨eh_R1, eh_T1, 12, rfl, by decide, by decide, rfl, eh_k2 158 rfl rfl⟩
theorem eL_11_199 : eh_FL eh_R11 199 1 9 := ⟨eh_R1, eh_T1, 12, rfl, by decide, by decide, rfl, eh_k2 152 rfl rfl⟩
theorem eK_11_69 : eh_LK eh_R11 69 eY_5_sizeOf := eh_k4 2 rfl rfl
theorem eK_11_72 : eh_LK eh_R11 72 eY_5_baseOf := eh_k4 6 rfl rfl
theorem eK_11_240 : eh_LK eh_R11 240 eY_5_eventPart := eh_k6 200 rfl rfl
theorem eL_11_243 : eh_FL eh_R11 243 0 10 := ⟨eh_R0, eh_T0, 15, rfl, by decide, by decide, rfl, eh_k1 127 rfl rfl⟩
theorem eK_11_246 : eh_LK eh_R11 246 eY_0_swapDiskByte := eh_k6 212 rfl rfl
theorem eL_11_136 : eh_FL eh_R11 136 5 10 := ⟨eh_R5, eh_T5, 17, rfl, by decide, by decide, rfl, eh_k3 56 rfl rfl⟩
theorem eL_11_287 : eh_FL eh_R11 287 0 0 := ⟨eh_R0, eh_T0, 15, rfl, by decide, by decide, rfl, eh_k1 107 rfl rfl⟩
theorem eL_11_296 : eh_FL eh_R11 296 5 11 := ⟨eh_R5, eh_T5, 17, rfl, by decide, by decide, rfl, eh_k3 59 rfl rfl⟩
theorem eL_11_299 : eh_FL eh_R11 299 8 1 := ⟨eh_R8, eh_T8, 2, rfl, by decide, by decide, rfl, eh_k1 97 rfl rfl⟩
theorem eL_11_301 : eh_FL eh_R11 301 0 7 := ⟨eh_R0, eh_T0, 15, rfl, by decide, by decide, rfl, eh_k1 117 rfl rfl⟩
theorem eL_11_304 : eh_FL eh_R11 304 5 12 := ⟨eh_R5, eh_T5, 17, rfl, by decide, by decide, rfl, eh_k3 61 rfl rfl⟩
theorem eL_11_307 : eh_FL eh_R11 307 0 8 := ⟨eh_R0, eh_T0, 15, rfl, by decide, by decide, rfl, eh_k1 120 rfl rfl⟩
theorem eL_11_310 : eh_FL eh_R11 310 0 9 := ⟨eh_R0, eh_T0, 15, rfl, by decide, by decide, rfl, eh_k1 123 rfl rfl⟩
theorem eK_11_290 : eh_LK eh_R11 290 eY_6_regionCount := eh_k7 39 rfl rfl
theorem eK_11_293 : eh_LK eh_R11 293 eY_5_fibreCount := eh_k7 43 rfl rfl
theorem eK_11_313 : eh_LK eh_R11 313 eY_11_countOfHart := eh_k7 47 rfl rfl
theorem eK_11_36 : eh_LK eh_R11 36 eY_5_enclaveCount := eh_k3 193 rfl rfl
theorem eL_11_92 : eh_FL eh_R11 92 4 1 := ⟨eh_R4, eh_T4, 19, rfl, by decide, by decide, rfl, eh_k1 209 rfl rfl⟩
theorem eL_12_196 : eh_FL eh_R12 196 12 75 := ⟨eh_R12, eh_T12, 87, rfl, by decide, by decide, rfl, eh_k7 186 rfl rfl⟩
theorem eL_12_203 : eh_FL eh_R12 203 12 77 := ⟨eh_R12, eh_T12, 87, rfl, by decide, by decide, rfl, eh_k7 188 rfl rfl⟩
theorem eG_12_251 : Cond.fieldLink eh_R12 251 (eh_sc 3) (eh_sn 3) "[I" ∈ eh_tb := eh_k7 83 rfl rfl
theorem eK_12_245 : eh_LK eh_R12 245 eY_20_rotateRight := eh_k7 80 rfl rfl
theorem eK_12_320 : eh_LK eh_R12 320 eY_12_setByte := eh_k9 16 rfl rfl
theorem eL_12_97 : eh_FL eh_R12 97 12 31 := ⟨eh_R12, eh_T12, 87, rfl, by decide, by decide, rfl, eh_k7 142 rfl rfl⟩
theorem eK_12_326 : eh_LK eh_R12 326 eY_12_gate := eh_k8 188 rfl rfl
theorem eK_12_330 : eh_LK eh_R12 330 eY_12_isOf := eh_k8 192 rfl rfl
theorem eK_12_334 : eh_LK eh_R12 334 eY_12_isAccepted := eh_k8 196 rfl rfl
theorem eC_12_379 : Cond.constant eh_R12 379 (524288) ∈ eh_tb := eh_k8 217 rfl rfl
theorem eC_12_380 : Cond.constant eh_R12 380 (262144) ∈ eh_tb := eh_k8 218 rfl rfl
theorem eC_12_381 : Cond.constant eh_R12 381 (4194303) ∈ eh_tb := eh_k8 219 rfl rfl
theorem eK_12_359 : eh_LK eh_R12 359 eY_12_except := eh_k8 203 rfl rfl
theorem eK_12_372 : eh_LK eh_R12 372 eY_12_unpaged := eh_k8 210 rfl rfl
theorem eC_12_393 : Cond.constant eh_R12 393 (65535) ∈ eh_tb := eh_k9 24 rfl rfl
theorem eK_12_390 : eh_LK eh_R12 390 eY_12_sharedAt := eh_k9 20 rfl rfl
theorem eK_12_394 : eh_LK eh_R12 394 eY_12_happens := eh_k9 25 rfl rfl
theorem eK_12_401 : eh_LK eh_R12 401 eY_12_who := eh_k8 164 rfl rfl
theorem eL_12_417 : eh_FL eh_R12 417 12 85 := ⟨eh_R12, eh_T12, 87, rfl, by decide, by decide, rfl, eh_k7 196 rfl rfl⟩
theorem eL_12_85 : eh_FL eh_R12 85 12 27 := ⟨eh_R12, eh_T12, 87, rfl, by decide, by decide, rfl, eh_k7 138 rfl rfl⟩
theorem eL_12_88 : eh_FL eh_R12 88 12 28 := ⟨eh_R12, eh_T12, 87, rfl, by decide, by decide, rfl, eh_k7 139 rfl rfl⟩
theorem eK_12_576 : eh_LK eh_R12 576 eY_12_isThread := eh_k9 180 rfl rfl
theorem eK_12_579 : eh_LK eh_R12 579 eY_12_enter := eh_k9 184 rfl rfl
theorem eK_12_549 : eh_LK eh_R12 549 eY_12_isEnclave := eh_k9 108 rfl rfl
theorem eL_12_106 : eh_FL eh_R12 106 12 34 := ⟨eh_R12, eh_T12, 87, rfl, by decide, by decide, rfl, eh_k7 145 rfl rfl⟩
theorem eL_12_178 : eh_FL eh_R12 178 12 68 := ⟨eh_R12, eh_T12, 87, rfl, by decide, by decide, rfl, eh_k7 179 rfl rfl⟩
theorem eL_12_181 : eh_FL eh_R12 181 12 69 := ⟨eh_R12, eh_T12, 87, rfl, by decide, by decide, rfl, eh_k7 180 rfl rfl⟩
theorem eL_12_617 : eh_FL eh_R12 617 12 70 := ⟨eh_R12, eh_T12, 87, rfl, by decide, by decide, rfl, eh_k7 181 rfl rfl⟩
theorem eK_12_308 : eh_LK eh_R12 308 eY_12_clearPath := eh_k7 95 rfl rfl
theorem eL_12_299 : eh_FL eh_R12 299 12 59 := ⟨eh_R12, eh_T12, 87, rfl, by decide, by decide, rfl, eh_k7 170 rfl rfl⟩
theorem eL_12_302 : eh_FL eh_R12 302 12 60 := ⟨eh_R12, eh_T12, 87, rfl, by decide, by decide, rfl, eh_k7 171 rfl rfl⟩
theorem eK_12_570 : eh_LK eh_R12 570 eY_12_areOpen := eh_k9 160 rfl rfl
theorem eC_12_625 : Cond.constant eh_R12 625 (131052) ∈ eh_tb := eh_k10 5 rfl rfl
theorem eK_12_368 : eh_LK eh_R12 368 eY_12_littleWord := eh_k8 207 rfl rfl
theorem eK_12_626 : eh_LK eh_R12 626 eY_12_isWord := eh_k10 10 rfl rfl
theorem eK_12_629 : eh_LK eh_R12 629 eY_12_isOpen := eh_k10 14 rfl rfl
theorem eK_12_632 : eh_LK eh_R12 632 eY_12_isHart := eh_k10 30 rfl rfl
theorem eK_12_488 : eh_LK eh_R12 488 eY_12_isRegister := eh_k9 224 rfl rfl
theorem eK_12_495 : eh_LK eh_R12 495 eY_12_writeRegister := eh_k9 231 rfl rfl
theorem eL_12_100 : eh_FL eh_R12 100 12 32 := ⟨eh_R12, eh_T12, 87, rfl, by decide, by decide, rfl, eh_k7 143 rfl rfl⟩
theorem eL_12_103 : eh_FL eh_R12 103 12 33 := ⟨eh_R12, eh_T12, 87, rfl, by decide, by decide, rfl, eh_k7 144 rfl rfl⟩
theorem eL_12_112 : eh_FL eh_R12 112 12 36 := ⟨eh_R12, eh_T12, 87, rfl, by decide, by decide, rfl, eh_k7 147 rfl rfl⟩
theorem eL_12_118 : eh_FL eh_R12 118 12 38 := ⟨eh_R12, eh_T12, 87, rfl, by decide, by decide, rfl, eh_k7 149 rfl rfl⟩
theorem eK_12_573 : eh_LK eh_R12 573 eY_12_threadsOf := eh_k9 168 rfl rfl
theorem eK_12_475 : eh_LK eh_R12 475 Lib.Math.min.name := eh_k9 50 rfl rfl
theorem eL_12_283 : eh_FL eh_R12 283 12 21 := ⟨eh_R12, eh_T12, 87, rfl, by decide, by decide, rfl, eh_k7 132 rfl rfl⟩
theorem eK_12_648 : eh_LK eh_R12 648 eY_12_many := eh_k10 123 rfl rfl
theorem eC_20_127 : Cond.constant eh_R20 127 (-2147483648) ∈ eh_tb := eh_k8 151 rfl rfl
theorem eK_20_259 : eh_LK eh_R20 259 eY_20_compare := eh_k8 152 rfl rfl
theorem eL_0_33 : eh_FL eh_R0 33 0 10 := ⟨eh_R0, eh_T0, 15, rfl, by decide, by decide, rfl, eh_k1 124 rfl rfl⟩
theorem eL_0_46 : eh_FL eh_R0 46 0 0 := ⟨eh_R0, eh_T0, 15, rfl, by decide, by decide, rfl, eh_k1 104 rfl rfl⟩
theorem eK_0_66 : eh_LK eh_R0 66 eY_0_givePath := eh_k2 234 rfl rfl
theorem eK_0_82 : eh_LK eh_R0 82 eY_6_areOpen := eh_k6 144 rfl rfl
theorem eK_0_88 : eh_LK eh_R0 88 eY_6_wordAt := eh_k6 145 rfl rfl
theorem eK_0_92 : eh_LK eh_R0 92 eY_6_store := eh_k6 146 rfl rfl
theorem eL_1_12 : eh_FL eh_R1 12 1 0 := ⟨eh_R1, eh_T1, 12, rfl, by decide, by decide, rfl, eh_k2 125 rfl rfl⟩
theorem eL_1_31 : eh_FL eh_R1 31 1 5 := ⟨eh_R1, eh_T1, 12, rfl, by decide, by decide, rfl, eh_k2 136 rfl rfl⟩
theorem eL_1_35 : eh_FL eh_R1 35 1 6 := ⟨eh_R1, eh_T1, 12, rfl, by decide, by decide, rfl, eh_k2 141 rfl rfl⟩
theorem eL_1_38 : eh_FL eh_R1 38 1 7 := ⟨eh_R1, eh_T1, 12, rfl, by decide, by decide, rfl, eh_k2 143 rfl rfl⟩
theorem eL_1_41 : eh_FL eh_R1 41 1 8 := ⟨eh_R1, eh_T1, 12, rfl, by decide, by decide, rfl, eh_k2 146 rfl rfl⟩
theorem eL_1_44 : eh_FL eh_R1 44 1 9 := ⟨eh_R1, eh_T1, 12, rfl, by decide, by decide, rfl, eh_k2 150 rfl rfl⟩
theorem eL_1_47 : eh_FL eh_R1 47 1 10 := ⟨eh_R1, eh_T1, 12, rfl, by decide, by decide, rfl, eh_k2 153 rfl rfl⟩
theorem eL_1_50 : eh_FL eh_R1 50 1 11 := ⟨eh_R1, eh_T1, 12, rfl, by decide, by decide, rfl, eh_k2 156 rfl rfl⟩
theorem eK_1_54 : eh_LK eh_R1 54 eY_9_begin := eh_k4 123 rfl rfl
theorem eK_1_57 : eh_LK eh_R1 57 eY_9_feedNumber := eh_k4 124 rfl rfl
theorem eL_1_18 : eh_FL eh_R1 18 1 1 := ⟨eh_R1, eh_T1, 12, rfl, by decide, by decide, rfl, eh_k2 127 rfl rfl⟩
theorem eL_1_22 : eh_FL eh_R1 22 1 2 := ⟨eh_R1, eh_T1, 12, rfl, by decide, by decide, rfl, eh_k2 130 rfl rfl⟩
theorem eK_1_61 : eh_LK eh_R1 61 eY_9_end := eh_k4 161 rfl rfl
theorem eK_1_65 : eh_LK eh_R1 65 eY_23_fill := eh_k4 162 rfl rfl
theorem eL_2_19 : eh_FL eh_R2 19 2 3 := ⟨eh_R2, eh_T2, 14, rfl, by decide, by decide, rfl, eh_k2 63 rfl rfl⟩
theorem eL_2_22 : eh_FL eh_R2 22 2 4 := ⟨eh_R2, eh_T2, 14, rfl, by decide, by decide, rfl, eh_k2 69 rfl rfl⟩
theorem eL_2_25 : eh_FL eh_R2 25 2 5 := ⟨eh_R2, eh_T2, 14, rfl, by decide, by decide, rfl, eh_k2 71 rfl rfl⟩
theorem eL_2_28 : eh_FL eh_R2 28 2 6 := ⟨eh_R2, eh_T2, 14, rfl, by decide, by decide, rfl, eh_k2 73 rfl rfl⟩
theorem eL_2_31 : eh_FL eh_R2 31 2 7 := ⟨eh_R2, eh_T2, 14, rfl, by decide, by decide, rfl, eh_k2 77 rfl rfl⟩
theorem eK_2_34 : eh_LK eh_R2 34 eY_2_clear := eh_k4 148 rfl rfl
theorem eK_3_115 : eh_LK eh_R3 115 eY_5_cease := eh_k6 28 rfl rfl
theorem eK_3_126 : eh_LK eh_R3 126 eY_6_byteAt := eh_k6 51 rfl rfl
theorem eL_3_69 : eh_FL eh_R3 69 5 4 := ⟨eh_R5, eh_T5, 17, rfl, by decide, by decide, rfl, eh_k3 39 rfl rfl⟩
theorem eL_3_77 : eh_FL eh_R3 77 1 1 := ⟨eh_R1, eh_T1, 12, rfl, by decide, by decide, rfl, eh_k2 128 rfl rfl⟩
theorem eK_3_230 : eh_LK eh_R3 230 eY_5_countUp := eh_k6 105 rfl rfl
theorem eL_3_243 : eh_FL eh_R3 243 0 14 := ⟨eh_R0, eh_T0, 15, rfl, by decide, by decide, rfl, eh_k1 141 rfl rfl⟩
theorem eL_3_30 : eh_FL eh_R3 30 3 2 := ⟨eh_R3, eh_T3, 4, rfl, by decide, by decide, rfl, eh_k3 128 rfl rfl⟩
theorem eK_3_252 : eh_LK eh_R3 252 eY_0_givePath := eh_k6 132 rfl rfl
theorem eK_4_90 : eh_LK eh_R4 90 eY_4_pending := eh_k4 64 rfl rfl
theorem eL_4_15 : eh_FL eh_R4 15 4 0 := ⟨eh_R4, eh_T4, 19, rfl, by decide, by decide, rfl, eh_k1 204 rfl rfl⟩
theorem eC_5_181 : Cond.constant eh_R5 181 (65535) ∈ eh_tb := eh_k5 184 rfl rfl
theorem eK_5_173 : eh_LK eh_R5 173 eY_6_store := eh_k5 179 rfl rfl
theorem eK_5_177 : eh_LK eh_R5 177 eY_6_tellsOfStores := eh_k5 180 rfl rfl
theorem eK_5_182 : eh_LK eh_R5 182 eY_5_note := eh_k5 185 rfl rfl
theorem eL_5_104 : eh_FL eh_R5 104 1 8 := ⟨eh_R1, eh_T1, 12, rfl, by decide, by decide, rfl, eh_k2 147 rfl rfl⟩
theorem eL_5_113 : eh_FL eh_R5 113 5 10 := ⟨eh_R5, eh_T5, 17, rfl, by decide, by decide, rfl, eh_k3 55 rfl rfl⟩
theorem eL_5_218 : eh_FL eh_R5 218 0 10 := ⟨eh_R0, eh_T0, 15, rfl, by decide, by decide, rfl, eh_k1 126 rfl rfl⟩
theorem eL_5_228 : eh_FL eh_R5 228 0 7 := ⟨eh_R0, eh_T0, 15, rfl, by decide, by decide, rfl, eh_k1 116 rfl rfl⟩
theorem eL_5_231 : eh_FL eh_R5 231 0 8 := ⟨eh_R0, eh_T0, 15, rfl, by decide, by decide, rfl, eh_k1 119 rfl rfl⟩
theorem eL_5_234 : eh_FL eh_R5 234 0 9 := ⟨eh_R0, eh_T0, 15, rfl, by decide, by decide, rfl, eh_k1 122 rfl rfl⟩
theorem eL_5_237 : eh_FL eh_R5 237 0 14 := ⟨eh_R0, eh_T0, 15, rfl, by decide, by decide, rfl, eh_k1 142 rfl rfl⟩
theorem eL_5_240 : eh_FL eh_R5 240 0 11 := ⟨eh_R0, eh_T0, 15, rfl, by decide, by decide, rfl, eh_k1 131 rfl rfl⟩
theorem eL_5_27 : eh_FL eh_R5 27 5 2 := ⟨eh_R5, eh_T5, 17, rfl, by decide, by decide, rfl, eh_k3 30 rfl rfl⟩
theorem eK_5_204 : eh_LK eh_R5 204 eY_6_mixWords := eh_k7 7 rfl rfl
theorem eK_5_208 : eh_LK eh_R5 208 eY_4_mixAll := eh_k7 15 rfl rfl
theorem eK_5_211 : eh_LK eh_R5 211 eY_5_mix := eh_k7 20 rfl rfl
theorem eK_5_215 : eh_LK eh_R5 215 eY_6_mixRegions := eh_k7 21 rfl rfl
theorem eK_5_222 : eh_LK eh_R5 222 eY_8_mixAll := eh_k7 25 rfl rfl
theorem eK_5_225 : eh_LK eh_R5 225 eY_0_mixDisk := eh_k7 30 rfl rfl
theorem eK_6_55 : eh_LK eh_R6 55 eY_6_byteAt := eh_k6 226 rfl rfl
theorem eK_6_60 : eh_LK eh_R6 60 eY_6_rightsIn := eh_k5 121 rfl rfl
theorem eL_7_144 : eh_FL eh_R7 144 2 8 := ⟨eh_R2, eh_T2, 14, rfl, by decide, by decide, rfl, eh_k2 81 rfl rfl⟩
theorem eK_7_129 : eh_LK eh_R7 129 eY_5_cease := eh_k5 74 rfl rfl
theorem eK_7_134 : eh_LK eh_R7 134 eY_4_trap := eh_k5 79 rfl rfl
theorem eK_7_147 : eh_LK eh_R7 147 eY_2_handle := eh_k6 14 rfl rfl
theorem eK_7_151 : eh_LK eh_R7 151 eY_5_note := eh_k6 18 rfl rfl
theorem eK_7_165 : eh_LK eh_R7 165 eY_7_put := eh_k5 126 rfl rfl
theorem eK_7_205 : eh_LK eh_R7 205 eY_7_goTo := eh_k5 138 rfl rfl
theorem eK_7_208 : eh_LK eh_R7 208 eY_7_leftOf := eh_k5 146 rfl rfl
theorem eK_7_211 : eh_LK eh_R7 211 eY_7_rightOf := eh_k5 154 rfl rfl
theorem eK_7_218 : eh_LK eh_R7 218 eY_7_offsetB := eh_k5 159 rfl rfl
theorem eK_7_232 : eh_LK eh_R7 232 eY_7_reckoned := eh_k5 198 rfl rfl
theorem eK_7_236 : eh_LK eh_R7 236 eY_7_multiplied := eh_k5 205 rfl rfl
theorem eK_7_239 : eh_LK eh_R7 239 eY_7_divided := eh_k5 208 rfl rfl
theorem eK_9_39 : eh_LK eh_R9 39 eY_9_feedWord := eh_k5 48 rfl rfl
theorem eC_9_49 : Cond.constant eh_R9 49 (909522486) ∈ eh_tb := eh_k3 9 rfl rfl
theorem eK_9_46 : eh_LK eh_R9 46 eY_9_begin := eh_k3 8 rfl rfl
theorem eK_9_50 : eh_LK eh_R9 50 eY_9_feedPaddedKey := eh_k3 10 rfl rfl
theorem eC_9_58 : Cond.constant eh_R9 58 (1549556828) ∈ eh_tb := eh_k3 19 rfl rfl
theorem eL_9_16 : eh_FL eh_R9 16 9 2 := ⟨eh_R9, eh_T9, 4, rfl, by decide, by decide, rfl, eh_k1 188 rfl rfl⟩
theorem eK_9_54 : eh_LK eh_R9 54 eY_9_end := eh_k3 18 rfl rfl
theorem eK_10_123 : eh_LK eh_R10 123 eY_6_overlaps := eh_k4 95 rfl rfl
theorem eK_10_129 : eh_LK eh_R10 129 eY_6_leastFreeRegion := eh_k4 103 rfl rfl
theorem eK_10_132 : eh_LK eh_R10 132 eY_6_give := eh_k4 107 rfl rfl
theorem eL_10_163 : eh_FL eh_R10 163 1 0 := ⟨eh_R1, eh_T1, 12, rfl, by decide, by decide, rfl, eh_k2 126 rfl rfl⟩
theorem eK_10_157 : eh_LK eh_R10 157 eY_6_areOpen := eh_k4 131 rfl rfl
theorem eK_10_167 : eh_LK eh_R10 167 eY_9_feedNumber := eh_k4 133 rfl rfl
theorem eK_10_176 : eh_LK eh_R10 176 eY_6_store := eh_k4 135 rfl rfl
theorem eL_10_209 : eh_FL eh_R10 209 2 1 := ⟨eh_R2, eh_T2, 14, rfl, by decide, by decide, rfl, eh_k2 58 rfl rfl⟩
theorem eK_10_197 : eh_LK eh_R10 197 eY_5_hasFibre := eh_k4 167 rfl rfl
theorem eK_10_205 : eh_LK eh_R10 205 eY_5_begin := eh_k4 172 rfl rfl
theorem eL_10_213 : eh_FL eh_R10 213 6 0 := ⟨eh_R6, eh_T6, 9, rfl, by decide, by decide, rfl, eh_k1 42 rfl rfl⟩
theorem eL_10_222 : eh_FL eh_R10 222 0 14 := ⟨eh_R0, eh_T0, 15, rfl, by decide, by decide, rfl, eh_k1 140 rfl rfl⟩
theorem eK_10_216 : eh_LK eh_R10 216 eY_6_sideOf := eh_k4 192 rfl rfl
theorem eK_10_219 : eh_LK eh_R10 219 eY_6_takeBack := eh_k4 196 rfl rfl
theorem eK_10_225 : eh_LK eh_R10 225 eY_0_givePath := eh_k4 200 rfl rfl
theorem eK_10_232 : eh_LK eh_R10 232 eY_5_hasRegion := eh_k4 217 rfl rfl
theorem eK_11_47 : eh_LK eh_R11 47 eY_6_areOpen := eh_k3 202 rfl rfl
theorem eK_11_53 : eh_LK eh_R11 53 eY_6_store := eh_k3 212 rfl rfl
theorem eK_11_65 : eh_LK eh_R11 65 eY_5_hasEnclave := eh_k3 238 rfl rfl
theorem eK_11_75 : eh_LK eh_R11 75 eY_6_byteAt := eh_k4 10 rfl rfl
theorem eK_11_78 : eh_LK eh_R11 78 eY_6_change := eh_k4 15 rfl rfl
theorem eK_11_81 : eh_LK eh_R11 81 eY_11_registerOrZero := eh_k4 20 rfl rfl
theorem eC_12_237 : Cond.constantLong eh_R12 237 (63) ∈ eh_tb := eh_k7 75 rfl rfl
theorem eK_12_239 : eh_LK eh_R12 239 eY_12_block := eh_k7 76 rfl rfl
theorem eK_12_337 : eh_LK eh_R12 337 eY_12_gather := eh_k8 184 rfl rfl
theorem eK_12_398 : eh_LK eh_R12 398 eY_20_compareUnsigned := eh_k8 148 rfl rfl
theorem eK_12_426 : eh_LK eh_R12 426 eY_12_set := eh_k8 228 rfl rfl
theorem eK_12_480 : eh_LK eh_R12 480 Lib.Math.max.name := eh_k9 53 rfl rfl
theorem eK_12_506 : eh_LK eh_R12 506 eY_12_free := eh_k9 144 rfl rfl
theorem eK_12_510 : eh_LK eh_R12 510 eY_12_clear := eh_k9 151 rfl rfl
theorem eK_12_386 : eh_LK eh_R12 386 eY_12_storeAt := eh_k9 12 rfl rfl
theorem eK_12_641 : eh_LK eh_R12 641 eY_12_word := eh_k10 114 rfl rfl
theorem eK_12_644 : eh_LK eh_R12 644 eY_12_on := eh_k10 115 rfl rfl
theorem eK_0_75 : eh_LK eh_R0 75 eY_0_carryOutFirst := eh_k6 140 rfl rfl
theorem eK_0_79 : eh_LK eh_R0 79 eY_0_dropFirst := eh_k6 147 rfl rfl
theorem eC_3_118 : Cond.constantLong eh_R3 118 (4294967295) ∈ eh_tb := eh_k6 44 rfl rfl
theorem eK_3_120 : eh_LK eh_R3 120 eY_6_rightsAt := eh_k6 45 rfl rfl
theorem eK_3_130 : eh_LK eh_R3 130 eY_5_storeFor := eh_k6 60 rfl rfl
theorem eL_3_255 : eh_FL eh_R3 255 0 13 := ⟨eh_R0, eh_T0, 15, rfl, by decide, by decide, rfl, eh_k1 137 rfl rfl⟩
theorem eL_3_264 : eh_FL eh_R3 264 8 1 := ⟨eh_R8, eh_T8, 2, rfl, by decide, by decide, rfl, eh_k1 95 rfl rfl⟩
theorem eL_3_267 : eh_FL eh_R3 267 0 12 := ⟨eh_R0, eh_T0, 15, rfl, by decide, by decide, rfl, eh_k1 134 rfl rfl⟩
theorem eK_3_248 : eh_LK eh_R3 248 eY_3_claim := eh_k6 128 rfl rfl
theorem eK_3_259 : eh_LK eh_R3 259 eY_8_add := eh_k6 133 rfl rfl
theorem eK_3_270 : eh_LK eh_R3 270 eY_8_takeFirst := eh_k6 134 rfl rfl
theorem eL_5_46 : eh_FL eh_R5 46 5 5 := ⟨eh_R5, eh_T5, 17, rfl, by decide, by decide, rfl, eh_k3 42 rfl rfl⟩
theorem eL_5_50 : eh_FL eh_R5 50 5 6 := ⟨eh_R5, eh_T5, 17, rfl, by decide, by decide, rfl, eh_k3 45 rfl rfl⟩
theorem eL_5_54 : eh_FL eh_R5 54 5 7 := ⟨eh_R5, eh_T5, 17, rfl, by decide, by decide, rfl, eh_k3 47 rfl rfl⟩
theorem eL_5_63 : eh_FL eh_R5 63 5 13 := ⟨eh_R5, eh_T5, 17, rfl, by decide, by decide, rfl, eh_k3 62 rfl rfl⟩
theorem eK_5_107 : eh_LK eh_R5 107 eY_23_fill := eh_k3 3 rfl rfl
theorem eK_5_120 : eh_LK eh_R5 120 eY_9_beginKeyed := eh_k3 4 rfl rfl
theorem eK_5_123 : eh_LK eh_R5 123 eY_9_endKeyed := eh_k3 14 rfl rfl
theorem eK_5_83 : eh_LK eh_R5 83 eY_9_feedNumber := eh_k2 193 rfl rfl
theorem eK_5_93 : eh_LK eh_R5 93 eY_6_clear := eh_k2 219 rfl rfl
theorem eK_5_96 : eh_LK eh_R5 96 eY_0_restart := eh_k2 226 rfl rfl
theorem eK_5_98 : eh_LK eh_R5 98 eY_4_restart := eh_k2 238 rfl rfl
theorem eK_5_186 : eh_LK eh_R5 186 eY_9_feedWords := eh_k5 44 rfl rfl
theorem eK_5_80 : eh_LK eh_R5 80 eY_9_begin := eh_k2 184 rfl rfl
theorem eK_5_86 : eh_LK eh_R5 86 eY_9_end := eh_k2 207 rfl rfl
theorem eC_7_133 : Cond.constant eh_R7 133 (-2147483648) ∈ eh_tb := eh_k5 78 rfl rfl
theorem eL_7_138 : eh_FL eh_R7 138 4 7 := ⟨eh_R4, eh_T4, 19, rfl, by decide, by decide, rfl, eh_k1 229 rfl rfl⟩
theorem eL_7_141 : eh_FL eh_R7 141 4 8 := ⟨eh_R4, eh_T4, 19, rfl, by decide, by decide, rfl, eh_k1 232 rfl rfl⟩
theorem eL_7_66 : eh_FL eh_R7 66 5 1 := ⟨eh_R5, eh_T5, 17, rfl, by decide, by decide, rfl, eh_k3 27 rfl rfl⟩
theorem eK_7_126 : eh_LK eh_R7 126 eY_4_dueInterrupt := eh_k5 70 rfl rfl
theorem eK_7_171 : eh_LK eh_R7 171 eY_7_jump := eh_k5 134 rfl rfl
theorem eK_7_226 : eh_LK eh_R7 226 eY_5_storeFor := eh_k5 175 rfl rfl
theorem eK_7_230 : eh_LK eh_R7 230 eY_6_store := eh_k5 189 rfl rfl
theorem eK_7_280 : eh_LK eh_R7 280 eY_4_maySystemUse := eh_k5 235 rfl rfl
theorem eK_7_284 : eh_LK eh_R7 284 eY_4_readControl := eh_k5 236 rfl rfl
theorem eK_7_288 : eh_LK eh_R7 288 eY_4_writeControl := eh_k5 237 rfl rfl
theorem eL_7_298 : eh_FL eh_R7 298 2 3 := ⟨eh_R2, eh_T2, 14, rfl, by decide, by decide, rfl, eh_k2 68 rfl rfl⟩
theorem eK_7_294 : eh_LK eh_R7 294 eY_7_walk := eh_k5 96 rfl rfl
theorem eK_7_301 : eh_LK eh_R7 301 eY_6_rightsAt := eh_k5 117 rfl rfl
theorem eK_10_117 : eh_LK eh_R10 117 eY_6_isSpan := eh_k4 92 rfl rfl
theorem eK_10_126 : eh_LK eh_R10 126 eY_10_leastFreeEnclave := eh_k4 99 rfl rfl
theorem eK_10_140 : eh_LK eh_R10 140 eY_1_make := eh_k4 119 rfl rfl
theorem eL_10_183 : eh_FL eh_R10 183 1 10 := ⟨eh_R1, eh_T1, 12, rfl, by decide, by decide, rfl, eh_k2 154 rfl rfl⟩
theorem eK_10_180 : eh_LK eh_R10 180 eY_10_leastFreeFibre := eh_k4 140 rfl rfl
theorem eK_10_189 : eh_LK eh_R10 189 eY_2_make := eh_k4 144 rfl rfl
theorem eK_10_194 : eh_LK eh_R10 194 eY_1_finish := eh_k4 157 rfl rfl
theorem eK_10_203 : eh_LK eh_R10 203 eY_2_enter := eh_k4 168 rfl rfl
theorem eK_10_228 : eh_LK eh_R10 228 eY_10_giveRegion := eh_k4 205 rfl rfl
theorem eK_11_132 : eh_LK eh_R11 132 eY_4_readControl := eh_k4 60 rfl rfl
theorem eK_11_233 : eh_LK eh_R11 233 eY_6_entryOfEnclave := eh_k6 184 rfl rfl
theorem eK_11_237 : eh_LK eh_R11 237 eY_6_entryOfSystem := eh_k6 192 rfl rfl
theorem eC_11_249 : Cond.constant eh_R11 249 (131072) ∈ eh_tb := eh_k6 220 rfl rfl
theorem eL_11_250 : eh_FL eh_R11 250 5 5 := ⟨eh_R5, eh_T5, 17, rfl, by decide, by decide, rfl, eh_k3 44 rfl rfl⟩
theorem eL_11_265 : eh_FL eh_R11 265 5 8 := ⟨eh_R5, eh_T5, 17, rfl, by decide, by decide, rfl, eh_k3 51 rfl rfl⟩
theorem eK_11_254 : eh_LK eh_R11 254 eY_9_begin := eh_k6 221 rfl rfl
theorem eK_11_259 : eh_LK eh_R11 259 eY_6_openByteAt := eh_k6 222 rfl rfl
theorem eK_11_262 : eh_LK eh_R11 262 eY_9_feedByte := eh_k6 227 rfl rfl
theorem eK_11_268 : eh_LK eh_R11 268 eY_9_end := eh_k6 231 rfl rfl
theorem eK_11_283 : eh_LK eh_R11 283 eY_5_survey := eh_k7 3 rfl rfl
theorem eK_12_242 : eh_LK eh_R12 242 eY_12_add := eh_k7 71 rfl rfl
theorem eC_12_254 : Cond.constantLong eh_R12 254 (8) ∈ eh_tb := eh_k7 89 rfl rfl
theorem eC_12_256 : Cond.constantLong eh_R12 256 (56) ∈ eh_tb := eh_k7 90 rfl rfl
theorem eC_12_362 : Cond.constantLong eh_R12 362 (4194303) ∈ eh_tb := eh_k8 177 rfl rfl
theorem eC_12_364 : Cond.constantLong eh_R12 364 (4096) ∈ eh_tb := eh_k8 178 rfl rfl
theorem eC_12_366 : Cond.constantLong eh_R12 366 (4) ∈ eh_tb := eh_k8 179 rfl rfl
theorem eK_12_352 : eh_LK eh_R12 352 eY_12_isLet := eh_k8 180 rfl rfl
theorem eK_12_356 : eh_LK eh_R12 356 eY_12_denied := eh_k8 200 rfl rfl
theorem eK_12_375 : eh_LK eh_R12 375 eY_12_allowed := eh_k8 213 rfl rfl
theorem eK_12_465 : eh_LK eh_R12 465 eY_12_plain := eh_k9 37 rfl rfl
theorem eK_12_469 : eh_LK eh_R12 469 eY_12_product := eh_k9 40 rfl rfl
theorem eK_12_404 : eh_LK eh_R12 404 eY_12_pending := eh_k8 144 rfl rfl
theorem eK_12_543 : eh_LK eh_R12 543 eY_12_drop := eh_k9 196 rfl rfl
theorem eK_12_560 : eh_LK eh_R12 560 eY_12_isSpan := eh_k9 136 rfl rfl
theorem eK_12_563 : eh_LK eh_R12 563 eY_12_isOverlap := eh_k9 140 rfl rfl
theorem eK_12_566 : eh_LK eh_R12 566 eY_12_makeRegion := eh_k9 147 rfl rfl
theorem eL_12_215 : eh_FL eh_R12 215 12 82 := ⟨eh_R12, eh_T12, 87, rfl, by decide, by decide, rfl, eh_k7 193 rfl rfl⟩
theorem eL_3_138 : eh_FL eh_R3 138 5 9 := ⟨eh_R5, eh_T5, 17, rfl, by decide, by decide, rfl, eh_k3 53 rfl rfl⟩
theorem eL_3_147 : eh_FL eh_R3 147 1 2 := ⟨eh_R1, eh_T1, 12, rfl, by decide, by decide, rfl, eh_k2 131 rfl rfl⟩
theorem eL_3_154 : eh_FL eh_R3 154 5 8 := ⟨eh_R5, eh_T5, 17, rfl, by decide, by decide, rfl, eh_k3 50 rfl rfl⟩
theorem eK_3_134 : eh_LK eh_R3 134 eY_3_reaches := eh_k6 40 rfl rfl
theorem eK_3_141 : eh_LK eh_R3 141 arraycopyName := eh_k6 46 rfl rfl
theorem eK_3_150 : eh_LK eh_R3 150 eY_3_read := eh_k6 47 rfl rfl
theorem eK_3_157 : eh_LK eh_R3 157 eY_5_sealReport := eh_k6 52 rfl rfl
theorem eK_3_161 : eh_LK eh_R3 161 eY_3_write := eh_k6 56 rfl rfl
theorem eK_3_165 : eh_LK eh_R3 165 eY_5_bears := eh_k6 77 rfl rfl
theorem eL_3_169 : eh_FL eh_R3 169 5 5 := ⟨eh_R5, eh_T5, 17, rfl, by decide, by decide, rfl, eh_k3 43 rfl rfl⟩
theorem eL_3_173 : eh_FL eh_R3 173 5 6 := ⟨eh_R5, eh_T5, 17, rfl, by decide, by decide, rfl, eh_k3 46 rfl rfl⟩
theorem eL_3_9 : eh_FL eh_R3 9 3 3 := ⟨eh_R3, eh_T3, 4, rfl, by decide, by decide, rfl, eh_k3 129 rfl rfl⟩
theorem eK_3_176 : eh_LK eh_R3 176 eY_9_beginKeyed := eh_k6 65 rfl rfl
theorem eK_3_181 : eh_LK eh_R3 181 eY_9_feedNumber := eh_k6 66 rfl rfl
theorem eK_3_184 : eh_LK eh_R3 184 eY_9_feedWords := eh_k6 67 rfl rfl
theorem eK_3_188 : eh_LK eh_R3 188 eY_9_endKeyed := eh_k6 68 rfl rfl
theorem eL_3_192 : eh_FL eh_R3 192 1 8 := ⟨eh_R1, eh_T1, 12, rfl, by decide, by decide, rfl, eh_k2 148 rfl rfl⟩
theorem eL_3_195 : eh_FL eh_R3 195 1 9 := ⟨eh_R1, eh_T1, 12, rfl, by decide, by decide, rfl, eh_k2 151 rfl rfl⟩
theorem eL_3_215 : eh_FL eh_R3 215 1 5 := ⟨eh_R1, eh_T1, 12, rfl, by decide, by decide, rfl, eh_k2 139 rfl rfl⟩
theorem eL_3_218 : eh_FL eh_R3 218 1 11 := ⟨eh_R1, eh_T1, 12, rfl, by decide, by decide, rfl, eh_k2 157 rfl rfl⟩
theorem eL_3_221 : eh_FL eh_R3 221 1 3 := ⟨eh_R1, eh_T1, 12, rfl, by decide, by decide, rfl, eh_k2 133 rfl rfl⟩
theorem eL_3_224 : eh_FL eh_R3 224 1 4 := ⟨eh_R1, eh_T1, 12, rfl, by decide, by decide, rfl, eh_k2 135 rfl rfl⟩
theorem eK_3_212 : eh_LK eh_R3 212 eY_5_hasEnclave := eh_k6 95 rfl rfl
theorem eK_3_227 : eh_LK eh_R3 227 eY_9_flip := eh_k6 96 rfl rfl
theorem eK_3_237 : eh_LK eh_R3 237 eY_9_begin := eh_k6 122 rfl rfl
theorem eK_3_240 : eh_LK eh_R3 240 eY_9_end := eh_k6 123 rfl rfl
theorem eC_7_221 : Cond.constant eh_R7 221 (65535) ∈ eh_tb := eh_k5 166 rfl rfl
theorem eK_7_155 : eh_LK eh_R7 155 eY_7_locate := eh_k5 87 rfl rfl
theorem eK_7_222 : eh_LK eh_R7 222 eY_7_keep := eh_k5 171 rfl rfl
theorem eL_7_244 : eh_FL eh_R7 244 4 0 := ⟨eh_R4, eh_T4, 19, rfl, by decide, by decide, rfl, eh_k1 206 rfl rfl⟩
theorem eK_7_247 : eh_LK eh_R7 247 eY_6_reserve := eh_k5 215 rfl rfl
theorem eK_7_250 : eh_LK eh_R7 250 eY_6_isReserved := eh_k5 219 rfl rfl
theorem eK_7_253 : eh_LK eh_R7 253 eY_6_unreserve := eh_k5 223 rfl rfl
theorem eK_7_256 : eh_LK eh_R7 256 eY_7_combined := eh_k5 224 rfl rfl
theorem eK_7_262 : eh_LK eh_R7 262 eY_7_useControl := eh_k5 231 rfl rfl
theorem eK_7_266 : eh_LK eh_R7 266 eY_7_failUnless := eh_k5 238 rfl rfl
theorem eK_7_270 : eh_LK eh_R7 270 eY_7_specialByCode := eh_k6 2 rfl rfl
theorem eK_10_34 : eh_LK eh_R10 34 eY_10_create := eh_k4 88 rfl rfl
theorem eK_10_38 : eh_LK eh_R10 38 eY_10_load := eh_k4 125 rfl rfl
theorem eK_10_42 : eh_LK eh_R10 42 eY_10_makeFibre := eh_k4 136 rfl rfl
theorem eK_10_45 : eh_LK eh_R10 45 eY_10_finalise := eh_k4 153 rfl rfl
theorem eK_10_48 : eh_LK eh_R10 48 eY_10_enter := eh_k4 163 rfl rfl
theorem eK_10_52 : eh_LK eh_R10 52 eY_10_resume := eh_k4 180 rfl rfl
theorem eK_10_56 : eh_LK eh_R10 56 eY_10_stop := eh_k4 184 rfl rfl
theorem eK_10_60 : eh_LK eh_R10 60 eY_10_destroy := eh_k4 188 rfl rfl
theorem eK_10_63 : eh_LK eh_R10 63 eY_10_share := eh_k4 201 rfl rfl
theorem eK_10_66 : eh_LK eh_R10 66 eY_10_join := eh_k4 209 rfl rfl
theorem eK_10_70 : eh_LK eh_R10 70 eY_10_drop := eh_k4 213 rfl rfl
theorem eL_10_108 : eh_FL eh_R10 108 0 11 := ⟨eh_R0, eh_T0, 15, rfl, by decide, by decide, rfl, eh_k1 129 rfl rfl⟩
theorem eK_10_101 : eh_LK eh_R10 101 eY_10_setSlice := eh_k5 26 rfl rfl
theorem eK_10_105 : eh_LK eh_R10 105 eY_10_offer := eh_k5 31 rfl rfl
theorem eK_10_112 : eh_LK eh_R10 112 eY_8_takeFirst := eh_k5 35 rfl rfl
theorem eK_10_73 : eh_LK eh_R10 73 eY_10_putOut := eh_k4 225 rfl rfl
theorem eK_10_76 : eh_LK eh_R10 76 eY_10_signal := eh_k4 233 rfl rfl
theorem eK_10_79 : eh_LK eh_R10 79 eY_10_askDisk := eh_k5 1 rfl rfl
theorem eK_10_86 : eh_LK eh_R10 86 eY_0_tell := eh_k5 10 rfl rfl
theorem eK_10_92 : eh_LK eh_R10 92 eY_10_measure := eh_k5 14 rfl rfl
theorem eK_10_95 : eh_LK eh_R10 95 eY_10_look := eh_k5 18 rfl rfl
theorem eK_10_98 : eh_LK eh_R10 98 eY_10_goOff := eh_k5 22 rfl rfl
theorem eK_11_40 : eh_LK eh_R11 40 eY_5_restart := eh_k3 197 rfl rfl
theorem eC_11_272 : Cond.constant eh_R11 272 (130944) ∈ eh_tb := eh_k6 236 rfl rfl
theorem eL_11_273 : eh_FL eh_R11 273 5 9 := ⟨eh_R5, eh_T5, 17, rfl, by decide, by decide, rfl, eh_k3 54 rfl rfl⟩
theorem eK_11_276 : eh_LK eh_R11 276 eY_5_sealReport := eh_k6 237 rfl rfl
theorem eK_11_279 : eh_LK eh_R11 279 eY_5_bears := eh_k6 238 rfl rfl
theorem eL_12_209 : eh_FL eh_R12 209 12 80 := ⟨eh_R12, eh_T12, 87, rfl, by decide, by decide, rfl, eh_k7 191 rfl rfl⟩
theorem eL_12_212 : eh_FL eh_R12 212 12 81 := ⟨eh_R12, eh_T12, 87, rfl, by decide, by decide, rfl, eh_k7 192 rfl rfl⟩
theorem eK_12_218 : eh_LK eh_R12 218 eY_12_begin := eh_k7 61 rfl rfl
theorem eK_12_226 : eh_LK eh_R12 226 eY_12_finish := eh_k7 85 rfl rfl
theorem eK_12_262 : eh_LK eh_R12 262 eY_12_addBytes := eh_k7 107 rfl rfl
theorem eK_12_348 : eh_LK eh_R12 348 eY_12_walk := eh_k8 173 rfl rfl
theorem eK_12_492 : eh_LK eh_R12 492 eY_12_readRegister := eh_k9 227 rfl rfl
theorem eK_12_222 : eh_LK eh_R12 222 eY_12_addNumber := eh_k7 67 rfl rfl
theorem eL_12_109 : eh_FL eh_R12 109 12 35 := ⟨eh_R12, eh_T12, 87, rfl, by decide, by decide, rfl, eh_k7 146 rfl rfl⟩
theorem eL_12_115 : eh_FL eh_R12 115 12 37 := ⟨eh_R12, eh_T12, 87, rfl, by decide, by decide, rfl, eh_k7 148 rfl rfl⟩
theorem eK_12_595 : eh_LK eh_R12 595 eY_12_canRead := eh_k9 76 rfl rfl
theorem eK_12_588 : eh_LK eh_R12 588 eY_12_canWrite := eh_k9 80 rfl rfl
theorem eK_12_591 : eh_LK eh_R12 591 eY_12_writeTo := eh_k9 92 rfl rfl
theorem eK_12_552 : eh_LK eh_R12 552 eY_12_bigWord := eh_k9 212 rfl rfl
theorem eK_12_635 : eh_LK eh_R12 635 eY_12_shown := eh_k10 101 rfl rfl
theorem eL_3_102 : eh_FL eh_R3 102 5 7 := ⟨eh_R5, eh_T5, 17, rfl, by decide, by decide, rfl, eh_k3 48 rfl rfl⟩
theorem eL_3_36 : eh_FL eh_R3 36 2 9 := ⟨eh_R2, eh_T2, 14, rfl, by decide, by decide, rfl, eh_k2 83 rfl rfl⟩
theorem eK_3_105 : eh_LK eh_R3 105 eY_3_answerOfPath := eh_k6 124 rfl rfl
theorem eK_3_40 : eh_LK eh_R3 40 eY_3_leave := eh_k6 23 rfl rfl
theorem eK_3_44 : eh_LK eh_R3 44 eY_2_goBack := eh_k6 29 rfl rfl
theorem eK_3_48 : eh_LK eh_R3 48 eY_3_goOn := eh_k6 33 rfl rfl
theorem eK_3_52 : eh_LK eh_R3 52 eY_3_attest := eh_k6 36 rfl rfl
theorem eK_3_56 : eh_LK eh_R3 56 eY_3_giveKey := eh_k6 61 rfl rfl
theorem eK_3_59 : eh_LK eh_R3 59 eY_3_giveRandom := eh_k6 69 rfl rfl
theorem eK_3_62 : eh_LK eh_R3 62 eY_3_verify := eh_k6 73 rfl rfl
theorem eK_3_66 : eh_LK eh_R3 66 eY_3_accept := eh_k6 81 rfl rfl
theorem eK_3_82 : eh_LK eh_R3 82 eY_3_giveDigest := eh_k6 87 rfl rfl
theorem eK_3_86 : eh_LK eh_R3 86 eY_3_send := eh_k6 91 rfl rfl
theorem eK_3_89 : eh_LK eh_R3 89 eY_3_receive := eh_k6 97 rfl rfl
theorem eK_3_92 : eh_LK eh_R3 92 eY_3_countOne := eh_k6 101 rfl rfl
theorem eK_3_96 : eh_LK eh_R3 96 eY_3_setHandler := eh_k6 114 rfl rfl
theorem eK_3_99 : eh_LK eh_R3 99 eY_3_extend := eh_k6 118 rfl rfl
theorem eK_7_168 : eh_LK eh_R7 168 eY_7_offsetJ := eh_k5 130 rfl rfl
theorem eK_7_174 : eh_LK eh_R7 174 eY_7_jumpToRegister := eh_k5 142 rfl rfl
theorem eK_7_177 : eh_LK eh_R7 177 eY_7_branch := eh_k5 150 rfl rfl
theorem eK_7_180 : eh_LK eh_R7 180 eY_7_load := eh_k5 162 rfl rfl
theorem eK_7_183 : eh_LK eh_R7 183 eY_7_store := eh_k5 167 rfl rfl
theorem eK_7_186 : eh_LK eh_R7 186 eY_7_fence := eh_k5 190 rfl rfl
theorem eK_7_189 : eh_LK eh_R7 189 eY_7_reckonWithNumber := eh_k5 194 rfl rfl
theorem eK_7_192 : eh_LK eh_R7 192 eY_7_reckonWithRegister := eh_k5 201 rfl rfl
theorem eK_7_195 : eh_LK eh_R7 195 eY_7_reckonInMemory := eh_k5 211 rfl rfl
theorem eK_7_198 : eh_LK eh_R7 198 eY_7_special := eh_k5 227 rfl rfl
theorem eK_10_22 : eh_LK eh_R10 22 eY_10_answerOfEnclaves := eh_k4 84 rfl rfl
theorem eK_10_26 : eh_LK eh_R10 26 eY_10_answerOfMachine := eh_k4 221 rfl rfl
theorem eK_10_30 : eh_LK eh_R10 30 eY_5_chain := eh_k5 40 rfl rfl
theorem eL_12_187 : eh_FL eh_R12 187 12 72 := ⟨eh_R12, eh_T12, 87, rfl, by decide, by decide, rfl, eh_k7 183 rfl rfl⟩
theorem eK_12_266 : eh_LK eh_R12 266 eY_12_say := eh_k7 99 rfl rfl
theorem eK_12_269 : eh_LK eh_R12 269 eY_12_sayBytes := eh_k9 88 rfl rfl
theorem eK_12_273 : eh_LK eh_R12 273 eY_12_keyed := eh_k7 103 rfl rfl
theorem eL_12_184 : eh_FL eh_R12 184 12 71 := ⟨eh_R12, eh_T12, 87, rfl, by decide, by decide, rfl, eh_k7 182 rfl rfl⟩
theorem eL_12_190 : eh_FL eh_R12 190 12 73 := ⟨eh_R12, eh_T12, 87, rfl, by decide, by decide, rfl, eh_k7 184 rfl rfl⟩
theorem eK_12_382 : eh_LK eh_R12 382 eY_12_locate := eh_k8 168 rfl rfl
theorem eC_12_555 : Cond.constant eh_R12 555 (100000) ∈ eh_tb := eh_k9 215 rfl rfl
theorem eK_12_515 : eh_LK eh_R12 515 eY_12_create := eh_k9 132 rfl rfl
theorem eK_12_518 : eh_LK eh_R12 518 eY_12_loadPage := eh_k9 155 rfl rfl
theorem eK_12_521 : eh_LK eh_R12 521 eY_12_makeThread := eh_k9 164 rfl rfl
theorem eK_12_524 : eh_LK eh_R12 524 eY_12_finalise := eh_k9 172 rfl rfl
theorem eK_12_527 : eh_LK eh_R12 527 eY_12_run := eh_k9 176 rfl rfl
theorem eK_12_531 : eh_LK eh_R12 531 eY_12_stop := eh_k9 188 rfl rfl
theorem eK_12_534 : eh_LK eh_R12 534 eY_12_destroy := eh_k9 192 rfl rfl
theorem eK_12_537 : eh_LK eh_R12 537 eY_12_share := eh_k9 200 rfl rfl
theorem eK_12_540 : eh_LK eh_R12 540 eY_12_link := eh_k9 204 rfl rfl
theorem eK_12_546 : eh_LK eh_R12 546 eY_12_move := eh_k9 208 rfl rfl
theorem eK_12_556 : eh_LK eh_R12 556 eY_12_key := eh_k9 216 rfl rfl
theorem eL_7_22 : eh_FL eh_R7 22 7 2 := ⟨eh_R7, eh_T7, 13, rfl, by decide, by decide, rfl, eh_k3 141 rfl rfl⟩
theorem eL_7_31 : eh_FL eh_R7 31 7 3 := ⟨eh_R7, eh_T7, 13, rfl, by decide, by decide, rfl, eh_k3 142 rfl rfl⟩
theorem eL_7_35 : eh_FL eh_R7 35 5 2 := ⟨eh_R5, eh_T5, 17, rfl, by decide, by decide, rfl, eh_k3 31 rfl rfl⟩
theorem eL_7_74 : eh_FL eh_R7 74 4 10 := ⟨eh_R4, eh_T4, 19, rfl, by decide, by decide, rfl, eh_k1 236 rfl rfl⟩
theorem eK_7_101 : eh_LK eh_R7 101 eY_10_serve := eh_k6 135 rfl rfl
theorem eK_7_58 : eh_LK eh_R7 58 eY_7_look := eh_k5 60 rfl rfl
theorem eK_7_70 : eh_LK eh_R7 70 eY_4_pending := eh_k5 65 rfl rfl
theorem eK_7_78 : eh_LK eh_R7 78 eY_7_isInterrupted := eh_k5 66 rfl rfl
theorem eK_7_82 : eh_LK eh_R7 82 eY_7_doOne := eh_k5 83 rfl rfl
theorem eK_7_88 : eh_LK eh_R7 88 eY_7_suffer := eh_k6 10 rfl rfl
theorem eK_7_97 : eh_LK eh_R7 97 eY_3_serve := eh_k6 19 rfl rfl
theorem eL_11_23 : eh_FL eh_R11 23 11 1 := ⟨eh_R11, eh_T11, 3, rfl, by decide, by decide, rfl, eh_k3 180 rfl rfl⟩
theorem eK_11_142 : eh_LK eh_R11 142 eY_10_serve := eh_k4 80 rfl rfl
theorem eK_12_277 : eh_LK eh_R12 277 eY_12_mark := eh_k9 84 rfl rfl
theorem eK_12_461 : eh_LK eh_R12 461 eY_12_load := eh_k9 4 rfl rfl
theorem eK_12_472 : eh_LK eh_R12 472 eY_12_joined := eh_k9 47 rfl rfl
theorem eK_12_513 : eh_LK eh_R12 513 eY_12_asked := eh_k9 128 rfl rfl
theorem eL_11_32 : eh_FL eh_R11 32 11 2 := ⟨eh_R11, eh_T11, 3, rfl, by decide, by decide, rfl, eh_k3 181 rfl rfl⟩
theorem eK_11_146 : eh_LK eh_R11 146 eY_7_step := eh_k5 56 rfl rfl
theorem eK_11_149 : eh_LK eh_R11 149 eY_0_endRound := eh_k6 136 rfl rfl
theorem eK_12_585 : eh_LK eh_R12 585 eY_12_attest := eh_k9 72 rfl rfl
theorem eK_12_598 : eh_LK eh_R12 598 eY_12_isReport := eh_k9 96 rfl rfl
theorem eK_12_602 : eh_LK eh_R12 602 eY_12_accept := eh_k9 100 rfl rfl
theorem eK_12_605 : eh_LK eh_R12 605 eY_12_send := eh_k9 104 rfl rfl
theorem eK_12_608 : eh_LK eh_R12 608 eY_12_receive := eh_k9 112 rfl rfl
theorem eK_12_611 : eh_LK eh_R12 611 eY_12_count := eh_k9 116 rfl rfl
theorem eK_12_614 : eh_LK eh_R12 614 eY_12_onPath := eh_k9 120 rfl rfl
theorem eK_12_501 : eh_LK eh_R12 501 eY_12_systemCall := eh_k9 124 rfl rfl
theorem eC_12_638 : Cond.constant eh_R12 638 (130944) ∈ eh_tb := eh_k10 109 rfl rfl
theorem eL_12_91 : eh_FL eh_R12 91 12 29 := ⟨eh_R12, eh_T12, 87, rfl, by decide, by decide, rfl, eh_k7 140 rfl rfl⟩
theorem eK_12_407 : eh_LK eh_R12 407 eY_12_leave := eh_k8 155 rfl rfl
theorem eK_12_582 : eh_LK eh_R12 582 eY_12_answered := eh_k9 68 rfl rfl
theorem eK_12_498 : eh_LK eh_R12 498 eY_12_threadCall := eh_k9 64 rfl rfl
theorem eK_12_483 : eh_LK eh_R12 483 eY_12_calls := eh_k9 60 rfl rfl
theorem eC_12_429 : Cond.constant eh_R12 429 (1044480) ∈ eh_tb := eh_k8 232 rfl rfl
theorem eK_12_423 : eh_LK eh_R12 423 eY_12_get := eh_k8 224 rfl rfl
theorem eK_12_430 : eh_LK eh_R12 430 eY_12_jump := eh_k8 233 rfl rfl
theorem eK_12_433 : eh_LK eh_R12 433 eY_12_isTaken := eh_k8 237 rfl rfl
theorem eK_12_437 : eh_LK eh_R12 437 eY_12_loads := eh_k9 0 rfl rfl
theorem eK_12_440 : eh_LK eh_R12 440 eY_12_store := eh_k9 8 rfl rfl
theorem eK_12_443 : eh_LK eh_R12 443 eY_12_immediate := eh_k9 29 rfl rfl
theorem eK_12_447 : eh_LK eh_R12 447 eY_12_sums := eh_k9 33 rfl rfl
theorem eK_12_451 : eh_LK eh_R12 451 eY_12_atomic := eh_k9 43 rfl rfl
theorem eK_12_454 : eh_LK eh_R12 454 eY_12_control := eh_k9 56 rfl rfl
theorem eK_12_458 : eh_LK eh_R12 458 eY_12_registers := eh_k9 220 rfl rfl
theorem eK_12_411 : eh_LK eh_R12 411 eY_12_trap := eh_k8 160 rfl rfl
theorem eK_12_420 : eh_LK eh_R12 420 eY_12_execute := eh_k8 220 rfl rfl
theorem eK_12_620 : eh_LK eh_R12 620 eY_12_step := eh_k8 140 rfl rfl
theorem eK_12_623 : eh_LK eh_R12 623 eY_12_device := eh_k9 237 rfl rfl
