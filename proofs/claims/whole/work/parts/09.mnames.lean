abbrev c_m_init : ByteArray := prog_9_method_1_code
abbrev y_m_init : MethodName := { cls := "ContainerHostModel", name := "<init>", desc := "()V" }
abbrev k_m_init : Cond := .code y_m_init c_m_init 2 (Option.none : Option FieldType)
abbrev M_m_init : xMeth := ("ContainerHostModel", c_m_init, 2, (Option.none : Option FieldType), "<init>", [], ({ frames := 1, cells := 23, slots := 2000, locals := 20 } : Room))
theorem e_m_init : k_m_init ∈ lw_tbl := mt (i := 971) (by decide +kernel)
abbrev c_m_thrown : ByteArray := prog_9_method_2_code
abbrev y_m_thrown : MethodName := { cls := "ContainerHostModel", name := "thrown", desc := "()I" }
abbrev k_m_thrown : Cond := .code y_m_thrown c_m_thrown 1 (Option.some FieldType.int)
abbrev M_m_thrown : xMeth := ("ContainerHostModel", c_m_thrown, 1, (Option.some FieldType.int), "thrown", [], ({ frames := 0, cells := 0, slots := 0, locals := 0 } : Room))
theorem e_m_thrown : k_m_thrown ∈ lw_tbl := mt (i := 1062) (by decide +kernel)
abbrev c_m_newImage : ByteArray := prog_9_method_14_code
abbrev y_m_newImage : MethodName := { cls := "ContainerHostModel", name := "newImage", desc := "(I)I" }
abbrev k_m_newImage : Cond := .code y_m_newImage c_m_newImage 4 (Option.some FieldType.int)
abbrev M_m_newImage : xMeth := ("ContainerHostModel", c_m_newImage, 4, (Option.some FieldType.int), "newImage", [], ({ frames := 2, cells := 0, slots := 0, locals := 42 } : Room))
theorem e_m_newImage : k_m_newImage ∈ lw_tbl := mt (i := 1066) (by decide +kernel)
abbrev c_m_isImage : ByteArray := prog_9_method_5_code
abbrev y_m_isImage : MethodName := { cls := "ContainerHostModel", name := "isImage", desc := "(I)Z" }
abbrev k_m_isImage : Cond := .code y_m_isImage c_m_isImage 2 (Option.some FieldType.boolean)
abbrev M_m_isImage : xMeth := ("ContainerHostModel", c_m_isImage, 2, (Option.some FieldType.boolean), "isImage", [], ({ frames := 1, cells := 0, slots := 0, locals := 21 } : Room))
theorem e_m_isImage : k_m_isImage ∈ lw_tbl := mt (i := 1070) (by decide +kernel)
abbrev c_m_isIn : ByteArray := prog_9_method_4_code
abbrev y_m_isIn : MethodName := { cls := "ContainerHostModel", name := "isIn", desc := "(II)Z" }
abbrev k_m_isIn : Cond := .code y_m_isIn c_m_isIn 2 (Option.some FieldType.boolean)
abbrev M_m_isIn : xMeth := ("ContainerHostModel", c_m_isIn, 2, (Option.some FieldType.boolean), "isIn", [], ({ frames := 0, cells := 0, slots := 0, locals := 0 } : Room))
theorem e_m_isIn : k_m_isIn ∈ lw_tbl := mt (i := 1073) (by decide +kernel)
abbrev c_m_layersOf : ByteArray := prog_9_method_8_code
abbrev y_m_layersOf : MethodName := { cls := "ContainerHostModel", name := "layersOf", desc := "(I)I" }
abbrev k_m_layersOf : Cond := .code y_m_layersOf c_m_layersOf 4 (Option.some FieldType.int)
abbrev M_m_layersOf : xMeth := ("ContainerHostModel", c_m_layersOf, 4, (Option.some FieldType.int), "layersOf", [], ({ frames := 0, cells := 0, slots := 0, locals := 0 } : Room))
theorem e_m_layersOf : k_m_layersOf ∈ lw_tbl := mt (i := 1077) (by decide +kernel)
abbrev c_m_holds : ByteArray := prog_9_method_3_code
abbrev y_m_holds : MethodName := { cls := "ContainerHostModel", name := "holds", desc := "(I)Z" }
abbrev k_m_holds : Cond := .code y_m_holds c_m_holds 2 (Option.some FieldType.boolean)
abbrev M_m_holds : xMeth := ("ContainerHostModel", c_m_holds, 2, (Option.some FieldType.boolean), "holds", [], ({ frames := 0, cells := 0, slots := 0, locals := 0 } : Room))
theorem e_m_holds : k_m_holds ∈ lw_tbl := mt (i := 1081) (by decide +kernel)
abbrev c_m_empties : ByteArray := prog_9_method_12_code
abbrev y_m_empties : MethodName := { cls := "ContainerHostModel", name := "empties", desc := "(I)V" }
abbrev k_m_empties : Cond := .code y_m_empties c_m_empties 3 (Option.none : Option FieldType)
abbrev M_m_empties : xMeth := ("ContainerHostModel", c_m_empties, 3, (Option.none : Option FieldType), "empties", [], ({ frames := 0, cells := 0, slots := 0, locals := 0 } : Room))
theorem e_m_empties : k_m_empties ∈ lw_tbl := mt (i := 1085) (by decide +kernel)
abbrev c_m_write : ByteArray := prog_9_method_16_code
abbrev y_m_write : MethodName := { cls := "ContainerHostModel", name := "write", desc := "(III)I" }
abbrev k_m_write : Cond := .code y_m_write c_m_write 6 (Option.some FieldType.int)
abbrev M_m_write : xMeth := ("ContainerHostModel", c_m_write, 6, (Option.some FieldType.int), "write", [], ({ frames := 2, cells := 0, slots := 0, locals := 48 } : Room))
theorem e_m_write : k_m_write ∈ lw_tbl := mt (i := 1089) (by decide +kernel)
abbrev c_m_isContent : ByteArray := prog_9_method_15_code
abbrev y_m_isContent : MethodName := { cls := "ContainerHostModel", name := "isContent", desc := "(I)Z" }
abbrev k_m_isContent : Cond := .code y_m_isContent c_m_isContent 1 (Option.some FieldType.boolean)
abbrev M_m_isContent : xMeth := ("ContainerHostModel", c_m_isContent, 1, (Option.some FieldType.boolean), "isContent", [], ({ frames := 0, cells := 0, slots := 0, locals := 0 } : Room))
theorem e_m_isContent : k_m_isContent ∈ lw_tbl := mt (i := 1092) (by decide +kernel)
abbrev c_m_imageShows : ByteArray := prog_9_method_10_code
abbrev y_m_imageShows : MethodName := { cls := "ContainerHostModel", name := "imageShows", desc := "(II)I" }
abbrev k_m_imageShows : Cond := .code y_m_imageShows c_m_imageShows 3 (Option.some FieldType.int)
abbrev M_m_imageShows : xMeth := ("ContainerHostModel", c_m_imageShows, 3, (Option.some FieldType.int), "imageShows", [], ({ frames := 1, cells := 0, slots := 0, locals := 26 } : Room))
theorem e_m_imageShows : k_m_imageShows ∈ lw_tbl := mt (i := 1096) (by decide +kernel)
abbrev c_m_shows : ByteArray := prog_9_method_9_code
abbrev y_m_shows : MethodName := { cls := "ContainerHostModel", name := "shows", desc := "(III)I" }
abbrev k_m_shows : Cond := .code y_m_shows c_m_shows 7 (Option.some FieldType.int)
abbrev M_m_shows : xMeth := ("ContainerHostModel", c_m_shows, 7, (Option.some FieldType.int), "shows", [], ({ frames := 0, cells := 0, slots := 0, locals := 0 } : Room))
theorem e_m_shows : k_m_shows ∈ lw_tbl := mt (i := 1100) (by decide +kernel)
abbrev c_m_remove : ByteArray := prog_9_method_17_code
abbrev y_m_remove : MethodName := { cls := "ContainerHostModel", name := "remove", desc := "(II)I" }
abbrev k_m_remove : Cond := .code y_m_remove c_m_remove 5 (Option.some FieldType.int)
abbrev M_m_remove : xMeth := ("ContainerHostModel", c_m_remove, 5, (Option.some FieldType.int), "remove", [], ({ frames := 2, cells := 0, slots := 0, locals := 48 } : Room))
theorem e_m_remove : k_m_remove ∈ lw_tbl := mt (i := 1104) (by decide +kernel)
abbrev c_m_clear : ByteArray := prog_9_method_18_code
abbrev y_m_clear : MethodName := { cls := "ContainerHostModel", name := "clear", desc := "(II)I" }
abbrev k_m_clear : Cond := .code y_m_clear c_m_clear 6 (Option.some FieldType.int)
abbrev M_m_clear : xMeth := ("ContainerHostModel", c_m_clear, 6, (Option.some FieldType.int), "clear", [], ({ frames := 2, cells := 0, slots := 0, locals := 48 } : Room))
theorem e_m_clear : k_m_clear ∈ lw_tbl := mt (i := 1108) (by decide +kernel)
abbrev c_m_seal : ByteArray := prog_9_method_19_code
abbrev y_m_seal : MethodName := { cls := "ContainerHostModel", name := "seal", desc := "(I)I" }
abbrev k_m_seal : Cond := .code y_m_seal c_m_seal 3 (Option.some FieldType.int)
abbrev M_m_seal : xMeth := ("ContainerHostModel", c_m_seal, 3, (Option.some FieldType.int), "seal", [], ({ frames := 2, cells := 0, slots := 0, locals := 42 } : Room))
theorem e_m_seal : k_m_seal ∈ lw_tbl := mt (i := 1112) (by decide +kernel)
abbrev c_m_shown : ByteArray := prog_9_method_20_code
abbrev y_m_shown : MethodName := { cls := "ContainerHostModel", name := "shown", desc := "(II)I" }
abbrev k_m_shown : Cond := .code y_m_shown c_m_shown 3 (Option.some FieldType.int)
abbrev M_m_shown : xMeth := ("ContainerHostModel", c_m_shown, 3, (Option.some FieldType.int), "shown", [], ({ frames := 2, cells := 0, slots := 0, locals := 48 } : Room))
theorem e_m_shown : k_m_shown ∈ lw_tbl := mt (i := 1116) (by decide +kernel)
abbrev c_m_entries : ByteArray := prog_9_method_21_code
abbrev y_m_entries : MethodName := { cls := "ContainerHostModel", name := "entries", desc := "(II)I" }
abbrev k_m_entries : Cond := .code y_m_entries c_m_entries 7 (Option.some FieldType.int)
abbrev M_m_entries : xMeth := ("ContainerHostModel", c_m_entries, 7, (Option.some FieldType.int), "entries", [], ({ frames := 2, cells := 0, slots := 0, locals := 42 } : Room))
theorem e_m_entries : k_m_entries ∈ lw_tbl := mt (i := 1120) (by decide +kernel)
abbrev c_m_commit : ByteArray := prog_9_method_22_code
abbrev y_m_commit : MethodName := { cls := "ContainerHostModel", name := "commit", desc := "(I)I" }
abbrev k_m_commit : Cond := .code y_m_commit c_m_commit 3 (Option.some FieldType.int)
abbrev M_m_commit : xMeth := ("ContainerHostModel", c_m_commit, 3, (Option.some FieldType.int), "commit", [], ({ frames := 2, cells := 0, slots := 0, locals := 42 } : Room))
theorem e_m_commit : k_m_commit ∈ lw_tbl := mt (i := 1124) (by decide +kernel)
abbrev c_m_isContainer : ByteArray := prog_9_method_6_code
abbrev y_m_isContainer : MethodName := { cls := "ContainerHostModel", name := "isContainer", desc := "(I)Z" }
abbrev k_m_isContainer : Cond := .code y_m_isContainer c_m_isContainer 2 (Option.some FieldType.boolean)
abbrev M_m_isContainer : xMeth := ("ContainerHostModel", c_m_isContainer, 2, (Option.some FieldType.boolean), "isContainer", [], ({ frames := 1, cells := 0, slots := 0, locals := 21 } : Room))
theorem e_m_isContainer : k_m_isContainer ∈ lw_tbl := mt (i := 1128) (by decide +kernel)
abbrev c_m_copies : ByteArray := prog_9_method_13_code
abbrev y_m_copies : MethodName := { cls := "ContainerHostModel", name := "copies", desc := "(II)V" }
abbrev k_m_copies : Cond := .code y_m_copies c_m_copies 4 (Option.none : Option FieldType)
abbrev M_m_copies : xMeth := ("ContainerHostModel", c_m_copies, 4, (Option.none : Option FieldType), "copies", [], ({ frames := 0, cells := 0, slots := 0, locals := 0 } : Room))
theorem e_m_copies : k_m_copies ∈ lw_tbl := mt (i := 1132) (by decide +kernel)
abbrev c_m_newGroup : ByteArray := prog_9_method_26_code
abbrev y_m_newGroup : MethodName := { cls := "ContainerHostModel", name := "newGroup", desc := "(IIII)I" }
abbrev k_m_newGroup : Cond := .code y_m_newGroup c_m_newGroup 6 (Option.some FieldType.int)
abbrev M_m_newGroup : xMeth := ("ContainerHostModel", c_m_newGroup, 6, (Option.some FieldType.int), "newGroup", [], ({ frames := 2, cells := 0, slots := 0, locals := 42 } : Room))
theorem e_m_newGroup : k_m_newGroup ∈ lw_tbl := mt (i := 1136) (by decide +kernel)
abbrev c_m_isGroup : ByteArray := prog_9_method_7_code
abbrev y_m_isGroup : MethodName := { cls := "ContainerHostModel", name := "isGroup", desc := "(I)Z" }
abbrev k_m_isGroup : Cond := .code y_m_isGroup c_m_isGroup 2 (Option.some FieldType.boolean)
abbrev M_m_isGroup : xMeth := ("ContainerHostModel", c_m_isGroup, 2, (Option.some FieldType.boolean), "isGroup", [], ({ frames := 1, cells := 0, slots := 0, locals := 21 } : Room))
theorem e_m_isGroup : k_m_isGroup ∈ lw_tbl := mt (i := 1140) (by decide +kernel)
abbrev c_m_groupMemory : ByteArray := prog_9_method_27_code
abbrev y_m_groupMemory : MethodName := { cls := "ContainerHostModel", name := "groupMemory", desc := "(I)I" }
abbrev k_m_groupMemory : Cond := .code y_m_groupMemory c_m_groupMemory 2 (Option.some FieldType.int)
abbrev M_m_groupMemory : xMeth := ("ContainerHostModel", c_m_groupMemory, 2, (Option.some FieldType.int), "groupMemory", [], ({ frames := 2, cells := 0, slots := 0, locals := 46 } : Room))
theorem e_m_groupMemory : k_m_groupMemory ∈ lw_tbl := mt (i := 1144) (by decide +kernel)
abbrev c_m_memoryIn : ByteArray := prog_9_method_24_code
abbrev y_m_memoryIn : MethodName := { cls := "ContainerHostModel", name := "memoryIn", desc := "(I)I" }
abbrev k_m_memoryIn : Cond := .code y_m_memoryIn c_m_memoryIn 4 (Option.some FieldType.int)
abbrev M_m_memoryIn : xMeth := ("ContainerHostModel", c_m_memoryIn, 4, (Option.some FieldType.int), "memoryIn", [], ({ frames := 1, cells := 0, slots := 0, locals := 23 } : Room))
theorem e_m_memoryIn : k_m_memoryIn ∈ lw_tbl := mt (i := 1148) (by decide +kernel)
abbrev c_m_isBelow : ByteArray := prog_9_method_23_code
abbrev y_m_isBelow : MethodName := { cls := "ContainerHostModel", name := "isBelow", desc := "(II)Z" }
abbrev k_m_isBelow : Cond := .code y_m_isBelow c_m_isBelow 4 (Option.some FieldType.boolean)
abbrev M_m_isBelow : xMeth := ("ContainerHostModel", c_m_isBelow, 4, (Option.some FieldType.boolean), "isBelow", [], ({ frames := 0, cells := 0, slots := 0, locals := 0 } : Room))
theorem e_m_isBelow : k_m_isBelow ∈ lw_tbl := mt (i := 1152) (by decide +kernel)
abbrev c_m_groupProcesses : ByteArray := prog_9_method_28_code
abbrev y_m_groupProcesses : MethodName := { cls := "ContainerHostModel", name := "groupProcesses", desc := "(I)I" }
abbrev k_m_groupProcesses : Cond := .code y_m_groupProcesses c_m_groupProcesses 2 (Option.some FieldType.int)
abbrev M_m_groupProcesses : xMeth := ("ContainerHostModel", c_m_groupProcesses, 2, (Option.some FieldType.int), "groupProcesses", [], ({ frames := 2, cells := 0, slots := 0, locals := 46 } : Room))
theorem e_m_groupProcesses : k_m_groupProcesses ∈ lw_tbl := mt (i := 1156) (by decide +kernel)
abbrev c_m_processesIn : ByteArray := prog_9_method_25_code
abbrev y_m_processesIn : MethodName := { cls := "ContainerHostModel", name := "processesIn", desc := "(I)I" }
abbrev k_m_processesIn : Cond := .code y_m_processesIn c_m_processesIn 4 (Option.some FieldType.int)
abbrev M_m_processesIn : xMeth := ("ContainerHostModel", c_m_processesIn, 4, (Option.some FieldType.int), "processesIn", [], ({ frames := 1, cells := 0, slots := 0, locals := 23 } : Room))
theorem e_m_processesIn : k_m_processesIn ∈ lw_tbl := mt (i := 1160) (by decide +kernel)
abbrev c_m_run : ByteArray := prog_9_method_31_code
abbrev y_m_run : MethodName := { cls := "ContainerHostModel", name := "run", desc := "(IIII)I" }
abbrev k_m_run : Cond := .code y_m_run c_m_run 7 (Option.some FieldType.int)
abbrev M_m_run : xMeth := ("ContainerHostModel", c_m_run, 7, (Option.some FieldType.int), "run", [], ({ frames := 3, cells := 0, slots := 0, locals := 70 } : Room))
theorem e_m_run : k_m_run ∈ lw_tbl := mt (i := 1164) (by decide +kernel)
abbrev c_m_tooMuch : ByteArray := prog_9_method_29_code
abbrev y_m_tooMuch : MethodName := { cls := "ContainerHostModel", name := "tooMuch", desc := "(III)I" }
abbrev k_m_tooMuch : Cond := .code y_m_tooMuch c_m_tooMuch 5 (Option.some FieldType.int)
abbrev M_m_tooMuch : xMeth := ("ContainerHostModel", c_m_tooMuch, 5, (Option.some FieldType.int), "tooMuch", [], ({ frames := 2, cells := 0, slots := 0, locals := 46 } : Room))
theorem e_m_tooMuch : k_m_tooMuch ∈ lw_tbl := mt (i := 1168) (by decide +kernel)
abbrev c_m_begins : ByteArray := prog_9_method_30_code
abbrev y_m_begins : MethodName := { cls := "ContainerHostModel", name := "begins", desc := "(IIII)V" }
abbrev k_m_begins : Cond := .code y_m_begins c_m_begins 5 (Option.none : Option FieldType)
abbrev M_m_begins : xMeth := ("ContainerHostModel", c_m_begins, 5, (Option.none : Option FieldType), "begins", [], ({ frames := 1, cells := 0, slots := 0, locals := 22 } : Room))
theorem e_m_begins : k_m_begins ∈ lw_tbl := mt (i := 1172) (by decide +kernel)
abbrev c_m_pause : ByteArray := prog_9_method_33_code
abbrev y_m_pause : MethodName := { cls := "ContainerHostModel", name := "pause", desc := "(I)V" }
abbrev k_m_pause : Cond := .code y_m_pause c_m_pause 2 (Option.none : Option FieldType)
abbrev M_m_pause : xMeth := ("ContainerHostModel", c_m_pause, 2, (Option.none : Option FieldType), "pause", [], ({ frames := 3, cells := 0, slots := 0, locals := 65 } : Room))
theorem e_m_pause : k_m_pause ∈ lw_tbl := mt (i := 1176) (by decide +kernel)
abbrev c_m_isThere : ByteArray := prog_9_method_32_code
abbrev y_m_isThere : MethodName := { cls := "ContainerHostModel", name := "isThere", desc := "(II)Z" }
abbrev k_m_isThere : Cond := .code y_m_isThere c_m_isThere 4 (Option.some FieldType.boolean)
abbrev M_m_isThere : xMeth := ("ContainerHostModel", c_m_isThere, 4, (Option.some FieldType.boolean), "isThere", [], ({ frames := 2, cells := 0, slots := 0, locals := 42 } : Room))
theorem e_m_isThere : k_m_isThere ∈ lw_tbl := mt (i := 1180) (by decide +kernel)
abbrev c_m_resume : ByteArray := prog_9_method_34_code
abbrev y_m_resume : MethodName := { cls := "ContainerHostModel", name := "resume", desc := "(I)V" }
abbrev k_m_resume : Cond := .code y_m_resume c_m_resume 2 (Option.none : Option FieldType)
abbrev M_m_resume : xMeth := ("ContainerHostModel", c_m_resume, 2, (Option.none : Option FieldType), "resume", [], ({ frames := 3, cells := 0, slots := 0, locals := 65 } : Room))
theorem e_m_resume : k_m_resume ∈ lw_tbl := mt (i := 1184) (by decide +kernel)
abbrev c_m_stop : ByteArray := prog_9_method_36_code
abbrev y_m_stop : MethodName := { cls := "ContainerHostModel", name := "stop", desc := "(I)I" }
abbrev k_m_stop : Cond := .code y_m_stop c_m_stop 3 (Option.some FieldType.int)
abbrev M_m_stop : xMeth := ("ContainerHostModel", c_m_stop, 3, (Option.some FieldType.int), "stop", [], ({ frames := 2, cells := 0, slots := 0, locals := 42 } : Room))
theorem e_m_stop : k_m_stop ∈ lw_tbl := mt (i := 1188) (by decide +kernel)
abbrev c_m_stops : ByteArray := prog_9_method_35_code
abbrev y_m_stops : MethodName := { cls := "ContainerHostModel", name := "stops", desc := "(I)I" }
abbrev k_m_stops : Cond := .code y_m_stops c_m_stops 4 (Option.some FieldType.int)
abbrev M_m_stops : xMeth := ("ContainerHostModel", c_m_stops, 4, (Option.some FieldType.int), "stops", [], ({ frames := 0, cells := 0, slots := 0, locals := 0 } : Room))
theorem e_m_stops : k_m_stops ∈ lw_tbl := mt (i := 1192) (by decide +kernel)
abbrev c_m_allocate : ByteArray := prog_9_method_39_code
abbrev y_m_allocate : MethodName := { cls := "ContainerHostModel", name := "allocate", desc := "(II)I" }
abbrev k_m_allocate : Cond := .code y_m_allocate c_m_allocate 6 (Option.some FieldType.int)
abbrev M_m_allocate : xMeth := ("ContainerHostModel", c_m_allocate, 6, (Option.some FieldType.int), "allocate", [], ({ frames := 3, cells := 0, slots := 0, locals := 70 } : Room))
theorem e_m_allocate : k_m_allocate ∈ lw_tbl := mt (i := 1196) (by decide +kernel)
abbrev c_m_areUnits : ByteArray := prog_9_method_38_code
abbrev y_m_areUnits : MethodName := { cls := "ContainerHostModel", name := "areUnits", desc := "(I)Z" }
abbrev k_m_areUnits : Cond := .code y_m_areUnits c_m_areUnits 1 (Option.some FieldType.boolean)
abbrev M_m_areUnits : xMeth := ("ContainerHostModel", c_m_areUnits, 1, (Option.some FieldType.boolean), "areUnits", [], ({ frames := 0, cells := 0, slots := 0, locals := 0 } : Room))
theorem e_m_areUnits : k_m_areUnits ∈ lw_tbl := mt (i := 1199) (by decide +kernel)
abbrev c_m_greatest : ByteArray := prog_9_method_37_code
abbrev y_m_greatest : MethodName := { cls := "ContainerHostModel", name := "greatest", desc := "(I)I" }
abbrev k_m_greatest : Cond := .code y_m_greatest c_m_greatest 5 (Option.some FieldType.int)
abbrev M_m_greatest : xMeth := ("ContainerHostModel", c_m_greatest, 5, (Option.some FieldType.int), "greatest", [], ({ frames := 1, cells := 0, slots := 0, locals := 23 } : Room))
theorem e_m_greatest : k_m_greatest ∈ lw_tbl := mt (i := 1203) (by decide +kernel)
abbrev c_m_free : ByteArray := prog_9_method_40_code
abbrev y_m_free : MethodName := { cls := "ContainerHostModel", name := "free", desc := "(II)I" }
abbrev k_m_free : Cond := .code y_m_free c_m_free 4 (Option.some FieldType.int)
abbrev M_m_free : xMeth := ("ContainerHostModel", c_m_free, 4, (Option.some FieldType.int), "free", [], ({ frames := 2, cells := 0, slots := 0, locals := 42 } : Room))
theorem e_m_free : k_m_free ∈ lw_tbl := mt (i := 1207) (by decide +kernel)
abbrev c_m_fork : ByteArray := prog_9_method_41_code
abbrev y_m_fork : MethodName := { cls := "ContainerHostModel", name := "fork", desc := "(I)I" }
abbrev k_m_fork : Cond := .code y_m_fork c_m_fork 3 (Option.some FieldType.int)
abbrev M_m_fork : xMeth := ("ContainerHostModel", c_m_fork, 3, (Option.some FieldType.int), "fork", [], ({ frames := 3, cells := 0, slots := 0, locals := 70 } : Room))
theorem e_m_fork : k_m_fork ∈ lw_tbl := mt (i := 1211) (by decide +kernel)
abbrev c_m_exit : ByteArray := prog_9_method_42_code
abbrev y_m_exit : MethodName := { cls := "ContainerHostModel", name := "exit", desc := "(I)I" }
abbrev k_m_exit : Cond := .code y_m_exit c_m_exit 3 (Option.some FieldType.int)
abbrev M_m_exit : xMeth := ("ContainerHostModel", c_m_exit, 3, (Option.some FieldType.int), "exit", [], ({ frames := 3, cells := 0, slots := 0, locals := 65 } : Room))
theorem e_m_exit : k_m_exit ∈ lw_tbl := mt (i := 1215) (by decide +kernel)
abbrev c_m_schedule : ByteArray := prog_9_method_47_code
abbrev y_m_schedule : MethodName := { cls := "ContainerHostModel", name := "schedule", desc := "(I)I" }
abbrev k_m_schedule : Cond := .code y_m_schedule c_m_schedule 4 (Option.some FieldType.int)
abbrev M_m_schedule : xMeth := ("ContainerHostModel", c_m_schedule, 4, (Option.some FieldType.int), "schedule", [], ({ frames := 3, cells := 0, slots := 0, locals := 73 } : Room))
theorem e_m_schedule : k_m_schedule ∈ lw_tbl := mt (i := 1219) (by decide +kernel)
abbrev c_m_sharesOut : ByteArray := prog_9_method_46_code
abbrev y_m_sharesOut : MethodName := { cls := "ContainerHostModel", name := "sharesOut", desc := "(I)I" }
abbrev k_m_sharesOut : Cond := .code y_m_sharesOut c_m_sharesOut 7 (Option.some FieldType.int)
abbrev M_m_sharesOut : xMeth := ("ContainerHostModel", c_m_sharesOut, 7, (Option.some FieldType.int), "sharesOut", [], ({ frames := 2, cells := 0, slots := 0, locals := 47 } : Room))
theorem e_m_sharesOut : k_m_sharesOut ∈ lw_tbl := mt (i := 1223) (by decide +kernel)
abbrev c_m_isPart : ByteArray := prog_9_method_43_code
abbrev y_m_isPart : MethodName := { cls := "ContainerHostModel", name := "isPart", desc := "(II)Z" }
abbrev k_m_isPart : Cond := .code y_m_isPart c_m_isPart 5 (Option.some FieldType.boolean)
abbrev M_m_isPart : xMeth := ("ContainerHostModel", c_m_isPart, 5, (Option.some FieldType.boolean), "isPart", [], ({ frames := 1, cells := 0, slots := 0, locals := 23 } : Room))
theorem e_m_isPart : k_m_isPart ∈ lw_tbl := mt (i := 1227) (by decide +kernel)
abbrev c_m_sharesOfPart : ByteArray := prog_9_method_44_code
abbrev y_m_sharesOfPart : MethodName := { cls := "ContainerHostModel", name := "sharesOfPart", desc := "(I)I" }
abbrev k_m_sharesOfPart : Cond := .code y_m_sharesOfPart c_m_sharesOfPart 2 (Option.some FieldType.int)
abbrev M_m_sharesOfPart : xMeth := ("ContainerHostModel", c_m_sharesOfPart, 2, (Option.some FieldType.int), "sharesOfPart", [], ({ frames := 0, cells := 0, slots := 0, locals := 0 } : Room))
theorem e_m_sharesOfPart : k_m_sharesOfPart ∈ lw_tbl := mt (i := 1231) (by decide +kernel)
abbrev c_m_gives : ByteArray := prog_9_method_45_code
abbrev y_m_gives : MethodName := { cls := "ContainerHostModel", name := "gives", desc := "(II)V" }
abbrev k_m_gives : Cond := .code y_m_gives c_m_gives 3 (Option.none : Option FieldType)
abbrev M_m_gives : xMeth := ("ContainerHostModel", c_m_gives, 3, (Option.none : Option FieldType), "gives", [], ({ frames := 0, cells := 0, slots := 0, locals := 0 } : Room))
theorem e_m_gives : k_m_gives ∈ lw_tbl := mt (i := 1235) (by decide +kernel)
abbrev c_m_writeFile : ByteArray := prog_9_method_50_code
abbrev y_m_writeFile : MethodName := { cls := "ContainerHostModel", name := "writeFile", desc := "(III)I" }
abbrev k_m_writeFile : Cond := .code y_m_writeFile c_m_writeFile 6 (Option.some FieldType.int)
abbrev M_m_writeFile : xMeth := ("ContainerHostModel", c_m_writeFile, 6, (Option.some FieldType.int), "writeFile", [], ({ frames := 2, cells := 0, slots := 0, locals := 48 } : Room))
theorem e_m_writeFile : k_m_writeFile ∈ lw_tbl := mt (i := 1239) (by decide +kernel)
abbrev c_m_mayChange : ByteArray := prog_9_method_49_code
abbrev y_m_mayChange : MethodName := { cls := "ContainerHostModel", name := "mayChange", desc := "(II)Z" }
abbrev k_m_mayChange : Cond := .code y_m_mayChange c_m_mayChange 3 (Option.some FieldType.boolean)
abbrev M_m_mayChange : xMeth := ("ContainerHostModel", c_m_mayChange, 3, (Option.some FieldType.boolean), "mayChange", [], ({ frames := 1, cells := 0, slots := 0, locals := 22 } : Room))
theorem e_m_mayChange : k_m_mayChange ∈ lw_tbl := mt (i := 1243) (by decide +kernel)
abbrev c_m_isEffective : ByteArray := prog_9_method_48_code
abbrev y_m_isEffective : MethodName := { cls := "ContainerHostModel", name := "isEffective", desc := "(II)Z" }
abbrev k_m_isEffective : Cond := .code y_m_isEffective c_m_isEffective 3 (Option.some FieldType.boolean)
abbrev M_m_isEffective : xMeth := ("ContainerHostModel", c_m_isEffective, 3, (Option.some FieldType.boolean), "isEffective", [], ({ frames := 0, cells := 0, slots := 0, locals := 0 } : Room))
theorem e_m_isEffective : k_m_isEffective ∈ lw_tbl := mt (i := 1247) (by decide +kernel)
abbrev c_m_containerSees : ByteArray := prog_9_method_11_code
abbrev y_m_containerSees : MethodName := { cls := "ContainerHostModel", name := "containerSees", desc := "(II)I" }
abbrev k_m_containerSees : Cond := .code y_m_containerSees c_m_containerSees 3 (Option.some FieldType.int)
abbrev M_m_containerSees : xMeth := ("ContainerHostModel", c_m_containerSees, 3, (Option.some FieldType.int), "containerSees", [], ({ frames := 1, cells := 0, slots := 0, locals := 26 } : Room))
theorem e_m_containerSees : k_m_containerSees ∈ lw_tbl := mt (i := 1251) (by decide +kernel)
abbrev c_m_removeFile : ByteArray := prog_9_method_51_code
abbrev y_m_removeFile : MethodName := { cls := "ContainerHostModel", name := "removeFile", desc := "(II)I" }
abbrev k_m_removeFile : Cond := .code y_m_removeFile c_m_removeFile 5 (Option.some FieldType.int)
abbrev M_m_removeFile : xMeth := ("ContainerHostModel", c_m_removeFile, 5, (Option.some FieldType.int), "removeFile", [], ({ frames := 2, cells := 0, slots := 0, locals := 48 } : Room))
theorem e_m_removeFile : k_m_removeFile ∈ lw_tbl := mt (i := 1255) (by decide +kernel)
abbrev c_m_fileOf : ByteArray := prog_9_method_52_code
abbrev y_m_fileOf : MethodName := { cls := "ContainerHostModel", name := "fileOf", desc := "(II)I" }
abbrev k_m_fileOf : Cond := .code y_m_fileOf c_m_fileOf 3 (Option.some FieldType.int)
abbrev M_m_fileOf : xMeth := ("ContainerHostModel", c_m_fileOf, 3, (Option.some FieldType.int), "fileOf", [], ({ frames := 2, cells := 0, slots := 0, locals := 48 } : Room))
theorem e_m_fileOf : k_m_fileOf ∈ lw_tbl := mt (i := 1259) (by decide +kernel)
abbrev c_m_plainFileOf : ByteArray := prog_9_method_54_code
abbrev y_m_plainFileOf : MethodName := { cls := "ContainerHostModel", name := "plainFileOf", desc := "(II)I" }
abbrev k_m_plainFileOf : Cond := .code y_m_plainFileOf c_m_plainFileOf 7 (Option.some FieldType.int)
abbrev M_m_plainFileOf : xMeth := ("ContainerHostModel", c_m_plainFileOf, 7, (Option.some FieldType.int), "plainFileOf", [], ({ frames := 2, cells := 0, slots := 0, locals := 48 } : Room))
theorem e_m_plainFileOf : k_m_plainFileOf ∈ lw_tbl := mt (i := 1263) (by decide +kernel)
abbrev c_m_layerAt : ByteArray := prog_9_method_53_code
abbrev y_m_layerAt : MethodName := { cls := "ContainerHostModel", name := "layerAt", desc := "(II)I" }
abbrev k_m_layerAt : Cond := .code y_m_layerAt c_m_layerAt 6 (Option.some FieldType.int)
abbrev M_m_layerAt : xMeth := ("ContainerHostModel", c_m_layerAt, 6, (Option.some FieldType.int), "layerAt", [], ({ frames := 1, cells := 0, slots := 0, locals := 23 } : Room))
theorem e_m_layerAt : k_m_layerAt ∈ lw_tbl := mt (i := 1267) (by decide +kernel)
abbrev c_m_raise : ByteArray := prog_9_method_56_code
abbrev y_m_raise : MethodName := { cls := "ContainerHostModel", name := "raise", desc := "(II)I" }
abbrev k_m_raise : Cond := .code y_m_raise c_m_raise 3 (Option.some FieldType.int)
abbrev M_m_raise : xMeth := ("ContainerHostModel", c_m_raise, 3, (Option.some FieldType.int), "raise", [], ({ frames := 3, cells := 0, slots := 0, locals := 66 } : Room))
theorem e_m_raise : k_m_raise ∈ lw_tbl := mt (i := 1271) (by decide +kernel)
abbrev c_m_isCapability : ByteArray := prog_9_method_55_code
abbrev y_m_isCapability : MethodName := { cls := "ContainerHostModel", name := "isCapability", desc := "(IIZ)Z" }
abbrev k_m_isCapability : Cond := .code y_m_isCapability c_m_isCapability 5 (Option.some FieldType.boolean)
abbrev M_m_isCapability : xMeth := ("ContainerHostModel", c_m_isCapability, 5, (Option.some FieldType.boolean), "isCapability", [], ({ frames := 2, cells := 0, slots := 0, locals := 42 } : Room))
theorem e_m_isCapability : k_m_isCapability ∈ lw_tbl := mt (i := 1275) (by decide +kernel)
abbrev c_m_lower : ByteArray := prog_9_method_57_code
abbrev y_m_lower : MethodName := { cls := "ContainerHostModel", name := "lower", desc := "(II)I" }
abbrev k_m_lower : Cond := .code y_m_lower c_m_lower 3 (Option.some FieldType.int)
abbrev M_m_lower : xMeth := ("ContainerHostModel", c_m_lower, 3, (Option.some FieldType.int), "lower", [], ({ frames := 3, cells := 0, slots := 0, locals := 66 } : Room))
theorem e_m_lower : k_m_lower ∈ lw_tbl := mt (i := 1279) (by decide +kernel)
abbrev c_m_drop : ByteArray := prog_9_method_58_code
abbrev y_m_drop : MethodName := { cls := "ContainerHostModel", name := "drop", desc := "(II)I" }
abbrev k_m_drop : Cond := .code y_m_drop c_m_drop 3 (Option.some FieldType.int)
abbrev M_m_drop : xMeth := ("ContainerHostModel", c_m_drop, 3, (Option.some FieldType.int), "drop", [], ({ frames := 3, cells := 0, slots := 0, locals := 66 } : Room))
theorem e_m_drop : k_m_drop ∈ lw_tbl := mt (i := 1283) (by decide +kernel)
abbrev c_m_kill : ByteArray := prog_9_method_59_code
abbrev y_m_kill : MethodName := { cls := "ContainerHostModel", name := "kill", desc := "(II)I" }
abbrev k_m_kill : Cond := .code y_m_kill c_m_kill 5 (Option.some FieldType.int)
abbrev M_m_kill : xMeth := ("ContainerHostModel", c_m_kill, 5, (Option.some FieldType.int), "kill", [], ({ frames := 2, cells := 0, slots := 0, locals := 42 } : Room))
theorem e_m_kill : k_m_kill ∈ lw_tbl := mt (i := 1287) (by decide +kernel)
abbrev c_m_attach : ByteArray := prog_9_method_62_code
abbrev y_m_attach : MethodName := { cls := "ContainerHostModel", name := "attach", desc := "(II)I" }
abbrev k_m_attach : Cond := .code y_m_attach c_m_attach 6 (Option.some FieldType.int)
abbrev M_m_attach : xMeth := ("ContainerHostModel", c_m_attach, 6, (Option.some FieldType.int), "attach", [], ({ frames := 2, cells := 0, slots := 0, locals := 46 } : Room))
theorem e_m_attach : k_m_attach ∈ lw_tbl := mt (i := 1291) (by decide +kernel)
abbrev c_m_freeAddress : ByteArray := prog_9_method_61_code
abbrev y_m_freeAddress : MethodName := { cls := "ContainerHostModel", name := "freeAddress", desc := "(I)I" }
abbrev k_m_freeAddress : Cond := .code y_m_freeAddress c_m_freeAddress 3 (Option.some FieldType.int)
abbrev M_m_freeAddress : xMeth := ("ContainerHostModel", c_m_freeAddress, 3, (Option.some FieldType.int), "freeAddress", [], ({ frames := 1, cells := 0, slots := 0, locals := 24 } : Room))
theorem e_m_freeAddress : k_m_freeAddress ∈ lw_tbl := mt (i := 1295) (by decide +kernel)
abbrev c_m_atAddress : ByteArray := prog_9_method_60_code
abbrev y_m_atAddress : MethodName := { cls := "ContainerHostModel", name := "atAddress", desc := "(II)I" }
abbrev k_m_atAddress : Cond := .code y_m_atAddress c_m_atAddress 5 (Option.some FieldType.int)
abbrev M_m_atAddress : xMeth := ("ContainerHostModel", c_m_atAddress, 5, (Option.some FieldType.int), "atAddress", [], ({ frames := 0, cells := 0, slots := 0, locals := 0 } : Room))
theorem e_m_atAddress : k_m_atAddress ∈ lw_tbl := mt (i := 1299) (by decide +kernel)
abbrev c_m_detach : ByteArray := prog_9_method_63_code
abbrev y_m_detach : MethodName := { cls := "ContainerHostModel", name := "detach", desc := "(I)I" }
abbrev k_m_detach : Cond := .code y_m_detach c_m_detach 4 (Option.some FieldType.int)
abbrev M_m_detach : xMeth := ("ContainerHostModel", c_m_detach, 4, (Option.some FieldType.int), "detach", [], ({ frames := 2, cells := 0, slots := 0, locals := 42 } : Room))
theorem e_m_detach : k_m_detach ∈ lw_tbl := mt (i := 1303) (by decide +kernel)
abbrev c_m_listen : ByteArray := prog_9_method_65_code
abbrev y_m_listen : MethodName := { cls := "ContainerHostModel", name := "listen", desc := "(II)I" }
abbrev k_m_listen : Cond := .code y_m_listen c_m_listen 7 (Option.some FieldType.int)
abbrev M_m_listen : xMeth := ("ContainerHostModel", c_m_listen, 7, (Option.some FieldType.int), "listen", [], ({ frames := 2, cells := 0, slots := 0, locals := 42 } : Room))
theorem e_m_listen : k_m_listen ∈ lw_tbl := mt (i := 1307) (by decide +kernel)
abbrev c_m_isListening : ByteArray := prog_9_method_64_code
abbrev y_m_isListening : MethodName := { cls := "ContainerHostModel", name := "isListening", desc := "(II)Z" }
abbrev k_m_isListening : Cond := .code y_m_isListening c_m_isListening 3 (Option.some FieldType.boolean)
abbrev M_m_isListening : xMeth := ("ContainerHostModel", c_m_isListening, 3, (Option.some FieldType.boolean), "isListening", [], ({ frames := 0, cells := 0, slots := 0, locals := 0 } : Room))
theorem e_m_isListening : k_m_isListening ∈ lw_tbl := mt (i := 1311) (by decide +kernel)
abbrev c_m_publish : ByteArray := prog_9_method_66_code
abbrev y_m_publish : MethodName := { cls := "ContainerHostModel", name := "publish", desc := "(III)I" }
abbrev k_m_publish : Cond := .code y_m_publish c_m_publish 7 (Option.some FieldType.int)
abbrev M_m_publish : xMeth := ("ContainerHostModel", c_m_publish, 7, (Option.some FieldType.int), "publish", [], ({ frames := 2, cells := 0, slots := 0, locals := 42 } : Room))
theorem e_m_publish : k_m_publish ∈ lw_tbl := mt (i := 1315) (by decide +kernel)
abbrev c_m_connect : ByteArray := prog_9_method_67_code
abbrev y_m_connect : MethodName := { cls := "ContainerHostModel", name := "connect", desc := "(III)I" }
abbrev k_m_connect : Cond := .code y_m_connect c_m_connect 6 (Option.some FieldType.int)
abbrev M_m_connect : xMeth := ("ContainerHostModel", c_m_connect, 6, (Option.some FieldType.int), "connect", [], ({ frames := 2, cells := 0, slots := 0, locals := 42 } : Room))
theorem e_m_connect : k_m_connect ∈ lw_tbl := mt (i := 1319) (by decide +kernel)
abbrev c_m_connectHost : ByteArray := prog_9_method_68_code
abbrev y_m_connectHost : MethodName := { cls := "ContainerHostModel", name := "connectHost", desc := "(I)I" }
abbrev k_m_connectHost : Cond := .code y_m_connectHost c_m_connectHost 3 (Option.some FieldType.int)
abbrev M_m_connectHost : xMeth := ("ContainerHostModel", c_m_connectHost, 3, (Option.some FieldType.int), "connectHost", [], ({ frames := 1, cells := 0, slots := 0, locals := 21 } : Room))
theorem e_m_connectHost : k_m_connectHost ∈ lw_tbl := mt (i := 1323) (by decide +kernel)
abbrev c_m_save : ByteArray := prog_9_method_70_code
abbrev y_m_save : MethodName := { cls := "ContainerHostModel", name := "save", desc := "(I)I" }
abbrev k_m_save : Cond := .code y_m_save c_m_save 3 (Option.some FieldType.int)
abbrev M_m_save : xMeth := ("ContainerHostModel", c_m_save, 3, (Option.some FieldType.int), "save", [], ({ frames := 2, cells := 0, slots := 0, locals := 45 } : Room))
theorem e_m_save : k_m_save ∈ lw_tbl := mt (i := 1327) (by decide +kernel)
abbrev c_m_keeps : ByteArray := prog_9_method_69_code
abbrev y_m_keeps : MethodName := { cls := "ContainerHostModel", name := "keeps", desc := "(II)V" }
abbrev k_m_keeps : Cond := .code y_m_keeps c_m_keeps 3 (Option.none : Option FieldType)
abbrev M_m_keeps : xMeth := ("ContainerHostModel", c_m_keeps, 3, (Option.none : Option FieldType), "keeps", [], ({ frames := 1, cells := 0, slots := 0, locals := 23 } : Room))
theorem e_m_keeps : k_m_keeps ∈ lw_tbl := mt (i := 1331) (by decide +kernel)
abbrev c_m_restore : ByteArray := prog_9_method_71_code
abbrev y_m_restore : MethodName := { cls := "ContainerHostModel", name := "restore", desc := "(II)I" }
abbrev k_m_restore : Cond := .code y_m_restore c_m_restore 5 (Option.some FieldType.int)
abbrev M_m_restore : xMeth := ("ContainerHostModel", c_m_restore, 5, (Option.some FieldType.int), "restore", [], ({ frames := 3, cells := 0, slots := 0, locals := 70 } : Room))
theorem e_m_restore : k_m_restore ∈ lw_tbl := mt (i := 1335) (by decide +kernel)
abbrev c_m_containers : ByteArray := prog_9_method_72_code
abbrev y_m_containers : MethodName := { cls := "ContainerHostModel", name := "containers", desc := "()I" }
abbrev k_m_containers : Cond := .code y_m_containers c_m_containers 1 (Option.some FieldType.int)
abbrev M_m_containers : xMeth := ("ContainerHostModel", c_m_containers, 1, (Option.some FieldType.int), "containers", [], ({ frames := 0, cells := 0, slots := 0, locals := 0 } : Room))
theorem e_m_containers : k_m_containers ∈ lw_tbl := mt (i := 1339) (by decide +kernel)
abbrev c_m_stateOf : ByteArray := prog_9_method_74_code
abbrev y_m_stateOf : MethodName := { cls := "ContainerHostModel", name := "stateOf", desc := "(I)I" }
abbrev k_m_stateOf : Cond := .code y_m_stateOf c_m_stateOf 2 (Option.some FieldType.int)
abbrev M_m_stateOf : xMeth := ("ContainerHostModel", c_m_stateOf, 2, (Option.some FieldType.int), "stateOf", [], ({ frames := 3, cells := 0, slots := 0, locals := 63 } : Room))
theorem e_m_stateOf : k_m_stateOf ∈ lw_tbl := mt (i := 1343) (by decide +kernel)
abbrev c_m_isAsked : ByteArray := prog_9_method_73_code
abbrev y_m_isAsked : MethodName := { cls := "ContainerHostModel", name := "isAsked", desc := "(I)Z" }
abbrev k_m_isAsked : Cond := .code y_m_isAsked c_m_isAsked 2 (Option.some FieldType.boolean)
abbrev M_m_isAsked : xMeth := ("ContainerHostModel", c_m_isAsked, 2, (Option.some FieldType.boolean), "isAsked", [], ({ frames := 2, cells := 0, slots := 0, locals := 42 } : Room))
theorem e_m_isAsked : k_m_isAsked ∈ lw_tbl := mt (i := 1347) (by decide +kernel)
abbrev c_m_memoryOf : ByteArray := prog_9_method_75_code
abbrev y_m_memoryOf : MethodName := { cls := "ContainerHostModel", name := "memoryOf", desc := "(I)I" }
abbrev k_m_memoryOf : Cond := .code y_m_memoryOf c_m_memoryOf 2 (Option.some FieldType.int)
abbrev M_m_memoryOf : xMeth := ("ContainerHostModel", c_m_memoryOf, 2, (Option.some FieldType.int), "memoryOf", [], ({ frames := 3, cells := 0, slots := 0, locals := 63 } : Room))
theorem e_m_memoryOf : k_m_memoryOf ∈ lw_tbl := mt (i := 1351) (by decide +kernel)
abbrev c_m_timeOf : ByteArray := prog_9_method_76_code
abbrev y_m_timeOf : MethodName := { cls := "ContainerHostModel", name := "timeOf", desc := "(I)I" }
abbrev k_m_timeOf : Cond := .code y_m_timeOf c_m_timeOf 2 (Option.some FieldType.int)
abbrev M_m_timeOf : xMeth := ("ContainerHostModel", c_m_timeOf, 2, (Option.some FieldType.int), "timeOf", [], ({ frames := 3, cells := 0, slots := 0, locals := 63 } : Room))
theorem e_m_timeOf : k_m_timeOf ∈ lw_tbl := mt (i := 1355) (by decide +kernel)
abbrev c_m_capabilitiesOf : ByteArray := prog_9_method_77_code
abbrev y_m_capabilitiesOf : MethodName := { cls := "ContainerHostModel", name := "capabilitiesOf", desc := "(I)I" }
abbrev k_m_capabilitiesOf : Cond := .code y_m_capabilitiesOf c_m_capabilitiesOf 2 (Option.some FieldType.int)
abbrev M_m_capabilitiesOf : xMeth := ("ContainerHostModel", c_m_capabilitiesOf, 2, (Option.some FieldType.int), "capabilitiesOf", [], ({ frames := 3, cells := 0, slots := 0, locals := 63 } : Room))
theorem e_m_capabilitiesOf : k_m_capabilitiesOf ∈ lw_tbl := mt (i := 1359) (by decide +kernel)
abbrev c_m_addressOf : ByteArray := prog_9_method_78_code
abbrev y_m_addressOf : MethodName := { cls := "ContainerHostModel", name := "addressOf", desc := "(I)I" }
abbrev k_m_addressOf : Cond := .code y_m_addressOf c_m_addressOf 2 (Option.some FieldType.int)
abbrev M_m_addressOf : xMeth := ("ContainerHostModel", c_m_addressOf, 2, (Option.some FieldType.int), "addressOf", [], ({ frames := 3, cells := 0, slots := 0, locals := 63 } : Room))
theorem e_m_addressOf : k_m_addressOf ∈ lw_tbl := mt (i := 1363) (by decide +kernel)
theorem w11 : Cond.initialized "ContainerHostModel" ∈ lw_tbl := mt (i := 11) (by decide +kernel)
theorem w970 : Cond.instanceMethod ({ cls := "ContainerHostModel", name := "<init>", desc := "()V" } : MethodName) ∈ lw_tbl := mt (i := 970) (by decide +kernel)
theorem w973 : Cond.fieldLink "ContainerHostModel" (84 : Nat) "ContainerHostModel" "thrown" "I" ∈ lw_tbl := mt (i := 973) (by decide +kernel)
theorem w974 : Cond.fieldLink "ContainerHostModel" (7 : Nat) "ContainerHostModel" "contents" "[I" ∈ lw_tbl := mt (i := 974) (by decide +kernel)
theorem w975 : Cond.fieldLink "ContainerHostModel" (13 : Nat) "ContainerHostModel" "opaque" "[I" ∈ lw_tbl := mt (i := 975) (by decide +kernel)
theorem w976 : Cond.fieldLink "ContainerHostModel" (87 : Nat) "ContainerHostModel" "images" "I" ∈ lw_tbl := mt (i := 976) (by decide +kernel)
theorem w977 : Cond.fieldLink "ContainerHostModel" (16 : Nat) "ContainerHostModel" "bases" "[I" ∈ lw_tbl := mt (i := 977) (by decide +kernel)
theorem w978 : Cond.fieldLink "ContainerHostModel" (19 : Nat) "ContainerHostModel" "isSealed" "[Z" ∈ lw_tbl := mt (i := 978) (by decide +kernel)
theorem w979 : Cond.fieldLink "ContainerHostModel" (23 : Nat) "ContainerHostModel" "groups" "I" ∈ lw_tbl := mt (i := 979) (by decide +kernel)
theorem w980 : Cond.fieldLink "ContainerHostModel" (27 : Nat) "ContainerHostModel" "parents" "[I" ∈ lw_tbl := mt (i := 980) (by decide +kernel)
theorem w981 : Cond.fieldLink "ContainerHostModel" (30 : Nat) "ContainerHostModel" "memoryLimits" "[I" ∈ lw_tbl := mt (i := 981) (by decide +kernel)
theorem w982 : Cond.fieldLink "ContainerHostModel" (33 : Nat) "ContainerHostModel" "processLimits" "[I" ∈ lw_tbl := mt (i := 982) (by decide +kernel)
theorem w983 : Cond.fieldLink "ContainerHostModel" (36 : Nat) "ContainerHostModel" "groupShares" "[I" ∈ lw_tbl := mt (i := 983) (by decide +kernel)
theorem w984 : Cond.fieldLink "ContainerHostModel" (94 : Nat) "ContainerHostModel" "containers" "I" ∈ lw_tbl := mt (i := 984) (by decide +kernel)
theorem w985 : Cond.fieldLink "ContainerHostModel" (39 : Nat) "ContainerHostModel" "imageOf" "[I" ∈ lw_tbl := mt (i := 985) (by decide +kernel)
theorem w986 : Cond.fieldLink "ContainerHostModel" (42 : Nat) "ContainerHostModel" "sharesOf" "[I" ∈ lw_tbl := mt (i := 986) (by decide +kernel)
theorem w987 : Cond.fieldLink "ContainerHostModel" (45 : Nat) "ContainerHostModel" "memory" "[I" ∈ lw_tbl := mt (i := 987) (by decide +kernel)
theorem w988 : Cond.fieldLink "ContainerHostModel" (48 : Nat) "ContainerHostModel" "processes" "[I" ∈ lw_tbl := mt (i := 988) (by decide +kernel)
theorem w989 : Cond.fieldLink "ContainerHostModel" (51 : Nat) "ContainerHostModel" "permitted" "[I" ∈ lw_tbl := mt (i := 989) (by decide +kernel)
theorem w990 : Cond.fieldLink "ContainerHostModel" (54 : Nat) "ContainerHostModel" "effective" "[I" ∈ lw_tbl := mt (i := 990) (by decide +kernel)
theorem w991 : Cond.fieldLink "ContainerHostModel" (57 : Nat) "ContainerHostModel" "listens" "[I" ∈ lw_tbl := mt (i := 991) (by decide +kernel)
theorem w992 : Cond.fieldLink "ContainerHostModel" (60 : Nat) "ContainerHostModel" "states" "[I" ∈ lw_tbl := mt (i := 992) (by decide +kernel)
theorem w993 : Cond.fieldLink "ContainerHostModel" (63 : Nat) "ContainerHostModel" "groupOf" "[I" ∈ lw_tbl := mt (i := 993) (by decide +kernel)
theorem w994 : Cond.fieldLink "ContainerHostModel" (66 : Nat) "ContainerHostModel" "addresses" "[I" ∈ lw_tbl := mt (i := 994) (by decide +kernel)
theorem w995 : Cond.fieldLink "ContainerHostModel" (69 : Nat) "ContainerHostModel" "times" "[I" ∈ lw_tbl := mt (i := 995) (by decide +kernel)
theorem w996 : Cond.fieldLink "ContainerHostModel" (198 : Nat) "ContainerHostModel" "checkpoints" "I" ∈ lw_tbl := mt (i := 996) (by decide +kernel)
theorem w997 : Cond.fieldLink "ContainerHostModel" (72 : Nat) "ContainerHostModel" "published" "[I" ∈ lw_tbl := mt (i := 997) (by decide +kernel)
theorem w998 : Cond.fieldLink "ContainerHostModel" (75 : Nat) "ContainerHostModel" "publishedPort" "[I" ∈ lw_tbl := mt (i := 998) (by decide +kernel)
theorem w999 : Cond.fieldLink "ContainerHostModel" (78 : Nat) "ContainerHostModel" "gets" "[I" ∈ lw_tbl := mt (i := 999) (by decide +kernel)
theorem w1000 : Cond.fieldLink "ContainerHostModel" (81 : Nat) "ContainerHostModel" "remainders" "[I" ∈ lw_tbl := mt (i := 1000) (by decide +kernel)
theorem w1060 : Cond.instanceMethod ({ cls := "ContainerHostModel", name := "thrown", desc := "()I" } : MethodName) ∈ lw_tbl := mt (i := 1060) (by decide +kernel)
theorem w1061 : Cond.selects "ContainerHostModel" ({ cls := "ContainerHostModel", name := "thrown", desc := "()I" } : MethodName) ({ cls := "ContainerHostModel", name := "thrown", desc := "()I" } : MethodName) ∈ lw_tbl := mt (i := 1061) (by decide +kernel)
theorem w1064 : Cond.instanceMethod ({ cls := "ContainerHostModel", name := "newImage", desc := "(I)I" } : MethodName) ∈ lw_tbl := mt (i := 1064) (by decide +kernel)
theorem w1065 : Cond.selects "ContainerHostModel" ({ cls := "ContainerHostModel", name := "newImage", desc := "(I)I" } : MethodName) ({ cls := "ContainerHostModel", name := "newImage", desc := "(I)I" } : MethodName) ∈ lw_tbl := mt (i := 1065) (by decide +kernel)
theorem w1067 : Cond.methodLink "ContainerHostModel" (101 : Nat) ({ cls := "ContainerHostModel", name := "isImage", desc := "(I)Z" } : MethodName) ∈ lw_tbl := mt (i := 1067) (by decide +kernel)
theorem w1069 : Cond.instanceMethod ({ cls := "ContainerHostModel", name := "isImage", desc := "(I)Z" } : MethodName) ∈ lw_tbl := mt (i := 1069) (by decide +kernel)
theorem w1071 : Cond.methodLink "ContainerHostModel" (90 : Nat) ({ cls := "ContainerHostModel", name := "isIn", desc := "(II)Z" } : MethodName) ∈ lw_tbl := mt (i := 1071) (by decide +kernel)
theorem w1072 : Cond.static ({ cls := "ContainerHostModel", name := "isIn", desc := "(II)Z" } : MethodName) ∈ lw_tbl := mt (i := 1072) (by decide +kernel)
theorem w1074 : Cond.methodLink "ContainerHostModel" (105 : Nat) ({ cls := "ContainerHostModel", name := "layersOf", desc := "(I)I" } : MethodName) ∈ lw_tbl := mt (i := 1074) (by decide +kernel)
theorem w1076 : Cond.instanceMethod ({ cls := "ContainerHostModel", name := "layersOf", desc := "(I)I" } : MethodName) ∈ lw_tbl := mt (i := 1076) (by decide +kernel)
theorem w1078 : Cond.methodLink "ContainerHostModel" (109 : Nat) ({ cls := "ContainerHostModel", name := "holds", desc := "(I)Z" } : MethodName) ∈ lw_tbl := mt (i := 1078) (by decide +kernel)
theorem w1080 : Cond.instanceMethod ({ cls := "ContainerHostModel", name := "holds", desc := "(I)Z" } : MethodName) ∈ lw_tbl := mt (i := 1080) (by decide +kernel)
theorem w1082 : Cond.methodLink "ContainerHostModel" (112 : Nat) ({ cls := "ContainerHostModel", name := "empties", desc := "(I)V" } : MethodName) ∈ lw_tbl := mt (i := 1082) (by decide +kernel)
theorem w1084 : Cond.instanceMethod ({ cls := "ContainerHostModel", name := "empties", desc := "(I)V" } : MethodName) ∈ lw_tbl := mt (i := 1084) (by decide +kernel)
theorem w1087 : Cond.instanceMethod ({ cls := "ContainerHostModel", name := "write", desc := "(III)I" } : MethodName) ∈ lw_tbl := mt (i := 1087) (by decide +kernel)
theorem w1088 : Cond.selects "ContainerHostModel" ({ cls := "ContainerHostModel", name := "write", desc := "(III)I" } : MethodName) ({ cls := "ContainerHostModel", name := "write", desc := "(III)I" } : MethodName) ∈ lw_tbl := mt (i := 1088) (by decide +kernel)
theorem w1090 : Cond.methodLink "ContainerHostModel" (116 : Nat) ({ cls := "ContainerHostModel", name := "isContent", desc := "(I)Z" } : MethodName) ∈ lw_tbl := mt (i := 1090) (by decide +kernel)
theorem w1091 : Cond.static ({ cls := "ContainerHostModel", name := "isContent", desc := "(I)Z" } : MethodName) ∈ lw_tbl := mt (i := 1091) (by decide +kernel)
theorem w1093 : Cond.methodLink "ContainerHostModel" (119 : Nat) ({ cls := "ContainerHostModel", name := "imageShows", desc := "(II)I" } : MethodName) ∈ lw_tbl := mt (i := 1093) (by decide +kernel)
theorem w1095 : Cond.instanceMethod ({ cls := "ContainerHostModel", name := "imageShows", desc := "(II)I" } : MethodName) ∈ lw_tbl := mt (i := 1095) (by decide +kernel)
theorem w1097 : Cond.methodLink "ContainerHostModel" (97 : Nat) ({ cls := "ContainerHostModel", name := "shows", desc := "(III)I" } : MethodName) ∈ lw_tbl := mt (i := 1097) (by decide +kernel)
theorem w1099 : Cond.instanceMethod ({ cls := "ContainerHostModel", name := "shows", desc := "(III)I" } : MethodName) ∈ lw_tbl := mt (i := 1099) (by decide +kernel)
theorem w1102 : Cond.instanceMethod ({ cls := "ContainerHostModel", name := "remove", desc := "(II)I" } : MethodName) ∈ lw_tbl := mt (i := 1102) (by decide +kernel)
theorem w1103 : Cond.selects "ContainerHostModel" ({ cls := "ContainerHostModel", name := "remove", desc := "(II)I" } : MethodName) ({ cls := "ContainerHostModel", name := "remove", desc := "(II)I" } : MethodName) ∈ lw_tbl := mt (i := 1103) (by decide +kernel)
theorem w1106 : Cond.instanceMethod ({ cls := "ContainerHostModel", name := "clear", desc := "(II)I" } : MethodName) ∈ lw_tbl := mt (i := 1106) (by decide +kernel)
theorem w1107 : Cond.selects "ContainerHostModel" ({ cls := "ContainerHostModel", name := "clear", desc := "(II)I" } : MethodName) ({ cls := "ContainerHostModel", name := "clear", desc := "(II)I" } : MethodName) ∈ lw_tbl := mt (i := 1107) (by decide +kernel)
theorem w1110 : Cond.instanceMethod ({ cls := "ContainerHostModel", name := "seal", desc := "(I)I" } : MethodName) ∈ lw_tbl := mt (i := 1110) (by decide +kernel)
theorem w1111 : Cond.selects "ContainerHostModel" ({ cls := "ContainerHostModel", name := "seal", desc := "(I)I" } : MethodName) ({ cls := "ContainerHostModel", name := "seal", desc := "(I)I" } : MethodName) ∈ lw_tbl := mt (i := 1111) (by decide +kernel)
theorem w1114 : Cond.instanceMethod ({ cls := "ContainerHostModel", name := "shown", desc := "(II)I" } : MethodName) ∈ lw_tbl := mt (i := 1114) (by decide +kernel)
theorem w1115 : Cond.selects "ContainerHostModel" ({ cls := "ContainerHostModel", name := "shown", desc := "(II)I" } : MethodName) ({ cls := "ContainerHostModel", name := "shown", desc := "(II)I" } : MethodName) ∈ lw_tbl := mt (i := 1115) (by decide +kernel)
theorem w1118 : Cond.instanceMethod ({ cls := "ContainerHostModel", name := "entries", desc := "(II)I" } : MethodName) ∈ lw_tbl := mt (i := 1118) (by decide +kernel)
theorem w1119 : Cond.selects "ContainerHostModel" ({ cls := "ContainerHostModel", name := "entries", desc := "(II)I" } : MethodName) ({ cls := "ContainerHostModel", name := "entries", desc := "(II)I" } : MethodName) ∈ lw_tbl := mt (i := 1119) (by decide +kernel)
theorem w1122 : Cond.instanceMethod ({ cls := "ContainerHostModel", name := "commit", desc := "(I)I" } : MethodName) ∈ lw_tbl := mt (i := 1122) (by decide +kernel)
theorem w1123 : Cond.selects "ContainerHostModel" ({ cls := "ContainerHostModel", name := "commit", desc := "(I)I" } : MethodName) ({ cls := "ContainerHostModel", name := "commit", desc := "(I)I" } : MethodName) ∈ lw_tbl := mt (i := 1123) (by decide +kernel)
theorem w1125 : Cond.methodLink "ContainerHostModel" (123 : Nat) ({ cls := "ContainerHostModel", name := "isContainer", desc := "(I)Z" } : MethodName) ∈ lw_tbl := mt (i := 1125) (by decide +kernel)
theorem w1127 : Cond.instanceMethod ({ cls := "ContainerHostModel", name := "isContainer", desc := "(I)Z" } : MethodName) ∈ lw_tbl := mt (i := 1127) (by decide +kernel)
theorem w1129 : Cond.methodLink "ContainerHostModel" (126 : Nat) ({ cls := "ContainerHostModel", name := "copies", desc := "(II)V" } : MethodName) ∈ lw_tbl := mt (i := 1129) (by decide +kernel)
theorem w1131 : Cond.instanceMethod ({ cls := "ContainerHostModel", name := "copies", desc := "(II)V" } : MethodName) ∈ lw_tbl := mt (i := 1131) (by decide +kernel)
theorem w1134 : Cond.instanceMethod ({ cls := "ContainerHostModel", name := "newGroup", desc := "(IIII)I" } : MethodName) ∈ lw_tbl := mt (i := 1134) (by decide +kernel)
theorem w1135 : Cond.selects "ContainerHostModel" ({ cls := "ContainerHostModel", name := "newGroup", desc := "(IIII)I" } : MethodName) ({ cls := "ContainerHostModel", name := "newGroup", desc := "(IIII)I" } : MethodName) ∈ lw_tbl := mt (i := 1135) (by decide +kernel)
theorem w1137 : Cond.methodLink "ContainerHostModel" (133 : Nat) ({ cls := "ContainerHostModel", name := "isGroup", desc := "(I)Z" } : MethodName) ∈ lw_tbl := mt (i := 1137) (by decide +kernel)
theorem w1139 : Cond.instanceMethod ({ cls := "ContainerHostModel", name := "isGroup", desc := "(I)Z" } : MethodName) ∈ lw_tbl := mt (i := 1139) (by decide +kernel)
theorem w1142 : Cond.instanceMethod ({ cls := "ContainerHostModel", name := "groupMemory", desc := "(I)I" } : MethodName) ∈ lw_tbl := mt (i := 1142) (by decide +kernel)
theorem w1143 : Cond.selects "ContainerHostModel" ({ cls := "ContainerHostModel", name := "groupMemory", desc := "(I)I" } : MethodName) ({ cls := "ContainerHostModel", name := "groupMemory", desc := "(I)I" } : MethodName) ∈ lw_tbl := mt (i := 1143) (by decide +kernel)
theorem w1145 : Cond.methodLink "ContainerHostModel" (136 : Nat) ({ cls := "ContainerHostModel", name := "memoryIn", desc := "(I)I" } : MethodName) ∈ lw_tbl := mt (i := 1145) (by decide +kernel)
theorem w1147 : Cond.instanceMethod ({ cls := "ContainerHostModel", name := "memoryIn", desc := "(I)I" } : MethodName) ∈ lw_tbl := mt (i := 1147) (by decide +kernel)
theorem w1149 : Cond.methodLink "ContainerHostModel" (130 : Nat) ({ cls := "ContainerHostModel", name := "isBelow", desc := "(II)Z" } : MethodName) ∈ lw_tbl := mt (i := 1149) (by decide +kernel)
theorem w1151 : Cond.instanceMethod ({ cls := "ContainerHostModel", name := "isBelow", desc := "(II)Z" } : MethodName) ∈ lw_tbl := mt (i := 1151) (by decide +kernel)
theorem w1154 : Cond.instanceMethod ({ cls := "ContainerHostModel", name := "groupProcesses", desc := "(I)I" } : MethodName) ∈ lw_tbl := mt (i := 1154) (by decide +kernel)
theorem w1155 : Cond.selects "ContainerHostModel" ({ cls := "ContainerHostModel", name := "groupProcesses", desc := "(I)I" } : MethodName) ({ cls := "ContainerHostModel", name := "groupProcesses", desc := "(I)I" } : MethodName) ∈ lw_tbl := mt (i := 1155) (by decide +kernel)
theorem w1157 : Cond.methodLink "ContainerHostModel" (139 : Nat) ({ cls := "ContainerHostModel", name := "processesIn", desc := "(I)I" } : MethodName) ∈ lw_tbl := mt (i := 1157) (by decide +kernel)
theorem w1159 : Cond.instanceMethod ({ cls := "ContainerHostModel", name := "processesIn", desc := "(I)I" } : MethodName) ∈ lw_tbl := mt (i := 1159) (by decide +kernel)
theorem w1162 : Cond.instanceMethod ({ cls := "ContainerHostModel", name := "run", desc := "(IIII)I" } : MethodName) ∈ lw_tbl := mt (i := 1162) (by decide +kernel)
theorem w1163 : Cond.selects "ContainerHostModel" ({ cls := "ContainerHostModel", name := "run", desc := "(IIII)I" } : MethodName) ({ cls := "ContainerHostModel", name := "run", desc := "(IIII)I" } : MethodName) ∈ lw_tbl := mt (i := 1163) (by decide +kernel)
theorem w1165 : Cond.methodLink "ContainerHostModel" (142 : Nat) ({ cls := "ContainerHostModel", name := "tooMuch", desc := "(III)I" } : MethodName) ∈ lw_tbl := mt (i := 1165) (by decide +kernel)
theorem w1167 : Cond.instanceMethod ({ cls := "ContainerHostModel", name := "tooMuch", desc := "(III)I" } : MethodName) ∈ lw_tbl := mt (i := 1167) (by decide +kernel)
theorem w1169 : Cond.methodLink "ContainerHostModel" (145 : Nat) ({ cls := "ContainerHostModel", name := "begins", desc := "(IIII)V" } : MethodName) ∈ lw_tbl := mt (i := 1169) (by decide +kernel)
theorem w1171 : Cond.instanceMethod ({ cls := "ContainerHostModel", name := "begins", desc := "(IIII)V" } : MethodName) ∈ lw_tbl := mt (i := 1171) (by decide +kernel)
theorem w1174 : Cond.instanceMethod ({ cls := "ContainerHostModel", name := "pause", desc := "(I)V" } : MethodName) ∈ lw_tbl := mt (i := 1174) (by decide +kernel)
theorem w1175 : Cond.selects "ContainerHostModel" ({ cls := "ContainerHostModel", name := "pause", desc := "(I)V" } : MethodName) ({ cls := "ContainerHostModel", name := "pause", desc := "(I)V" } : MethodName) ∈ lw_tbl := mt (i := 1175) (by decide +kernel)
theorem w1177 : Cond.methodLink "ContainerHostModel" (149 : Nat) ({ cls := "ContainerHostModel", name := "isThere", desc := "(II)Z" } : MethodName) ∈ lw_tbl := mt (i := 1177) (by decide +kernel)
theorem w1179 : Cond.instanceMethod ({ cls := "ContainerHostModel", name := "isThere", desc := "(II)Z" } : MethodName) ∈ lw_tbl := mt (i := 1179) (by decide +kernel)
theorem w1182 : Cond.instanceMethod ({ cls := "ContainerHostModel", name := "resume", desc := "(I)V" } : MethodName) ∈ lw_tbl := mt (i := 1182) (by decide +kernel)
theorem w1183 : Cond.selects "ContainerHostModel" ({ cls := "ContainerHostModel", name := "resume", desc := "(I)V" } : MethodName) ({ cls := "ContainerHostModel", name := "resume", desc := "(I)V" } : MethodName) ∈ lw_tbl := mt (i := 1183) (by decide +kernel)
theorem w1186 : Cond.instanceMethod ({ cls := "ContainerHostModel", name := "stop", desc := "(I)I" } : MethodName) ∈ lw_tbl := mt (i := 1186) (by decide +kernel)
theorem w1187 : Cond.selects "ContainerHostModel" ({ cls := "ContainerHostModel", name := "stop", desc := "(I)I" } : MethodName) ({ cls := "ContainerHostModel", name := "stop", desc := "(I)I" } : MethodName) ∈ lw_tbl := mt (i := 1187) (by decide +kernel)
theorem w1189 : Cond.methodLink "ContainerHostModel" (152 : Nat) ({ cls := "ContainerHostModel", name := "stops", desc := "(I)I" } : MethodName) ∈ lw_tbl := mt (i := 1189) (by decide +kernel)
theorem w1191 : Cond.instanceMethod ({ cls := "ContainerHostModel", name := "stops", desc := "(I)I" } : MethodName) ∈ lw_tbl := mt (i := 1191) (by decide +kernel)
theorem w1194 : Cond.instanceMethod ({ cls := "ContainerHostModel", name := "allocate", desc := "(II)I" } : MethodName) ∈ lw_tbl := mt (i := 1194) (by decide +kernel)
theorem w1195 : Cond.selects "ContainerHostModel" ({ cls := "ContainerHostModel", name := "allocate", desc := "(II)I" } : MethodName) ({ cls := "ContainerHostModel", name := "allocate", desc := "(II)I" } : MethodName) ∈ lw_tbl := mt (i := 1195) (by decide +kernel)
theorem w1197 : Cond.methodLink "ContainerHostModel" (155 : Nat) ({ cls := "ContainerHostModel", name := "areUnits", desc := "(I)Z" } : MethodName) ∈ lw_tbl := mt (i := 1197) (by decide +kernel)
theorem w1198 : Cond.static ({ cls := "ContainerHostModel", name := "areUnits", desc := "(I)Z" } : MethodName) ∈ lw_tbl := mt (i := 1198) (by decide +kernel)
theorem w1200 : Cond.methodLink "ContainerHostModel" (158 : Nat) ({ cls := "ContainerHostModel", name := "greatest", desc := "(I)I" } : MethodName) ∈ lw_tbl := mt (i := 1200) (by decide +kernel)
theorem w1202 : Cond.instanceMethod ({ cls := "ContainerHostModel", name := "greatest", desc := "(I)I" } : MethodName) ∈ lw_tbl := mt (i := 1202) (by decide +kernel)
theorem w1205 : Cond.instanceMethod ({ cls := "ContainerHostModel", name := "free", desc := "(II)I" } : MethodName) ∈ lw_tbl := mt (i := 1205) (by decide +kernel)
theorem w1206 : Cond.selects "ContainerHostModel" ({ cls := "ContainerHostModel", name := "free", desc := "(II)I" } : MethodName) ({ cls := "ContainerHostModel", name := "free", desc := "(II)I" } : MethodName) ∈ lw_tbl := mt (i := 1206) (by decide +kernel)
theorem w1209 : Cond.instanceMethod ({ cls := "ContainerHostModel", name := "fork", desc := "(I)I" } : MethodName) ∈ lw_tbl := mt (i := 1209) (by decide +kernel)
theorem w1210 : Cond.selects "ContainerHostModel" ({ cls := "ContainerHostModel", name := "fork", desc := "(I)I" } : MethodName) ({ cls := "ContainerHostModel", name := "fork", desc := "(I)I" } : MethodName) ∈ lw_tbl := mt (i := 1210) (by decide +kernel)
theorem w1213 : Cond.instanceMethod ({ cls := "ContainerHostModel", name := "exit", desc := "(I)I" } : MethodName) ∈ lw_tbl := mt (i := 1213) (by decide +kernel)
theorem w1214 : Cond.selects "ContainerHostModel" ({ cls := "ContainerHostModel", name := "exit", desc := "(I)I" } : MethodName) ({ cls := "ContainerHostModel", name := "exit", desc := "(I)I" } : MethodName) ∈ lw_tbl := mt (i := 1214) (by decide +kernel)
theorem w1217 : Cond.instanceMethod ({ cls := "ContainerHostModel", name := "schedule", desc := "(I)I" } : MethodName) ∈ lw_tbl := mt (i := 1217) (by decide +kernel)
theorem w1218 : Cond.selects "ContainerHostModel" ({ cls := "ContainerHostModel", name := "schedule", desc := "(I)I" } : MethodName) ({ cls := "ContainerHostModel", name := "schedule", desc := "(I)I" } : MethodName) ∈ lw_tbl := mt (i := 1218) (by decide +kernel)
theorem w1220 : Cond.methodLink "ContainerHostModel" (170 : Nat) ({ cls := "ContainerHostModel", name := "sharesOut", desc := "(I)I" } : MethodName) ∈ lw_tbl := mt (i := 1220) (by decide +kernel)
theorem w1222 : Cond.instanceMethod ({ cls := "ContainerHostModel", name := "sharesOut", desc := "(I)I" } : MethodName) ∈ lw_tbl := mt (i := 1222) (by decide +kernel)
theorem w1224 : Cond.methodLink "ContainerHostModel" (161 : Nat) ({ cls := "ContainerHostModel", name := "isPart", desc := "(II)Z" } : MethodName) ∈ lw_tbl := mt (i := 1224) (by decide +kernel)
theorem w1226 : Cond.instanceMethod ({ cls := "ContainerHostModel", name := "isPart", desc := "(II)Z" } : MethodName) ∈ lw_tbl := mt (i := 1226) (by decide +kernel)
theorem w1228 : Cond.methodLink "ContainerHostModel" (164 : Nat) ({ cls := "ContainerHostModel", name := "sharesOfPart", desc := "(I)I" } : MethodName) ∈ lw_tbl := mt (i := 1228) (by decide +kernel)
theorem w1230 : Cond.instanceMethod ({ cls := "ContainerHostModel", name := "sharesOfPart", desc := "(I)I" } : MethodName) ∈ lw_tbl := mt (i := 1230) (by decide +kernel)
theorem w1232 : Cond.methodLink "ContainerHostModel" (167 : Nat) ({ cls := "ContainerHostModel", name := "gives", desc := "(II)V" } : MethodName) ∈ lw_tbl := mt (i := 1232) (by decide +kernel)
theorem w1234 : Cond.instanceMethod ({ cls := "ContainerHostModel", name := "gives", desc := "(II)V" } : MethodName) ∈ lw_tbl := mt (i := 1234) (by decide +kernel)
theorem w1237 : Cond.instanceMethod ({ cls := "ContainerHostModel", name := "writeFile", desc := "(III)I" } : MethodName) ∈ lw_tbl := mt (i := 1237) (by decide +kernel)
theorem w1238 : Cond.selects "ContainerHostModel" ({ cls := "ContainerHostModel", name := "writeFile", desc := "(III)I" } : MethodName) ({ cls := "ContainerHostModel", name := "writeFile", desc := "(III)I" } : MethodName) ∈ lw_tbl := mt (i := 1238) (by decide +kernel)
theorem w1240 : Cond.methodLink "ContainerHostModel" (176 : Nat) ({ cls := "ContainerHostModel", name := "mayChange", desc := "(II)Z" } : MethodName) ∈ lw_tbl := mt (i := 1240) (by decide +kernel)
theorem w1242 : Cond.instanceMethod ({ cls := "ContainerHostModel", name := "mayChange", desc := "(II)Z" } : MethodName) ∈ lw_tbl := mt (i := 1242) (by decide +kernel)
theorem w1244 : Cond.methodLink "ContainerHostModel" (173 : Nat) ({ cls := "ContainerHostModel", name := "isEffective", desc := "(II)Z" } : MethodName) ∈ lw_tbl := mt (i := 1244) (by decide +kernel)
theorem w1246 : Cond.instanceMethod ({ cls := "ContainerHostModel", name := "isEffective", desc := "(II)Z" } : MethodName) ∈ lw_tbl := mt (i := 1246) (by decide +kernel)
theorem w1248 : Cond.methodLink "ContainerHostModel" (179 : Nat) ({ cls := "ContainerHostModel", name := "containerSees", desc := "(II)I" } : MethodName) ∈ lw_tbl := mt (i := 1248) (by decide +kernel)
theorem w1250 : Cond.instanceMethod ({ cls := "ContainerHostModel", name := "containerSees", desc := "(II)I" } : MethodName) ∈ lw_tbl := mt (i := 1250) (by decide +kernel)
theorem w1253 : Cond.instanceMethod ({ cls := "ContainerHostModel", name := "removeFile", desc := "(II)I" } : MethodName) ∈ lw_tbl := mt (i := 1253) (by decide +kernel)
theorem w1254 : Cond.selects "ContainerHostModel" ({ cls := "ContainerHostModel", name := "removeFile", desc := "(II)I" } : MethodName) ({ cls := "ContainerHostModel", name := "removeFile", desc := "(II)I" } : MethodName) ∈ lw_tbl := mt (i := 1254) (by decide +kernel)
theorem w1257 : Cond.instanceMethod ({ cls := "ContainerHostModel", name := "fileOf", desc := "(II)I" } : MethodName) ∈ lw_tbl := mt (i := 1257) (by decide +kernel)
theorem w1258 : Cond.selects "ContainerHostModel" ({ cls := "ContainerHostModel", name := "fileOf", desc := "(II)I" } : MethodName) ({ cls := "ContainerHostModel", name := "fileOf", desc := "(II)I" } : MethodName) ∈ lw_tbl := mt (i := 1258) (by decide +kernel)
theorem w1261 : Cond.instanceMethod ({ cls := "ContainerHostModel", name := "plainFileOf", desc := "(II)I" } : MethodName) ∈ lw_tbl := mt (i := 1261) (by decide +kernel)
theorem w1262 : Cond.selects "ContainerHostModel" ({ cls := "ContainerHostModel", name := "plainFileOf", desc := "(II)I" } : MethodName) ({ cls := "ContainerHostModel", name := "plainFileOf", desc := "(II)I" } : MethodName) ∈ lw_tbl := mt (i := 1262) (by decide +kernel)
theorem w1264 : Cond.methodLink "ContainerHostModel" (182 : Nat) ({ cls := "ContainerHostModel", name := "layerAt", desc := "(II)I" } : MethodName) ∈ lw_tbl := mt (i := 1264) (by decide +kernel)
theorem w1266 : Cond.instanceMethod ({ cls := "ContainerHostModel", name := "layerAt", desc := "(II)I" } : MethodName) ∈ lw_tbl := mt (i := 1266) (by decide +kernel)
theorem w1269 : Cond.instanceMethod ({ cls := "ContainerHostModel", name := "raise", desc := "(II)I" } : MethodName) ∈ lw_tbl := mt (i := 1269) (by decide +kernel)
theorem w1270 : Cond.selects "ContainerHostModel" ({ cls := "ContainerHostModel", name := "raise", desc := "(II)I" } : MethodName) ({ cls := "ContainerHostModel", name := "raise", desc := "(II)I" } : MethodName) ∈ lw_tbl := mt (i := 1270) (by decide +kernel)
theorem w1272 : Cond.methodLink "ContainerHostModel" (185 : Nat) ({ cls := "ContainerHostModel", name := "isCapability", desc := "(IIZ)Z" } : MethodName) ∈ lw_tbl := mt (i := 1272) (by decide +kernel)
theorem w1274 : Cond.instanceMethod ({ cls := "ContainerHostModel", name := "isCapability", desc := "(IIZ)Z" } : MethodName) ∈ lw_tbl := mt (i := 1274) (by decide +kernel)
theorem w1277 : Cond.instanceMethod ({ cls := "ContainerHostModel", name := "lower", desc := "(II)I" } : MethodName) ∈ lw_tbl := mt (i := 1277) (by decide +kernel)
theorem w1278 : Cond.selects "ContainerHostModel" ({ cls := "ContainerHostModel", name := "lower", desc := "(II)I" } : MethodName) ({ cls := "ContainerHostModel", name := "lower", desc := "(II)I" } : MethodName) ∈ lw_tbl := mt (i := 1278) (by decide +kernel)
theorem w1281 : Cond.instanceMethod ({ cls := "ContainerHostModel", name := "drop", desc := "(II)I" } : MethodName) ∈ lw_tbl := mt (i := 1281) (by decide +kernel)
theorem w1282 : Cond.selects "ContainerHostModel" ({ cls := "ContainerHostModel", name := "drop", desc := "(II)I" } : MethodName) ({ cls := "ContainerHostModel", name := "drop", desc := "(II)I" } : MethodName) ∈ lw_tbl := mt (i := 1282) (by decide +kernel)
theorem w1285 : Cond.instanceMethod ({ cls := "ContainerHostModel", name := "kill", desc := "(II)I" } : MethodName) ∈ lw_tbl := mt (i := 1285) (by decide +kernel)
theorem w1286 : Cond.selects "ContainerHostModel" ({ cls := "ContainerHostModel", name := "kill", desc := "(II)I" } : MethodName) ({ cls := "ContainerHostModel", name := "kill", desc := "(II)I" } : MethodName) ∈ lw_tbl := mt (i := 1286) (by decide +kernel)
theorem w1289 : Cond.instanceMethod ({ cls := "ContainerHostModel", name := "attach", desc := "(II)I" } : MethodName) ∈ lw_tbl := mt (i := 1289) (by decide +kernel)
theorem w1290 : Cond.selects "ContainerHostModel" ({ cls := "ContainerHostModel", name := "attach", desc := "(II)I" } : MethodName) ({ cls := "ContainerHostModel", name := "attach", desc := "(II)I" } : MethodName) ∈ lw_tbl := mt (i := 1290) (by decide +kernel)
theorem w1292 : Cond.methodLink "ContainerHostModel" (192 : Nat) ({ cls := "ContainerHostModel", name := "freeAddress", desc := "(I)I" } : MethodName) ∈ lw_tbl := mt (i := 1292) (by decide +kernel)
theorem w1294 : Cond.instanceMethod ({ cls := "ContainerHostModel", name := "freeAddress", desc := "(I)I" } : MethodName) ∈ lw_tbl := mt (i := 1294) (by decide +kernel)
theorem w1296 : Cond.methodLink "ContainerHostModel" (189 : Nat) ({ cls := "ContainerHostModel", name := "atAddress", desc := "(II)I" } : MethodName) ∈ lw_tbl := mt (i := 1296) (by decide +kernel)
theorem w1298 : Cond.instanceMethod ({ cls := "ContainerHostModel", name := "atAddress", desc := "(II)I" } : MethodName) ∈ lw_tbl := mt (i := 1298) (by decide +kernel)
theorem w1301 : Cond.instanceMethod ({ cls := "ContainerHostModel", name := "detach", desc := "(I)I" } : MethodName) ∈ lw_tbl := mt (i := 1301) (by decide +kernel)
theorem w1302 : Cond.selects "ContainerHostModel" ({ cls := "ContainerHostModel", name := "detach", desc := "(I)I" } : MethodName) ({ cls := "ContainerHostModel", name := "detach", desc := "(I)I" } : MethodName) ∈ lw_tbl := mt (i := 1302) (by decide +kernel)
theorem w1305 : Cond.instanceMethod ({ cls := "ContainerHostModel", name := "listen", desc := "(II)I" } : MethodName) ∈ lw_tbl := mt (i := 1305) (by decide +kernel)
theorem w1306 : Cond.selects "ContainerHostModel" ({ cls := "ContainerHostModel", name := "listen", desc := "(II)I" } : MethodName) ({ cls := "ContainerHostModel", name := "listen", desc := "(II)I" } : MethodName) ∈ lw_tbl := mt (i := 1306) (by decide +kernel)
theorem w1308 : Cond.methodLink "ContainerHostModel" (195 : Nat) ({ cls := "ContainerHostModel", name := "isListening", desc := "(II)Z" } : MethodName) ∈ lw_tbl := mt (i := 1308) (by decide +kernel)
theorem w1310 : Cond.instanceMethod ({ cls := "ContainerHostModel", name := "isListening", desc := "(II)Z" } : MethodName) ∈ lw_tbl := mt (i := 1310) (by decide +kernel)
theorem w1313 : Cond.instanceMethod ({ cls := "ContainerHostModel", name := "publish", desc := "(III)I" } : MethodName) ∈ lw_tbl := mt (i := 1313) (by decide +kernel)
theorem w1314 : Cond.selects "ContainerHostModel" ({ cls := "ContainerHostModel", name := "publish", desc := "(III)I" } : MethodName) ({ cls := "ContainerHostModel", name := "publish", desc := "(III)I" } : MethodName) ∈ lw_tbl := mt (i := 1314) (by decide +kernel)
theorem w1317 : Cond.instanceMethod ({ cls := "ContainerHostModel", name := "connect", desc := "(III)I" } : MethodName) ∈ lw_tbl := mt (i := 1317) (by decide +kernel)
theorem w1318 : Cond.selects "ContainerHostModel" ({ cls := "ContainerHostModel", name := "connect", desc := "(III)I" } : MethodName) ({ cls := "ContainerHostModel", name := "connect", desc := "(III)I" } : MethodName) ∈ lw_tbl := mt (i := 1318) (by decide +kernel)
theorem w1321 : Cond.instanceMethod ({ cls := "ContainerHostModel", name := "connectHost", desc := "(I)I" } : MethodName) ∈ lw_tbl := mt (i := 1321) (by decide +kernel)
theorem w1322 : Cond.selects "ContainerHostModel" ({ cls := "ContainerHostModel", name := "connectHost", desc := "(I)I" } : MethodName) ({ cls := "ContainerHostModel", name := "connectHost", desc := "(I)I" } : MethodName) ∈ lw_tbl := mt (i := 1322) (by decide +kernel)
theorem w1325 : Cond.instanceMethod ({ cls := "ContainerHostModel", name := "save", desc := "(I)I" } : MethodName) ∈ lw_tbl := mt (i := 1325) (by decide +kernel)
theorem w1326 : Cond.selects "ContainerHostModel" ({ cls := "ContainerHostModel", name := "save", desc := "(I)I" } : MethodName) ({ cls := "ContainerHostModel", name := "save", desc := "(I)I" } : MethodName) ∈ lw_tbl := mt (i := 1326) (by decide +kernel)
theorem w1328 : Cond.methodLink "ContainerHostModel" (201 : Nat) ({ cls := "ContainerHostModel", name := "keeps", desc := "(II)V" } : MethodName) ∈ lw_tbl := mt (i := 1328) (by decide +kernel)
theorem w1330 : Cond.instanceMethod ({ cls := "ContainerHostModel", name := "keeps", desc := "(II)V" } : MethodName) ∈ lw_tbl := mt (i := 1330) (by decide +kernel)
theorem w1333 : Cond.instanceMethod ({ cls := "ContainerHostModel", name := "restore", desc := "(II)I" } : MethodName) ∈ lw_tbl := mt (i := 1333) (by decide +kernel)
theorem w1334 : Cond.selects "ContainerHostModel" ({ cls := "ContainerHostModel", name := "restore", desc := "(II)I" } : MethodName) ({ cls := "ContainerHostModel", name := "restore", desc := "(II)I" } : MethodName) ∈ lw_tbl := mt (i := 1334) (by decide +kernel)
theorem w1337 : Cond.instanceMethod ({ cls := "ContainerHostModel", name := "containers", desc := "()I" } : MethodName) ∈ lw_tbl := mt (i := 1337) (by decide +kernel)
theorem w1338 : Cond.selects "ContainerHostModel" ({ cls := "ContainerHostModel", name := "containers", desc := "()I" } : MethodName) ({ cls := "ContainerHostModel", name := "containers", desc := "()I" } : MethodName) ∈ lw_tbl := mt (i := 1338) (by decide +kernel)
theorem w1341 : Cond.instanceMethod ({ cls := "ContainerHostModel", name := "stateOf", desc := "(I)I" } : MethodName) ∈ lw_tbl := mt (i := 1341) (by decide +kernel)
theorem w1342 : Cond.selects "ContainerHostModel" ({ cls := "ContainerHostModel", name := "stateOf", desc := "(I)I" } : MethodName) ({ cls := "ContainerHostModel", name := "stateOf", desc := "(I)I" } : MethodName) ∈ lw_tbl := mt (i := 1342) (by decide +kernel)
theorem w1344 : Cond.methodLink "ContainerHostModel" (204 : Nat) ({ cls := "ContainerHostModel", name := "isAsked", desc := "(I)Z" } : MethodName) ∈ lw_tbl := mt (i := 1344) (by decide +kernel)
theorem w1346 : Cond.instanceMethod ({ cls := "ContainerHostModel", name := "isAsked", desc := "(I)Z" } : MethodName) ∈ lw_tbl := mt (i := 1346) (by decide +kernel)
theorem w1349 : Cond.instanceMethod ({ cls := "ContainerHostModel", name := "memoryOf", desc := "(I)I" } : MethodName) ∈ lw_tbl := mt (i := 1349) (by decide +kernel)
theorem w1350 : Cond.selects "ContainerHostModel" ({ cls := "ContainerHostModel", name := "memoryOf", desc := "(I)I" } : MethodName) ({ cls := "ContainerHostModel", name := "memoryOf", desc := "(I)I" } : MethodName) ∈ lw_tbl := mt (i := 1350) (by decide +kernel)
theorem w1353 : Cond.instanceMethod ({ cls := "ContainerHostModel", name := "timeOf", desc := "(I)I" } : MethodName) ∈ lw_tbl := mt (i := 1353) (by decide +kernel)
theorem w1354 : Cond.selects "ContainerHostModel" ({ cls := "ContainerHostModel", name := "timeOf", desc := "(I)I" } : MethodName) ({ cls := "ContainerHostModel", name := "timeOf", desc := "(I)I" } : MethodName) ∈ lw_tbl := mt (i := 1354) (by decide +kernel)
theorem w1357 : Cond.instanceMethod ({ cls := "ContainerHostModel", name := "capabilitiesOf", desc := "(I)I" } : MethodName) ∈ lw_tbl := mt (i := 1357) (by decide +kernel)
theorem w1358 : Cond.selects "ContainerHostModel" ({ cls := "ContainerHostModel", name := "capabilitiesOf", desc := "(I)I" } : MethodName) ({ cls := "ContainerHostModel", name := "capabilitiesOf", desc := "(I)I" } : MethodName) ∈ lw_tbl := mt (i := 1358) (by decide +kernel)
theorem w1361 : Cond.instanceMethod ({ cls := "ContainerHostModel", name := "addressOf", desc := "(I)I" } : MethodName) ∈ lw_tbl := mt (i := 1361) (by decide +kernel)
theorem w1362 : Cond.selects "ContainerHostModel" ({ cls := "ContainerHostModel", name := "addressOf", desc := "(I)I" } : MethodName) ({ cls := "ContainerHostModel", name := "addressOf", desc := "(I)I" } : MethodName) ∈ lw_tbl := mt (i := 1362) (by decide +kernel)
theorem s_m_init : Cond.instanceMethod y_m_init ∈ lw_tbl := w970
theorem s_m_thrown : Cond.instanceMethod y_m_thrown ∈ lw_tbl := w1060
theorem v_m_thrown : Cond.selects y_m_thrown.cls y_m_thrown y_m_thrown ∈ lw_tbl := w1061
theorem s_m_newImage : Cond.instanceMethod y_m_newImage ∈ lw_tbl := w1064
theorem v_m_newImage : Cond.selects y_m_newImage.cls y_m_newImage y_m_newImage ∈ lw_tbl := w1065
theorem s_m_isImage : Cond.instanceMethod y_m_isImage ∈ lw_tbl := w1069
theorem v_m_isImage : Cond.selects y_m_isImage.cls y_m_isImage y_m_isImage ∈ lw_tbl := ms (i := 24) (q := (y_m_isImage, 28)) (by decide +kernel)
theorem s_m_isIn : Cond.static y_m_isIn ∈ lw_tbl := w1072
theorem s_m_layersOf : Cond.instanceMethod y_m_layersOf ∈ lw_tbl := w1076
theorem v_m_layersOf : Cond.selects y_m_layersOf.cls y_m_layersOf y_m_layersOf ∈ lw_tbl := ms (i := 25) (q := (y_m_layersOf, 28)) (by decide +kernel)
theorem s_m_holds : Cond.instanceMethod y_m_holds ∈ lw_tbl := w1080
theorem v_m_holds : Cond.selects y_m_holds.cls y_m_holds y_m_holds ∈ lw_tbl := ms (i := 26) (q := (y_m_holds, 28)) (by decide +kernel)
theorem s_m_empties : Cond.instanceMethod y_m_empties ∈ lw_tbl := w1084
theorem v_m_empties : Cond.selects y_m_empties.cls y_m_empties y_m_empties ∈ lw_tbl := ms (i := 27) (q := (y_m_empties, 28)) (by decide +kernel)
theorem s_m_write : Cond.instanceMethod y_m_write ∈ lw_tbl := w1087
theorem v_m_write : Cond.selects y_m_write.cls y_m_write y_m_write ∈ lw_tbl := w1088
theorem s_m_isContent : Cond.static y_m_isContent ∈ lw_tbl := w1091
theorem s_m_imageShows : Cond.instanceMethod y_m_imageShows ∈ lw_tbl := w1095
theorem v_m_imageShows : Cond.selects y_m_imageShows.cls y_m_imageShows y_m_imageShows ∈ lw_tbl := ms (i := 28) (q := (y_m_imageShows, 28)) (by decide +kernel)
theorem s_m_shows : Cond.instanceMethod y_m_shows ∈ lw_tbl := w1099
theorem v_m_shows : Cond.selects y_m_shows.cls y_m_shows y_m_shows ∈ lw_tbl := ms (i := 29) (q := (y_m_shows, 28)) (by decide +kernel)
theorem s_m_remove : Cond.instanceMethod y_m_remove ∈ lw_tbl := w1102
theorem v_m_remove : Cond.selects y_m_remove.cls y_m_remove y_m_remove ∈ lw_tbl := w1103
theorem s_m_clear : Cond.instanceMethod y_m_clear ∈ lw_tbl := w1106
theorem v_m_clear : Cond.selects y_m_clear.cls y_m_clear y_m_clear ∈ lw_tbl := w1107
theorem s_m_seal : Cond.instanceMethod y_m_seal ∈ lw_tbl := w1110
theorem v_m_seal : Cond.selects y_m_seal.cls y_m_seal y_m_seal ∈ lw_tbl := w1111
theorem s_m_shown : Cond.instanceMethod y_m_shown ∈ lw_tbl := w1114
theorem v_m_shown : Cond.selects y_m_shown.cls y_m_shown y_m_shown ∈ lw_tbl := w1115
theorem s_m_entries : Cond.instanceMethod y_m_entries ∈ lw_tbl := w1118
theorem v_m_entries : Cond.selects y_m_entries.cls y_m_entries y_m_entries ∈ lw_tbl := w1119
theorem s_m_commit : Cond.instanceMethod y_m_commit ∈ lw_tbl := w1122
theorem v_m_commit : Cond.selects y_m_commit.cls y_m_commit y_m_commit ∈ lw_tbl := w1123
theorem s_m_isContainer : Cond.instanceMethod y_m_isContainer ∈ lw_tbl := w1127
theorem v_m_isContainer : Cond.selects y_m_isContainer.cls y_m_isContainer y_m_isContainer ∈ lw_tbl := ms (i := 30) (q := (y_m_isContainer, 28)) (by decide +kernel)
theorem s_m_copies : Cond.instanceMethod y_m_copies ∈ lw_tbl := w1131
theorem v_m_copies : Cond.selects y_m_copies.cls y_m_copies y_m_copies ∈ lw_tbl := ms (i := 31) (q := (y_m_copies, 28)) (by decide +kernel)
theorem s_m_newGroup : Cond.instanceMethod y_m_newGroup ∈ lw_tbl := w1134
theorem v_m_newGroup : Cond.selects y_m_newGroup.cls y_m_newGroup y_m_newGroup ∈ lw_tbl := w1135
theorem s_m_isGroup : Cond.instanceMethod y_m_isGroup ∈ lw_tbl := w1139
theorem v_m_isGroup : Cond.selects y_m_isGroup.cls y_m_isGroup y_m_isGroup ∈ lw_tbl := ms (i := 32) (q := (y_m_isGroup, 28)) (by decide +kernel)
theorem s_m_groupMemory : Cond.instanceMethod y_m_groupMemory ∈ lw_tbl := w1142
theorem v_m_groupMemory : Cond.selects y_m_groupMemory.cls y_m_groupMemory y_m_groupMemory ∈ lw_tbl := w1143
theorem s_m_memoryIn : Cond.instanceMethod y_m_memoryIn ∈ lw_tbl := w1147
theorem v_m_memoryIn : Cond.selects y_m_memoryIn.cls y_m_memoryIn y_m_memoryIn ∈ lw_tbl := ms (i := 33) (q := (y_m_memoryIn, 28)) (by decide +kernel)
theorem s_m_isBelow : Cond.instanceMethod y_m_isBelow ∈ lw_tbl := w1151
theorem v_m_isBelow : Cond.selects y_m_isBelow.cls y_m_isBelow y_m_isBelow ∈ lw_tbl := ms (i := 34) (q := (y_m_isBelow, 28)) (by decide +kernel)
theorem s_m_groupProcesses : Cond.instanceMethod y_m_groupProcesses ∈ lw_tbl := w1154
theorem v_m_groupProcesses : Cond.selects y_m_groupProcesses.cls y_m_groupProcesses y_m_groupProcesses ∈ lw_tbl := w1155
theorem s_m_processesIn : Cond.instanceMethod y_m_processesIn ∈ lw_tbl := w1159
theorem v_m_processesIn : Cond.selects y_m_processesIn.cls y_m_processesIn y_m_processesIn ∈ lw_tbl := ms (i := 35) (q := (y_m_processesIn, 28)) (by decide +kernel)
theorem s_m_run : Cond.instanceMethod y_m_run ∈ lw_tbl := w1162
theorem v_m_run : Cond.selects y_m_run.cls y_m_run y_m_run ∈ lw_tbl := w1163
theorem s_m_tooMuch : Cond.instanceMethod y_m_tooMuch ∈ lw_tbl := w1167
theorem v_m_tooMuch : Cond.selects y_m_tooMuch.cls y_m_tooMuch y_m_tooMuch ∈ lw_tbl := ms (i := 36) (q := (y_m_tooMuch, 28)) (by decide +kernel)
theorem s_m_begins : Cond.instanceMethod y_m_begins ∈ lw_tbl := w1171
theorem v_m_begins : Cond.selects y_m_begins.cls y_m_begins y_m_begins ∈ lw_tbl := ms (i := 37) (q := (y_m_begins, 28)) (by decide +kernel)
theorem s_m_pause : Cond.instanceMethod y_m_pause ∈ lw_tbl := w1174
theorem v_m_pause : Cond.selects y_m_pause.cls y_m_pause y_m_pause ∈ lw_tbl := w1175
theorem s_m_isThere : Cond.instanceMethod y_m_isThere ∈ lw_tbl := w1179
theorem v_m_isThere : Cond.selects y_m_isThere.cls y_m_isThere y_m_isThere ∈ lw_tbl := ms (i := 38) (q := (y_m_isThere, 28)) (by decide +kernel)
theorem s_m_resume : Cond.instanceMethod y_m_resume ∈ lw_tbl := w1182
theorem v_m_resume : Cond.selects y_m_resume.cls y_m_resume y_m_resume ∈ lw_tbl := w1183
theorem s_m_stop : Cond.instanceMethod y_m_stop ∈ lw_tbl := w1186
theorem v_m_stop : Cond.selects y_m_stop.cls y_m_stop y_m_stop ∈ lw_tbl := w1187
theorem s_m_stops : Cond.instanceMethod y_m_stops ∈ lw_tbl := w1191
theorem v_m_stops : Cond.selects y_m_stops.cls y_m_stops y_m_stops ∈ lw_tbl := ms (i := 39) (q := (y_m_stops, 28)) (by decide +kernel)
theorem s_m_allocate : Cond.instanceMethod y_m_allocate ∈ lw_tbl := w1194
theorem v_m_allocate : Cond.selects y_m_allocate.cls y_m_allocate y_m_allocate ∈ lw_tbl := w1195
theorem s_m_areUnits : Cond.static y_m_areUnits ∈ lw_tbl := w1198
theorem s_m_greatest : Cond.instanceMethod y_m_greatest ∈ lw_tbl := w1202
theorem v_m_greatest : Cond.selects y_m_greatest.cls y_m_greatest y_m_greatest ∈ lw_tbl := ms (i := 40) (q := (y_m_greatest, 28)) (by decide +kernel)
theorem s_m_free : Cond.instanceMethod y_m_free ∈ lw_tbl := w1205
theorem v_m_free : Cond.selects y_m_free.cls y_m_free y_m_free ∈ lw_tbl := w1206
theorem s_m_fork : Cond.instanceMethod y_m_fork ∈ lw_tbl := w1209
theorem v_m_fork : Cond.selects y_m_fork.cls y_m_fork y_m_fork ∈ lw_tbl := w1210
theorem s_m_exit : Cond.instanceMethod y_m_exit ∈ lw_tbl := w1213
theorem v_m_exit : Cond.selects y_m_exit.cls y_m_exit y_m_exit ∈ lw_tbl := w1214
theorem s_m_schedule : Cond.instanceMethod y_m_schedule ∈ lw_tbl := w1217
theorem v_m_schedule : Cond.selects y_m_schedule.cls y_m_schedule y_m_schedule ∈ lw_tbl := w1218
theorem s_m_sharesOut : Cond.instanceMethod y_m_sharesOut ∈ lw_tbl := w1222
theorem v_m_sharesOut : Cond.selects y_m_sharesOut.cls y_m_sharesOut y_m_sharesOut ∈ lw_tbl := ms (i := 41) (q := (y_m_sharesOut, 28)) (by decide +kernel)
theorem s_m_isPart : Cond.instanceMethod y_m_isPart ∈ lw_tbl := w1226
theorem v_m_isPart : Cond.selects y_m_isPart.cls y_m_isPart y_m_isPart ∈ lw_tbl := ms (i := 42) (q := (y_m_isPart, 28)) (by decide +kernel)
theorem s_m_sharesOfPart : Cond.instanceMethod y_m_sharesOfPart ∈ lw_tbl := w1230
theorem v_m_sharesOfPart : Cond.selects y_m_sharesOfPart.cls y_m_sharesOfPart y_m_sharesOfPart ∈ lw_tbl := ms (i := 43) (q := (y_m_sharesOfPart, 28)) (by decide +kernel)
theorem s_m_gives : Cond.instanceMethod y_m_gives ∈ lw_tbl := w1234
theorem v_m_gives : Cond.selects y_m_gives.cls y_m_gives y_m_gives ∈ lw_tbl := ms (i := 44) (q := (y_m_gives, 28)) (by decide +kernel)
theorem s_m_writeFile : Cond.instanceMethod y_m_writeFile ∈ lw_tbl := w1237
theorem v_m_writeFile : Cond.selects y_m_writeFile.cls y_m_writeFile y_m_writeFile ∈ lw_tbl := w1238
theorem s_m_mayChange : Cond.instanceMethod y_m_mayChange ∈ lw_tbl := w1242
theorem v_m_mayChange : Cond.selects y_m_mayChange.cls y_m_mayChange y_m_mayChange ∈ lw_tbl := ms (i := 45) (q := (y_m_mayChange, 28)) (by decide +kernel)
theorem s_m_isEffective : Cond.instanceMethod y_m_isEffective ∈ lw_tbl := w1246
theorem v_m_isEffective : Cond.selects y_m_isEffective.cls y_m_isEffective y_m_isEffective ∈ lw_tbl := ms (i := 46) (q := (y_m_isEffective, 28)) (by decide +kernel)
theorem s_m_containerSees : Cond.instanceMethod y_m_containerSees ∈ lw_tbl := w1250
theorem v_m_containerSees : Cond.selects y_m_containerSees.cls y_m_containerSees y_m_containerSees ∈ lw_tbl := ms (i := 47) (q := (y_m_containerSees, 28)) (by decide +kernel)
theorem s_m_removeFile : Cond.instanceMethod y_m_removeFile ∈ lw_tbl := w1253
theorem v_m_removeFile : Cond.selects y_m_removeFile.cls y_m_removeFile y_m_removeFile ∈ lw_tbl := w1254
theorem s_m_fileOf : Cond.instanceMethod y_m_fileOf ∈ lw_tbl := w1257
theorem v_m_fileOf : Cond.selects y_m_fileOf.cls y_m_fileOf y_m_fileOf ∈ lw_tbl := w1258
theorem s_m_plainFileOf : Cond.instanceMethod y_m_plainFileOf ∈ lw_tbl := w1261
theorem v_m_plainFileOf : Cond.selects y_m_plainFileOf.cls y_m_plainFileOf y_m_plainFileOf ∈ lw_tbl := w1262
theorem s_m_layerAt : Cond.instanceMethod y_m_layerAt ∈ lw_tbl := w1266
theorem v_m_layerAt : Cond.selects y_m_layerAt.cls y_m_layerAt y_m_layerAt ∈ lw_tbl := ms (i := 48) (q := (y_m_layerAt, 28)) (by decide +kernel)
theorem s_m_raise : Cond.instanceMethod y_m_raise ∈ lw_tbl := w1269
theorem v_m_raise : Cond.selects y_m_raise.cls y_m_raise y_m_raise ∈ lw_tbl := w1270
theorem s_m_isCapability : Cond.instanceMethod y_m_isCapability ∈ lw_tbl := w1274
theorem v_m_isCapability : Cond.selects y_m_isCapability.cls y_m_isCapability y_m_isCapability ∈ lw_tbl := ms (i := 49) (q := (y_m_isCapability, 28)) (by decide +kernel)
theorem s_m_lower : Cond.instanceMethod y_m_lower ∈ lw_tbl := w1277
theorem v_m_lower : Cond.selects y_m_lower.cls y_m_lower y_m_lower ∈ lw_tbl := w1278
theorem s_m_drop : Cond.instanceMethod y_m_drop ∈ lw_tbl := w1281
theorem v_m_drop : Cond.selects y_m_drop.cls y_m_drop y_m_drop ∈ lw_tbl := w1282
theorem s_m_kill : Cond.instanceMethod y_m_kill ∈ lw_tbl := w1285
theorem v_m_kill : Cond.selects y_m_kill.cls y_m_kill y_m_kill ∈ lw_tbl := w1286
theorem s_m_attach : Cond.instanceMethod y_m_attach ∈ lw_tbl := w1289
theorem v_m_attach : Cond.selects y_m_attach.cls y_m_attach y_m_attach ∈ lw_tbl := w1290
theorem s_m_freeAddress : Cond.instanceMethod y_m_freeAddress ∈ lw_tbl := w1294
theorem v_m_freeAddress : Cond.selects y_m_freeAddress.cls y_m_freeAddress y_m_freeAddress ∈ lw_tbl := ms (i := 50) (q := (y_m_freeAddress, 28)) (by decide +kernel)
theorem s_m_atAddress : Cond.instanceMethod y_m_atAddress ∈ lw_tbl := w1298
theorem v_m_atAddress : Cond.selects y_m_atAddress.cls y_m_atAddress y_m_atAddress ∈ lw_tbl := ms (i := 51) (q := (y_m_atAddress, 28)) (by decide +kernel)
theorem s_m_detach : Cond.instanceMethod y_m_detach ∈ lw_tbl := w1301
theorem v_m_detach : Cond.selects y_m_detach.cls y_m_detach y_m_detach ∈ lw_tbl := w1302
theorem s_m_listen : Cond.instanceMethod y_m_listen ∈ lw_tbl := w1305
theorem v_m_listen : Cond.selects y_m_listen.cls y_m_listen y_m_listen ∈ lw_tbl := w1306
theorem s_m_isListening : Cond.instanceMethod y_m_isListening ∈ lw_tbl := w1310
theorem v_m_isListening : Cond.selects y_m_isListening.cls y_m_isListening y_m_isListening ∈ lw_tbl := ms (i := 52) (q := (y_m_isListening, 28)) (by decide +kernel)
theorem s_m_publish : Cond.instanceMethod y_m_publish ∈ lw_tbl := w1313
theorem v_m_publish : Cond.selects y_m_publish.cls y_m_publish y_m_publish ∈ lw_tbl := w1314
theorem s_m_connect : Cond.instanceMethod y_m_connect ∈ lw_tbl := w1317
theorem v_m_connect : Cond.selects y_m_connect.cls y_m_connect y_m_connect ∈ lw_tbl := w1318
theorem s_m_connectHost : Cond.instanceMethod y_m_connectHost ∈ lw_tbl := w1321
theorem v_m_connectHost : Cond.selects y_m_connectHost.cls y_m_connectHost y_m_connectHost ∈ lw_tbl := w1322
theorem s_m_save : Cond.instanceMethod y_m_save ∈ lw_tbl := w1325
theorem v_m_save : Cond.selects y_m_save.cls y_m_save y_m_save ∈ lw_tbl := w1326
theorem s_m_keeps : Cond.instanceMethod y_m_keeps ∈ lw_tbl := w1330
theorem v_m_keeps : Cond.selects y_m_keeps.cls y_m_keeps y_m_keeps ∈ lw_tbl := ms (i := 53) (q := (y_m_keeps, 28)) (by decide +kernel)
theorem s_m_restore : Cond.instanceMethod y_m_restore ∈ lw_tbl := w1333
theorem v_m_restore : Cond.selects y_m_restore.cls y_m_restore y_m_restore ∈ lw_tbl := w1334
theorem s_m_containers : Cond.instanceMethod y_m_containers ∈ lw_tbl := w1337
theorem v_m_containers : Cond.selects y_m_containers.cls y_m_containers y_m_containers ∈ lw_tbl := w1338
theorem s_m_stateOf : Cond.instanceMethod y_m_stateOf ∈ lw_tbl := w1341
theorem v_m_stateOf : Cond.selects y_m_stateOf.cls y_m_stateOf y_m_stateOf ∈ lw_tbl := w1342
theorem s_m_isAsked : Cond.instanceMethod y_m_isAsked ∈ lw_tbl := w1346
theorem v_m_isAsked : Cond.selects y_m_isAsked.cls y_m_isAsked y_m_isAsked ∈ lw_tbl := ms (i := 54) (q := (y_m_isAsked, 28)) (by decide +kernel)
theorem s_m_memoryOf : Cond.instanceMethod y_m_memoryOf ∈ lw_tbl := w1349
theorem v_m_memoryOf : Cond.selects y_m_memoryOf.cls y_m_memoryOf y_m_memoryOf ∈ lw_tbl := w1350
theorem s_m_timeOf : Cond.instanceMethod y_m_timeOf ∈ lw_tbl := w1353
theorem v_m_timeOf : Cond.selects y_m_timeOf.cls y_m_timeOf y_m_timeOf ∈ lw_tbl := w1354
theorem s_m_capabilitiesOf : Cond.instanceMethod y_m_capabilitiesOf ∈ lw_tbl := w1357
theorem v_m_capabilitiesOf : Cond.selects y_m_capabilitiesOf.cls y_m_capabilitiesOf y_m_capabilitiesOf ∈ lw_tbl := w1358
theorem s_m_addressOf : Cond.instanceMethod y_m_addressOf ∈ lw_tbl := w1361
theorem v_m_addressOf : Cond.selects y_m_addressOf.cls y_m_addressOf y_m_addressOf ∈ lw_tbl := w1362
theorem q_m_newImage_101 : callOk M_m_newImage M_m_isImage y_m_isImage k_m_isImage 101 1 := ⟨rfl, e_m_isImage, w1067, w11, by decide, by decide +kernel, by decide, by decide⟩
theorem q_m_newImage_105 : callOk M_m_newImage M_m_layersOf y_m_layersOf k_m_layersOf 105 1 := ⟨rfl, e_m_layersOf, w1074, w11, by decide, by decide +kernel, by decide, by decide⟩
theorem q_m_newImage_109 : callOk M_m_newImage M_m_holds y_m_holds k_m_holds 109 1 := ⟨rfl, e_m_holds, w1078, w11, by decide, by decide +kernel, by decide, by decide⟩
theorem q_m_newImage_112 : callOk M_m_newImage M_m_empties y_m_empties k_m_empties 112 1 := ⟨rfl, e_m_empties, w1082, w11, by decide, by decide +kernel, by decide, by decide⟩
theorem q_m_isImage_90 : callOk M_m_isImage M_m_isIn y_m_isIn k_m_isIn 90 2 := ⟨rfl, e_m_isIn, w1071, w11, by decide, by decide +kernel, by decide, by decide⟩
theorem q_m_write_101 : callOk M_m_write M_m_isImage y_m_isImage k_m_isImage 101 1 := ⟨rfl, e_m_isImage, w1067, w11, by decide, by decide +kernel, by decide, by decide⟩
theorem q_m_write_90 : callOk M_m_write M_m_isIn y_m_isIn k_m_isIn 90 2 := ⟨rfl, e_m_isIn, w1071, w11, by decide, by decide +kernel, by decide, by decide⟩
theorem q_m_write_116 : callOk M_m_write M_m_isContent y_m_isContent k_m_isContent 116 1 := ⟨rfl, e_m_isContent, w1090, w11, by decide, by decide +kernel, by decide, by decide⟩
theorem q_m_write_109 : callOk M_m_write M_m_holds y_m_holds k_m_holds 109 1 := ⟨rfl, e_m_holds, w1078, w11, by decide, by decide +kernel, by decide, by decide⟩
theorem q_m_write_119 : callOk M_m_write M_m_imageShows y_m_imageShows k_m_imageShows 119 2 := ⟨rfl, e_m_imageShows, w1093, w11, by decide, by decide +kernel, by decide, by decide⟩
theorem q_m_imageShows_97 : callOk M_m_imageShows M_m_shows y_m_shows k_m_shows 97 3 := ⟨rfl, e_m_shows, w1097, w11, by decide, by decide +kernel, by decide, by decide⟩
theorem q_m_remove_101 : callOk M_m_remove M_m_isImage y_m_isImage k_m_isImage 101 1 := ⟨rfl, e_m_isImage, w1067, w11, by decide, by decide +kernel, by decide, by decide⟩
theorem q_m_remove_90 : callOk M_m_remove M_m_isIn y_m_isIn k_m_isIn 90 2 := ⟨rfl, e_m_isIn, w1071, w11, by decide, by decide +kernel, by decide, by decide⟩
theorem q_m_remove_119 : callOk M_m_remove M_m_imageShows y_m_imageShows k_m_imageShows 119 2 := ⟨rfl, e_m_imageShows, w1093, w11, by decide, by decide +kernel, by decide, by decide⟩
theorem q_m_remove_109 : callOk M_m_remove M_m_holds y_m_holds k_m_holds 109 1 := ⟨rfl, e_m_holds, w1078, w11, by decide, by decide +kernel, by decide, by decide⟩
theorem q_m_clear_101 : callOk M_m_clear M_m_isImage y_m_isImage k_m_isImage 101 1 := ⟨rfl, e_m_isImage, w1067, w11, by decide, by decide +kernel, by decide, by decide⟩
theorem q_m_clear_90 : callOk M_m_clear M_m_isIn y_m_isIn k_m_isIn 90 2 := ⟨rfl, e_m_isIn, w1071, w11, by decide, by decide +kernel, by decide, by decide⟩
theorem q_m_clear_109 : callOk M_m_clear M_m_holds y_m_holds k_m_holds 109 1 := ⟨rfl, e_m_holds, w1078, w11, by decide, by decide +kernel, by decide, by decide⟩
theorem q_m_clear_119 : callOk M_m_clear M_m_imageShows y_m_imageShows k_m_imageShows 119 2 := ⟨rfl, e_m_imageShows, w1093, w11, by decide, by decide +kernel, by decide, by decide⟩
theorem q_m_seal_101 : callOk M_m_seal M_m_isImage y_m_isImage k_m_isImage 101 1 := ⟨rfl, e_m_isImage, w1067, w11, by decide, by decide +kernel, by decide, by decide⟩
theorem q_m_seal_109 : callOk M_m_seal M_m_holds y_m_holds k_m_holds 109 1 := ⟨rfl, e_m_holds, w1078, w11, by decide, by decide +kernel, by decide, by decide⟩
theorem q_m_seal_105 : callOk M_m_seal M_m_layersOf y_m_layersOf k_m_layersOf 105 1 := ⟨rfl, e_m_layersOf, w1074, w11, by decide, by decide +kernel, by decide, by decide⟩
theorem q_m_shown_101 : callOk M_m_shown M_m_isImage y_m_isImage k_m_isImage 101 1 := ⟨rfl, e_m_isImage, w1067, w11, by decide, by decide +kernel, by decide, by decide⟩
theorem q_m_shown_90 : callOk M_m_shown M_m_isIn y_m_isIn k_m_isIn 90 2 := ⟨rfl, e_m_isIn, w1071, w11, by decide, by decide +kernel, by decide, by decide⟩
theorem q_m_shown_109 : callOk M_m_shown M_m_holds y_m_holds k_m_holds 109 1 := ⟨rfl, e_m_holds, w1078, w11, by decide, by decide +kernel, by decide, by decide⟩
theorem q_m_shown_119 : callOk M_m_shown M_m_imageShows y_m_imageShows k_m_imageShows 119 2 := ⟨rfl, e_m_imageShows, w1093, w11, by decide, by decide +kernel, by decide, by decide⟩
theorem q_m_entries_101 : callOk M_m_entries M_m_isImage y_m_isImage k_m_isImage 101 1 := ⟨rfl, e_m_isImage, w1067, w11, by decide, by decide +kernel, by decide, by decide⟩
theorem q_m_entries_105 : callOk M_m_entries M_m_layersOf y_m_layersOf k_m_layersOf 105 1 := ⟨rfl, e_m_layersOf, w1074, w11, by decide, by decide +kernel, by decide, by decide⟩
theorem q_m_entries_90 : callOk M_m_entries M_m_isIn y_m_isIn k_m_isIn 90 2 := ⟨rfl, e_m_isIn, w1071, w11, by decide, by decide +kernel, by decide, by decide⟩
theorem q_m_entries_109 : callOk M_m_entries M_m_holds y_m_holds k_m_holds 109 1 := ⟨rfl, e_m_holds, w1078, w11, by decide, by decide +kernel, by decide, by decide⟩
theorem q_m_commit_123 : callOk M_m_commit M_m_isContainer y_m_isContainer k_m_isContainer 123 1 := ⟨rfl, e_m_isContainer, w1125, w11, by decide, by decide +kernel, by decide, by decide⟩
theorem q_m_commit_105 : callOk M_m_commit M_m_layersOf y_m_layersOf k_m_layersOf 105 1 := ⟨rfl, e_m_layersOf, w1074, w11, by decide, by decide +kernel, by decide, by decide⟩
theorem q_m_commit_109 : callOk M_m_commit M_m_holds y_m_holds k_m_holds 109 1 := ⟨rfl, e_m_holds, w1078, w11, by decide, by decide +kernel, by decide, by decide⟩
theorem q_m_commit_126 : callOk M_m_commit M_m_copies y_m_copies k_m_copies 126 2 := ⟨rfl, e_m_copies, w1129, w11, by decide, by decide +kernel, by decide, by decide⟩
theorem q_m_isContainer_90 : callOk M_m_isContainer M_m_isIn y_m_isIn k_m_isIn 90 2 := ⟨rfl, e_m_isIn, w1071, w11, by decide, by decide +kernel, by decide, by decide⟩
theorem q_m_newGroup_133 : callOk M_m_newGroup M_m_isGroup y_m_isGroup k_m_isGroup 133 1 := ⟨rfl, e_m_isGroup, w1137, w11, by decide, by decide +kernel, by decide, by decide⟩
theorem q_m_newGroup_109 : callOk M_m_newGroup M_m_holds y_m_holds k_m_holds 109 1 := ⟨rfl, e_m_holds, w1078, w11, by decide, by decide +kernel, by decide, by decide⟩
theorem q_m_isGroup_90 : callOk M_m_isGroup M_m_isIn y_m_isIn k_m_isIn 90 2 := ⟨rfl, e_m_isIn, w1071, w11, by decide, by decide +kernel, by decide, by decide⟩
theorem q_m_groupMemory_133 : callOk M_m_groupMemory M_m_isGroup y_m_isGroup k_m_isGroup 133 1 := ⟨rfl, e_m_isGroup, w1137, w11, by decide, by decide +kernel, by decide, by decide⟩
theorem q_m_groupMemory_109 : callOk M_m_groupMemory M_m_holds y_m_holds k_m_holds 109 1 := ⟨rfl, e_m_holds, w1078, w11, by decide, by decide +kernel, by decide, by decide⟩
theorem q_m_groupMemory_136 : callOk M_m_groupMemory M_m_memoryIn y_m_memoryIn k_m_memoryIn 136 1 := ⟨rfl, e_m_memoryIn, w1145, w11, by decide, by decide +kernel, by decide, by decide⟩
theorem q_m_memoryIn_130 : callOk M_m_memoryIn M_m_isBelow y_m_isBelow k_m_isBelow 130 2 := ⟨rfl, e_m_isBelow, w1149, w11, by decide, by decide +kernel, by decide, by decide⟩
theorem q_m_groupProcesses_133 : callOk M_m_groupProcesses M_m_isGroup y_m_isGroup k_m_isGroup 133 1 := ⟨rfl, e_m_isGroup, w1137, w11, by decide, by decide +kernel, by decide, by decide⟩
theorem q_m_groupProcesses_109 : callOk M_m_groupProcesses M_m_holds y_m_holds k_m_holds 109 1 := ⟨rfl, e_m_holds, w1078, w11, by decide, by decide +kernel, by decide, by decide⟩
theorem q_m_groupProcesses_139 : callOk M_m_groupProcesses M_m_processesIn y_m_processesIn k_m_processesIn 139 1 := ⟨rfl, e_m_processesIn, w1157, w11, by decide, by decide +kernel, by decide, by decide⟩
theorem q_m_processesIn_130 : callOk M_m_processesIn M_m_isBelow y_m_isBelow k_m_isBelow 130 2 := ⟨rfl, e_m_isBelow, w1149, w11, by decide, by decide +kernel, by decide, by decide⟩
theorem q_m_run_101 : callOk M_m_run M_m_isImage y_m_isImage k_m_isImage 101 1 := ⟨rfl, e_m_isImage, w1067, w11, by decide, by decide +kernel, by decide, by decide⟩
theorem q_m_run_133 : callOk M_m_run M_m_isGroup y_m_isGroup k_m_isGroup 133 1 := ⟨rfl, e_m_isGroup, w1137, w11, by decide, by decide +kernel, by decide, by decide⟩
theorem q_m_run_90 : callOk M_m_run M_m_isIn y_m_isIn k_m_isIn 90 2 := ⟨rfl, e_m_isIn, w1071, w11, by decide, by decide +kernel, by decide, by decide⟩
theorem q_m_run_142 : callOk M_m_run M_m_tooMuch y_m_tooMuch k_m_tooMuch 142 3 := ⟨rfl, e_m_tooMuch, w1165, w11, by decide, by decide +kernel, by decide, by decide⟩
theorem q_m_run_109 : callOk M_m_run M_m_holds y_m_holds k_m_holds 109 1 := ⟨rfl, e_m_holds, w1078, w11, by decide, by decide +kernel, by decide, by decide⟩
theorem q_m_run_145 : callOk M_m_run M_m_begins y_m_begins k_m_begins 145 4 := ⟨rfl, e_m_begins, w1169, w11, by decide, by decide +kernel, by decide, by decide⟩
theorem q_m_tooMuch_136 : callOk M_m_tooMuch M_m_memoryIn y_m_memoryIn k_m_memoryIn 136 1 := ⟨rfl, e_m_memoryIn, w1145, w11, by decide, by decide +kernel, by decide, by decide⟩
theorem q_m_tooMuch_139 : callOk M_m_tooMuch M_m_processesIn y_m_processesIn k_m_processesIn 139 1 := ⟨rfl, e_m_processesIn, w1157, w11, by decide, by decide +kernel, by decide, by decide⟩
theorem q_m_begins_112 : callOk M_m_begins M_m_empties y_m_empties k_m_empties 112 1 := ⟨rfl, e_m_empties, w1082, w11, by decide, by decide +kernel, by decide, by decide⟩
theorem q_m_pause_149 : callOk M_m_pause M_m_isThere y_m_isThere k_m_isThere 149 2 := ⟨rfl, e_m_isThere, w1177, w11, by decide, by decide +kernel, by decide, by decide⟩
theorem q_m_isThere_123 : callOk M_m_isThere M_m_isContainer y_m_isContainer k_m_isContainer 123 1 := ⟨rfl, e_m_isContainer, w1125, w11, by decide, by decide +kernel, by decide, by decide⟩
theorem q_m_isThere_109 : callOk M_m_isThere M_m_holds y_m_holds k_m_holds 109 1 := ⟨rfl, e_m_holds, w1078, w11, by decide, by decide +kernel, by decide, by decide⟩
theorem q_m_resume_149 : callOk M_m_resume M_m_isThere y_m_isThere k_m_isThere 149 2 := ⟨rfl, e_m_isThere, w1177, w11, by decide, by decide +kernel, by decide, by decide⟩
theorem q_m_stop_123 : callOk M_m_stop M_m_isContainer y_m_isContainer k_m_isContainer 123 1 := ⟨rfl, e_m_isContainer, w1125, w11, by decide, by decide +kernel, by decide, by decide⟩
theorem q_m_stop_109 : callOk M_m_stop M_m_holds y_m_holds k_m_holds 109 1 := ⟨rfl, e_m_holds, w1078, w11, by decide, by decide +kernel, by decide, by decide⟩
theorem q_m_stop_152 : callOk M_m_stop M_m_stops y_m_stops k_m_stops 152 1 := ⟨rfl, e_m_stops, w1189, w11, by decide, by decide +kernel, by decide, by decide⟩
theorem q_m_allocate_123 : callOk M_m_allocate M_m_isContainer y_m_isContainer k_m_isContainer 123 1 := ⟨rfl, e_m_isContainer, w1125, w11, by decide, by decide +kernel, by decide, by decide⟩
theorem q_m_allocate_155 : callOk M_m_allocate M_m_areUnits y_m_areUnits k_m_areUnits 155 1 := ⟨rfl, e_m_areUnits, w1197, w11, by decide, by decide +kernel, by decide, by decide⟩
theorem q_m_allocate_109 : callOk M_m_allocate M_m_holds y_m_holds k_m_holds 109 1 := ⟨rfl, e_m_holds, w1078, w11, by decide, by decide +kernel, by decide, by decide⟩
theorem q_m_allocate_142 : callOk M_m_allocate M_m_tooMuch y_m_tooMuch k_m_tooMuch 142 3 := ⟨rfl, e_m_tooMuch, w1165, w11, by decide, by decide +kernel, by decide, by decide⟩
theorem q_m_allocate_158 : callOk M_m_allocate M_m_greatest y_m_greatest k_m_greatest 158 1 := ⟨rfl, e_m_greatest, w1200, w11, by decide, by decide +kernel, by decide, by decide⟩
theorem q_m_allocate_152 : callOk M_m_allocate M_m_stops y_m_stops k_m_stops 152 1 := ⟨rfl, e_m_stops, w1189, w11, by decide, by decide +kernel, by decide, by decide⟩
theorem q_m_greatest_130 : callOk M_m_greatest M_m_isBelow y_m_isBelow k_m_isBelow 130 2 := ⟨rfl, e_m_isBelow, w1149, w11, by decide, by decide +kernel, by decide, by decide⟩
theorem q_m_free_123 : callOk M_m_free M_m_isContainer y_m_isContainer k_m_isContainer 123 1 := ⟨rfl, e_m_isContainer, w1125, w11, by decide, by decide +kernel, by decide, by decide⟩
theorem q_m_free_155 : callOk M_m_free M_m_areUnits y_m_areUnits k_m_areUnits 155 1 := ⟨rfl, e_m_areUnits, w1197, w11, by decide, by decide +kernel, by decide, by decide⟩
theorem q_m_free_109 : callOk M_m_free M_m_holds y_m_holds k_m_holds 109 1 := ⟨rfl, e_m_holds, w1078, w11, by decide, by decide +kernel, by decide, by decide⟩
theorem q_m_fork_123 : callOk M_m_fork M_m_isContainer y_m_isContainer k_m_isContainer 123 1 := ⟨rfl, e_m_isContainer, w1125, w11, by decide, by decide +kernel, by decide, by decide⟩
theorem q_m_fork_142 : callOk M_m_fork M_m_tooMuch y_m_tooMuch k_m_tooMuch 142 3 := ⟨rfl, e_m_tooMuch, w1165, w11, by decide, by decide +kernel, by decide, by decide⟩
theorem q_m_fork_109 : callOk M_m_fork M_m_holds y_m_holds k_m_holds 109 1 := ⟨rfl, e_m_holds, w1078, w11, by decide, by decide +kernel, by decide, by decide⟩
theorem q_m_exit_149 : callOk M_m_exit M_m_isThere y_m_isThere k_m_isThere 149 2 := ⟨rfl, e_m_isThere, w1177, w11, by decide, by decide +kernel, by decide, by decide⟩
theorem q_m_exit_152 : callOk M_m_exit M_m_stops y_m_stops k_m_stops 152 1 := ⟨rfl, e_m_stops, w1189, w11, by decide, by decide +kernel, by decide, by decide⟩
theorem q_m_schedule_109 : callOk M_m_schedule M_m_holds y_m_holds k_m_holds 109 1 := ⟨rfl, e_m_holds, w1078, w11, by decide, by decide +kernel, by decide, by decide⟩
theorem q_m_schedule_170 : callOk M_m_schedule M_m_sharesOut y_m_sharesOut k_m_sharesOut 170 1 := ⟨rfl, e_m_sharesOut, w1220, w11, by decide, by decide +kernel, by decide, by decide⟩
theorem q_m_sharesOut_161 : callOk M_m_sharesOut M_m_isPart y_m_isPart k_m_isPart 161 2 := ⟨rfl, e_m_isPart, w1224, w11, by decide, by decide +kernel, by decide, by decide⟩
theorem q_m_sharesOut_164 : callOk M_m_sharesOut M_m_sharesOfPart y_m_sharesOfPart k_m_sharesOfPart 164 1 := ⟨rfl, e_m_sharesOfPart, w1228, w11, by decide, by decide +kernel, by decide, by decide⟩
theorem q_m_sharesOut_167 : callOk M_m_sharesOut M_m_gives y_m_gives k_m_gives 167 2 := ⟨rfl, e_m_gives, w1232, w11, by decide, by decide +kernel, by decide, by decide⟩
theorem q_m_isPart_130 : callOk M_m_isPart M_m_isBelow y_m_isBelow k_m_isBelow 130 2 := ⟨rfl, e_m_isBelow, w1149, w11, by decide, by decide +kernel, by decide, by decide⟩
theorem q_m_writeFile_123 : callOk M_m_writeFile M_m_isContainer y_m_isContainer k_m_isContainer 123 1 := ⟨rfl, e_m_isContainer, w1125, w11, by decide, by decide +kernel, by decide, by decide⟩
theorem q_m_writeFile_90 : callOk M_m_writeFile M_m_isIn y_m_isIn k_m_isIn 90 2 := ⟨rfl, e_m_isIn, w1071, w11, by decide, by decide +kernel, by decide, by decide⟩
theorem q_m_writeFile_116 : callOk M_m_writeFile M_m_isContent y_m_isContent k_m_isContent 116 1 := ⟨rfl, e_m_isContent, w1090, w11, by decide, by decide +kernel, by decide, by decide⟩
theorem q_m_writeFile_176 : callOk M_m_writeFile M_m_mayChange y_m_mayChange k_m_mayChange 176 2 := ⟨rfl, e_m_mayChange, w1240, w11, by decide, by decide +kernel, by decide, by decide⟩
theorem q_m_writeFile_109 : callOk M_m_writeFile M_m_holds y_m_holds k_m_holds 109 1 := ⟨rfl, e_m_holds, w1078, w11, by decide, by decide +kernel, by decide, by decide⟩
theorem q_m_writeFile_179 : callOk M_m_writeFile M_m_containerSees y_m_containerSees k_m_containerSees 179 2 := ⟨rfl, e_m_containerSees, w1248, w11, by decide, by decide +kernel, by decide, by decide⟩
theorem q_m_mayChange_173 : callOk M_m_mayChange M_m_isEffective y_m_isEffective k_m_isEffective 173 2 := ⟨rfl, e_m_isEffective, w1244, w11, by decide, by decide +kernel, by decide, by decide⟩
theorem q_m_containerSees_97 : callOk M_m_containerSees M_m_shows y_m_shows k_m_shows 97 3 := ⟨rfl, e_m_shows, w1097, w11, by decide, by decide +kernel, by decide, by decide⟩
theorem q_m_removeFile_123 : callOk M_m_removeFile M_m_isContainer y_m_isContainer k_m_isContainer 123 1 := ⟨rfl, e_m_isContainer, w1125, w11, by decide, by decide +kernel, by decide, by decide⟩
theorem q_m_removeFile_90 : callOk M_m_removeFile M_m_isIn y_m_isIn k_m_isIn 90 2 := ⟨rfl, e_m_isIn, w1071, w11, by decide, by decide +kernel, by decide, by decide⟩
theorem q_m_removeFile_176 : callOk M_m_removeFile M_m_mayChange y_m_mayChange k_m_mayChange 176 2 := ⟨rfl, e_m_mayChange, w1240, w11, by decide, by decide +kernel, by decide, by decide⟩
theorem q_m_removeFile_179 : callOk M_m_removeFile M_m_containerSees y_m_containerSees k_m_containerSees 179 2 := ⟨rfl, e_m_containerSees, w1248, w11, by decide, by decide +kernel, by decide, by decide⟩
theorem q_m_removeFile_109 : callOk M_m_removeFile M_m_holds y_m_holds k_m_holds 109 1 := ⟨rfl, e_m_holds, w1078, w11, by decide, by decide +kernel, by decide, by decide⟩
theorem q_m_fileOf_123 : callOk M_m_fileOf M_m_isContainer y_m_isContainer k_m_isContainer 123 1 := ⟨rfl, e_m_isContainer, w1125, w11, by decide, by decide +kernel, by decide, by decide⟩
theorem q_m_fileOf_90 : callOk M_m_fileOf M_m_isIn y_m_isIn k_m_isIn 90 2 := ⟨rfl, e_m_isIn, w1071, w11, by decide, by decide +kernel, by decide, by decide⟩
theorem q_m_fileOf_109 : callOk M_m_fileOf M_m_holds y_m_holds k_m_holds 109 1 := ⟨rfl, e_m_holds, w1078, w11, by decide, by decide +kernel, by decide, by decide⟩
theorem q_m_fileOf_179 : callOk M_m_fileOf M_m_containerSees y_m_containerSees k_m_containerSees 179 2 := ⟨rfl, e_m_containerSees, w1248, w11, by decide, by decide +kernel, by decide, by decide⟩
theorem q_m_plainFileOf_123 : callOk M_m_plainFileOf M_m_isContainer y_m_isContainer k_m_isContainer 123 1 := ⟨rfl, e_m_isContainer, w1125, w11, by decide, by decide +kernel, by decide, by decide⟩
theorem q_m_plainFileOf_90 : callOk M_m_plainFileOf M_m_isIn y_m_isIn k_m_isIn 90 2 := ⟨rfl, e_m_isIn, w1071, w11, by decide, by decide +kernel, by decide, by decide⟩
theorem q_m_plainFileOf_109 : callOk M_m_plainFileOf M_m_holds y_m_holds k_m_holds 109 1 := ⟨rfl, e_m_holds, w1078, w11, by decide, by decide +kernel, by decide, by decide⟩
theorem q_m_plainFileOf_105 : callOk M_m_plainFileOf M_m_layersOf y_m_layersOf k_m_layersOf 105 1 := ⟨rfl, e_m_layersOf, w1074, w11, by decide, by decide +kernel, by decide, by decide⟩
theorem q_m_plainFileOf_182 : callOk M_m_plainFileOf M_m_layerAt y_m_layerAt k_m_layerAt 182 2 := ⟨rfl, e_m_layerAt, w1264, w11, by decide, by decide +kernel, by decide, by decide⟩
theorem q_m_layerAt_105 : callOk M_m_layerAt M_m_layersOf y_m_layersOf k_m_layersOf 105 1 := ⟨rfl, e_m_layersOf, w1074, w11, by decide, by decide +kernel, by decide, by decide⟩
theorem q_m_raise_185 : callOk M_m_raise M_m_isCapability y_m_isCapability k_m_isCapability 185 3 := ⟨rfl, e_m_isCapability, w1272, w11, by decide, by decide +kernel, by decide, by decide⟩
theorem q_m_isCapability_123 : callOk M_m_isCapability M_m_isContainer y_m_isContainer k_m_isContainer 123 1 := ⟨rfl, e_m_isContainer, w1125, w11, by decide, by decide +kernel, by decide, by decide⟩
theorem q_m_isCapability_90 : callOk M_m_isCapability M_m_isIn y_m_isIn k_m_isIn 90 2 := ⟨rfl, e_m_isIn, w1071, w11, by decide, by decide +kernel, by decide, by decide⟩
theorem q_m_isCapability_109 : callOk M_m_isCapability M_m_holds y_m_holds k_m_holds 109 1 := ⟨rfl, e_m_holds, w1078, w11, by decide, by decide +kernel, by decide, by decide⟩
theorem q_m_lower_185 : callOk M_m_lower M_m_isCapability y_m_isCapability k_m_isCapability 185 3 := ⟨rfl, e_m_isCapability, w1272, w11, by decide, by decide +kernel, by decide, by decide⟩
theorem q_m_drop_185 : callOk M_m_drop M_m_isCapability y_m_isCapability k_m_isCapability 185 3 := ⟨rfl, e_m_isCapability, w1272, w11, by decide, by decide +kernel, by decide, by decide⟩
theorem q_m_kill_123 : callOk M_m_kill M_m_isContainer y_m_isContainer k_m_isContainer 123 1 := ⟨rfl, e_m_isContainer, w1125, w11, by decide, by decide +kernel, by decide, by decide⟩
theorem q_m_kill_173 : callOk M_m_kill M_m_isEffective y_m_isEffective k_m_isEffective 173 2 := ⟨rfl, e_m_isEffective, w1244, w11, by decide, by decide +kernel, by decide, by decide⟩
theorem q_m_kill_130 : callOk M_m_kill M_m_isBelow y_m_isBelow k_m_isBelow 130 2 := ⟨rfl, e_m_isBelow, w1149, w11, by decide, by decide +kernel, by decide, by decide⟩
theorem q_m_kill_109 : callOk M_m_kill M_m_holds y_m_holds k_m_holds 109 1 := ⟨rfl, e_m_holds, w1078, w11, by decide, by decide +kernel, by decide, by decide⟩
theorem q_m_kill_152 : callOk M_m_kill M_m_stops y_m_stops k_m_stops 152 1 := ⟨rfl, e_m_stops, w1189, w11, by decide, by decide +kernel, by decide, by decide⟩
theorem q_m_attach_123 : callOk M_m_attach M_m_isContainer y_m_isContainer k_m_isContainer 123 1 := ⟨rfl, e_m_isContainer, w1125, w11, by decide, by decide +kernel, by decide, by decide⟩
theorem q_m_attach_90 : callOk M_m_attach M_m_isIn y_m_isIn k_m_isIn 90 2 := ⟨rfl, e_m_isIn, w1071, w11, by decide, by decide +kernel, by decide, by decide⟩
theorem q_m_attach_173 : callOk M_m_attach M_m_isEffective y_m_isEffective k_m_isEffective 173 2 := ⟨rfl, e_m_isEffective, w1244, w11, by decide, by decide +kernel, by decide, by decide⟩
theorem q_m_attach_192 : callOk M_m_attach M_m_freeAddress y_m_freeAddress k_m_freeAddress 192 1 := ⟨rfl, e_m_freeAddress, w1292, w11, by decide, by decide +kernel, by decide, by decide⟩
theorem q_m_attach_109 : callOk M_m_attach M_m_holds y_m_holds k_m_holds 109 1 := ⟨rfl, e_m_holds, w1078, w11, by decide, by decide +kernel, by decide, by decide⟩
theorem q_m_freeAddress_189 : callOk M_m_freeAddress M_m_atAddress y_m_atAddress k_m_atAddress 189 2 := ⟨rfl, e_m_atAddress, w1296, w11, by decide, by decide +kernel, by decide, by decide⟩
theorem q_m_detach_123 : callOk M_m_detach M_m_isContainer y_m_isContainer k_m_isContainer 123 1 := ⟨rfl, e_m_isContainer, w1125, w11, by decide, by decide +kernel, by decide, by decide⟩
theorem q_m_detach_109 : callOk M_m_detach M_m_holds y_m_holds k_m_holds 109 1 := ⟨rfl, e_m_holds, w1078, w11, by decide, by decide +kernel, by decide, by decide⟩
theorem q_m_listen_123 : callOk M_m_listen M_m_isContainer y_m_isContainer k_m_isContainer 123 1 := ⟨rfl, e_m_isContainer, w1125, w11, by decide, by decide +kernel, by decide, by decide⟩
theorem q_m_listen_90 : callOk M_m_listen M_m_isIn y_m_isIn k_m_isIn 90 2 := ⟨rfl, e_m_isIn, w1071, w11, by decide, by decide +kernel, by decide, by decide⟩
theorem q_m_listen_195 : callOk M_m_listen M_m_isListening y_m_isListening k_m_isListening 195 2 := ⟨rfl, e_m_isListening, w1308, w11, by decide, by decide +kernel, by decide, by decide⟩
theorem q_m_listen_173 : callOk M_m_listen M_m_isEffective y_m_isEffective k_m_isEffective 173 2 := ⟨rfl, e_m_isEffective, w1244, w11, by decide, by decide +kernel, by decide, by decide⟩
theorem q_m_listen_109 : callOk M_m_listen M_m_holds y_m_holds k_m_holds 109 1 := ⟨rfl, e_m_holds, w1078, w11, by decide, by decide +kernel, by decide, by decide⟩
theorem q_m_publish_123 : callOk M_m_publish M_m_isContainer y_m_isContainer k_m_isContainer 123 1 := ⟨rfl, e_m_isContainer, w1125, w11, by decide, by decide +kernel, by decide, by decide⟩
theorem q_m_publish_90 : callOk M_m_publish M_m_isIn y_m_isIn k_m_isIn 90 2 := ⟨rfl, e_m_isIn, w1071, w11, by decide, by decide +kernel, by decide, by decide⟩
theorem q_m_publish_195 : callOk M_m_publish M_m_isListening y_m_isListening k_m_isListening 195 2 := ⟨rfl, e_m_isListening, w1308, w11, by decide, by decide +kernel, by decide, by decide⟩
theorem q_m_publish_109 : callOk M_m_publish M_m_holds y_m_holds k_m_holds 109 1 := ⟨rfl, e_m_holds, w1078, w11, by decide, by decide +kernel, by decide, by decide⟩
theorem q_m_connect_123 : callOk M_m_connect M_m_isContainer y_m_isContainer k_m_isContainer 123 1 := ⟨rfl, e_m_isContainer, w1125, w11, by decide, by decide +kernel, by decide, by decide⟩
theorem q_m_connect_90 : callOk M_m_connect M_m_isIn y_m_isIn k_m_isIn 90 2 := ⟨rfl, e_m_isIn, w1071, w11, by decide, by decide +kernel, by decide, by decide⟩
theorem q_m_connect_109 : callOk M_m_connect M_m_holds y_m_holds k_m_holds 109 1 := ⟨rfl, e_m_holds, w1078, w11, by decide, by decide +kernel, by decide, by decide⟩
theorem q_m_connect_189 : callOk M_m_connect M_m_atAddress y_m_atAddress k_m_atAddress 189 2 := ⟨rfl, e_m_atAddress, w1296, w11, by decide, by decide +kernel, by decide, by decide⟩
theorem q_m_connect_195 : callOk M_m_connect M_m_isListening y_m_isListening k_m_isListening 195 2 := ⟨rfl, e_m_isListening, w1308, w11, by decide, by decide +kernel, by decide, by decide⟩
theorem q_m_connectHost_90 : callOk M_m_connectHost M_m_isIn y_m_isIn k_m_isIn 90 2 := ⟨rfl, e_m_isIn, w1071, w11, by decide, by decide +kernel, by decide, by decide⟩
theorem q_m_connectHost_109 : callOk M_m_connectHost M_m_holds y_m_holds k_m_holds 109 1 := ⟨rfl, e_m_holds, w1078, w11, by decide, by decide +kernel, by decide, by decide⟩
theorem q_m_save_123 : callOk M_m_save M_m_isContainer y_m_isContainer k_m_isContainer 123 1 := ⟨rfl, e_m_isContainer, w1125, w11, by decide, by decide +kernel, by decide, by decide⟩
theorem q_m_save_109 : callOk M_m_save M_m_holds y_m_holds k_m_holds 109 1 := ⟨rfl, e_m_holds, w1078, w11, by decide, by decide +kernel, by decide, by decide⟩
theorem q_m_save_201 : callOk M_m_save M_m_keeps y_m_keeps k_m_keeps 201 2 := ⟨rfl, e_m_keeps, w1328, w11, by decide, by decide +kernel, by decide, by decide⟩
theorem q_m_keeps_126 : callOk M_m_keeps M_m_copies y_m_copies k_m_copies 126 2 := ⟨rfl, e_m_copies, w1129, w11, by decide, by decide +kernel, by decide, by decide⟩
theorem q_m_restore_90 : callOk M_m_restore M_m_isIn y_m_isIn k_m_isIn 90 2 := ⟨rfl, e_m_isIn, w1071, w11, by decide, by decide +kernel, by decide, by decide⟩
theorem q_m_restore_133 : callOk M_m_restore M_m_isGroup y_m_isGroup k_m_isGroup 133 1 := ⟨rfl, e_m_isGroup, w1137, w11, by decide, by decide +kernel, by decide, by decide⟩
theorem q_m_restore_142 : callOk M_m_restore M_m_tooMuch y_m_tooMuch k_m_tooMuch 142 3 := ⟨rfl, e_m_tooMuch, w1165, w11, by decide, by decide +kernel, by decide, by decide⟩
theorem q_m_restore_109 : callOk M_m_restore M_m_holds y_m_holds k_m_holds 109 1 := ⟨rfl, e_m_holds, w1078, w11, by decide, by decide +kernel, by decide, by decide⟩
theorem q_m_restore_145 : callOk M_m_restore M_m_begins y_m_begins k_m_begins 145 4 := ⟨rfl, e_m_begins, w1169, w11, by decide, by decide +kernel, by decide, by decide⟩
theorem q_m_restore_201 : callOk M_m_restore M_m_keeps y_m_keeps k_m_keeps 201 2 := ⟨rfl, e_m_keeps, w1328, w11, by decide, by decide +kernel, by decide, by decide⟩
theorem q_m_stateOf_204 : callOk M_m_stateOf M_m_isAsked y_m_isAsked k_m_isAsked 204 1 := ⟨rfl, e_m_isAsked, w1344, w11, by decide, by decide +kernel, by decide, by decide⟩
theorem q_m_isAsked_123 : callOk M_m_isAsked M_m_isContainer y_m_isContainer k_m_isContainer 123 1 := ⟨rfl, e_m_isContainer, w1125, w11, by decide, by decide +kernel, by decide, by decide⟩
theorem q_m_isAsked_109 : callOk M_m_isAsked M_m_holds y_m_holds k_m_holds 109 1 := ⟨rfl, e_m_holds, w1078, w11, by decide, by decide +kernel, by decide, by decide⟩
theorem q_m_memoryOf_204 : callOk M_m_memoryOf M_m_isAsked y_m_isAsked k_m_isAsked 204 1 := ⟨rfl, e_m_isAsked, w1344, w11, by decide, by decide +kernel, by decide, by decide⟩
theorem q_m_timeOf_204 : callOk M_m_timeOf M_m_isAsked y_m_isAsked k_m_isAsked 204 1 := ⟨rfl, e_m_isAsked, w1344, w11, by decide, by decide +kernel, by decide, by decide⟩
theorem q_m_capabilitiesOf_204 : callOk M_m_capabilitiesOf M_m_isAsked y_m_isAsked k_m_isAsked 204 1 := ⟨rfl, e_m_isAsked, w1344, w11, by decide, by decide +kernel, by decide, by decide⟩
theorem q_m_addressOf_204 : callOk M_m_addressOf M_m_isAsked y_m_isAsked k_m_isAsked 204 1 := ⟨rfl, e_m_isAsked, w1344, w11, by decide, by decide +kernel, by decide, by decide⟩
theorem in7 : ∀ w ∈ u_ws RX7 TX7 28, w ∈ lw_tbl := by decide +kernel
theorem mg_84 {g : xG} {M : xMeth} {x0 : Nat} {ad : Nat → Nat} {h0 : hp} {Qm : qS} {tt : Int} {S : gS} {pc : Nat} {ls : List (Option Value)} {st : List Value} (d : decode M.2.1 pc = .ok (.getfield 84, 3)) (hM : M.1 = "ContainerHostModel") (kk : mW g M x0 ad h0 Qm tt S (pc + 3) ls (.int (iI tt) :: st)) : mW g M x0 ad h0 Qm tt S pc ls (.ref x0 :: st) := m_getf (k := 0) d hM in7 (by decide) w973 rfl rfl kk
theorem mp_84 {g : xG} {M : xMeth} {x0 : Nat} {ad : Nat → Nat} {h0 : hp} {Qm : qS} {tt : Int} {S : gS} {pc : Nat} {ls : List (Option Value)} {st : List Value} {v : Int} (d : decode M.2.1 pc = .ok (.putfield 84, 3)) (hM : M.1 = "ContainerHostModel") (kk : mW g M x0 ad h0 Qm v S (pc + 3) ls st) : mW g M x0 ad h0 Qm tt S pc ls (.int (iI v) :: .ref x0 :: st) := m_put0 d hM in7 w973 kk
theorem mg_7 {g : xG} {M : xMeth} {x0 : Nat} {ad : Nat → Nat} {h0 : hp} {Qm : qS} {tt : Int} {S : gS} {pc : Nat} {ls : List (Option Value)} {st : List Value} (d : decode M.2.1 pc = .ok (.getfield 7, 3)) (hM : M.1 = "ContainerHostModel") (kk : mW g M x0 ad h0 Qm tt S (pc + 3) ls (.ref (ad 1) :: st)) : mW g M x0 ad h0 Qm tt S pc ls (.ref x0 :: st) := m_getf (k := 1) d hM in7 (by decide) w974 rfl rfl kk
theorem mg_13 {g : xG} {M : xMeth} {x0 : Nat} {ad : Nat → Nat} {h0 : hp} {Qm : qS} {tt : Int} {S : gS} {pc : Nat} {ls : List (Option Value)} {st : List Value} (d : decode M.2.1 pc = .ok (.getfield 13, 3)) (hM : M.1 = "ContainerHostModel") (kk : mW g M x0 ad h0 Qm tt S (pc + 3) ls (.ref (ad 2) :: st)) : mW g M x0 ad h0 Qm tt S pc ls (.ref x0 :: st) := m_getf (k := 2) d hM in7 (by decide) w975 rfl rfl kk
theorem mg_87 {g : xG} {M : xMeth} {x0 : Nat} {ad : Nat → Nat} {h0 : hp} {Qm : qS} {tt : Int} {S : gS} {pc : Nat} {ls : List (Option Value)} {st : List Value} (d : decode M.2.1 pc = .ok (.getfield 87, 3)) (hM : M.1 = "ContainerHostModel") (kk : mW g M x0 ad h0 Qm tt S (pc + 3) ls (.int (iI (S 3 0)) :: st)) : mW g M x0 ad h0 Qm tt S pc ls (.ref x0 :: st) := m_getf (k := 3) d hM in7 (by decide) w976 rfl rfl kk
theorem mgv_87 {g : xG} {M : xMeth} {x0 : Nat} {ad : Nat → Nat} {h0 : hp} {Qm : qS} {tt : Int} {S : gS} {pc : Nat} {ls : List (Option Value)} {st : List Value} (v : Int) (hv : S 3 0 = v) (d : decode M.2.1 pc = .ok (.getfield 87, 3)) (hM : M.1 = "ContainerHostModel") (kk : mW g M x0 ad h0 Qm tt S (pc + 3) ls (.int (iI v) :: st)) : mW g M x0 ad h0 Qm tt S pc ls (.ref x0 :: st) := mg_87 d hM (by rw [hv]; exact kk)
theorem mp_87 {g : xG} {M : xMeth} {x0 : Nat} {ad : Nat → Nat} {h0 : hp} {Qm : qS} {tt : Int} {S : gS} {pc : Nat} {ls : List (Option Value)} {st : List Value} {v : Int} (d : decode M.2.1 pc = .ok (.putfield 87, 3)) (hM : M.1 = "ContainerHostModel") (kk : mW g M x0 ad h0 Qm tt (sset S 3 0 v) (pc + 3) ls st) : mW g M x0 ad h0 Qm tt S pc ls (.int (iI v) :: .ref x0 :: st) := m_putf (k := 3) d hM in7 (by decide) w976 rfl rfl rfl rfl rfl kk
theorem mg_16 {g : xG} {M : xMeth} {x0 : Nat} {ad : Nat → Nat} {h0 : hp} {Qm : qS} {tt : Int} {S : gS} {pc : Nat} {ls : List (Option Value)} {st : List Value} (d : decode M.2.1 pc = .ok (.getfield 16, 3)) (hM : M.1 = "ContainerHostModel") (kk : mW g M x0 ad h0 Qm tt S (pc + 3) ls (.ref (ad 4) :: st)) : mW g M x0 ad h0 Qm tt S pc ls (.ref x0 :: st) := m_getf (k := 4) d hM in7 (by decide) w977 rfl rfl kk
theorem mg_19 {g : xG} {M : xMeth} {x0 : Nat} {ad : Nat → Nat} {h0 : hp} {Qm : qS} {tt : Int} {S : gS} {pc : Nat} {ls : List (Option Value)} {st : List Value} (d : decode M.2.1 pc = .ok (.getfield 19, 3)) (hM : M.1 = "ContainerHostModel") (kk : mW g M x0 ad h0 Qm tt S (pc + 3) ls (.ref (ad 5) :: st)) : mW g M x0 ad h0 Qm tt S pc ls (.ref x0 :: st) := m_getf (k := 5) d hM in7 (by decide) w978 rfl rfl kk
theorem mg_23 {g : xG} {M : xMeth} {x0 : Nat} {ad : Nat → Nat} {h0 : hp} {Qm : qS} {tt : Int} {S : gS} {pc : Nat} {ls : List (Option Value)} {st : List Value} (d : decode M.2.1 pc = .ok (.getfield 23, 3)) (hM : M.1 = "ContainerHostModel") (kk : mW g M x0 ad h0 Qm tt S (pc + 3) ls (.int (iI (S 6 0)) :: st)) : mW g M x0 ad h0 Qm tt S pc ls (.ref x0 :: st) := m_getf (k := 6) d hM in7 (by decide) w979 rfl rfl kk
theorem mgv_23 {g : xG} {M : xMeth} {x0 : Nat} {ad : Nat → Nat} {h0 : hp} {Qm : qS} {tt : Int} {S : gS} {pc : Nat} {ls : List (Option Value)} {st : List Value} (v : Int) (hv : S 6 0 = v) (d : decode M.2.1 pc = .ok (.getfield 23, 3)) (hM : M.1 = "ContainerHostModel") (kk : mW g M x0 ad h0 Qm tt S (pc + 3) ls (.int (iI v) :: st)) : mW g M x0 ad h0 Qm tt S pc ls (.ref x0 :: st) := mg_23 d hM (by rw [hv]; exact kk)
theorem mp_23 {g : xG} {M : xMeth} {x0 : Nat} {ad : Nat → Nat} {h0 : hp} {Qm : qS} {tt : Int} {S : gS} {pc : Nat} {ls : List (Option Value)} {st : List Value} {v : Int} (d : decode M.2.1 pc = .ok (.putfield 23, 3)) (hM : M.1 = "ContainerHostModel") (kk : mW g M x0 ad h0 Qm tt (sset S 6 0 v) (pc + 3) ls st) : mW g M x0 ad h0 Qm tt S pc ls (.int (iI v) :: .ref x0 :: st) := m_putf (k := 6) d hM in7 (by decide) w979 rfl rfl rfl rfl rfl kk
theorem mg_27 {g : xG} {M : xMeth} {x0 : Nat} {ad : Nat → Nat} {h0 : hp} {Qm : qS} {tt : Int} {S : gS} {pc : Nat} {ls : List (Option Value)} {st : List Value} (d : decode M.2.1 pc = .ok (.getfield 27, 3)) (hM : M.1 = "ContainerHostModel") (kk : mW g M x0 ad h0 Qm tt S (pc + 3) ls (.ref (ad 7) :: st)) : mW g M x0 ad h0 Qm tt S pc ls (.ref x0 :: st) := m_getf (k := 7) d hM in7 (by decide) w980 rfl rfl kk
theorem mg_30 {g : xG} {M : xMeth} {x0 : Nat} {ad : Nat → Nat} {h0 : hp} {Qm : qS} {tt : Int} {S : gS} {pc : Nat} {ls : List (Option Value)} {st : List Value} (d : decode M.2.1 pc = .ok (.getfield 30, 3)) (hM : M.1 = "ContainerHostModel") (kk : mW g M x0 ad h0 Qm tt S (pc + 3) ls (.ref (ad 8) :: st)) : mW g M x0 ad h0 Qm tt S pc ls (.ref x0 :: st) := m_getf (k := 8) d hM in7 (by decide) w981 rfl rfl kk
theorem mg_33 {g : xG} {M : xMeth} {x0 : Nat} {ad : Nat → Nat} {h0 : hp} {Qm : qS} {tt : Int} {S : gS} {pc : Nat} {ls : List (Option Value)} {st : List Value} (d : decode M.2.1 pc = .ok (.getfield 33, 3)) (hM : M.1 = "ContainerHostModel") (kk : mW g M x0 ad h0 Qm tt S (pc + 3) ls (.ref (ad 9) :: st)) : mW g M x0 ad h0 Qm tt S pc ls (.ref x0 :: st) := m_getf (k := 9) d hM in7 (by decide) w982 rfl rfl kk
theorem mg_36 {g : xG} {M : xMeth} {x0 : Nat} {ad : Nat → Nat} {h0 : hp} {Qm : qS} {tt : Int} {S : gS} {pc : Nat} {ls : List (Option Value)} {st : List Value} (d : decode M.2.1 pc = .ok (.getfield 36, 3)) (hM : M.1 = "ContainerHostModel") (kk : mW g M x0 ad h0 Qm tt S (pc + 3) ls (.ref (ad 10) :: st)) : mW g M x0 ad h0 Qm tt S pc ls (.ref x0 :: st) := m_getf (k := 10) d hM in7 (by decide) w983 rfl rfl kk
theorem mg_94 {g : xG} {M : xMeth} {x0 : Nat} {ad : Nat → Nat} {h0 : hp} {Qm : qS} {tt : Int} {S : gS} {pc : Nat} {ls : List (Option Value)} {st : List Value} (d : decode M.2.1 pc = .ok (.getfield 94, 3)) (hM : M.1 = "ContainerHostModel") (kk : mW g M x0 ad h0 Qm tt S (pc + 3) ls (.int (iI (S 11 0)) :: st)) : mW g M x0 ad h0 Qm tt S pc ls (.ref x0 :: st) := m_getf (k := 11) d hM in7 (by decide) w984 rfl rfl kk
theorem mgv_94 {g : xG} {M : xMeth} {x0 : Nat} {ad : Nat → Nat} {h0 : hp} {Qm : qS} {tt : Int} {S : gS} {pc : Nat} {ls : List (Option Value)} {st : List Value} (v : Int) (hv : S 11 0 = v) (d : decode M.2.1 pc = .ok (.getfield 94, 3)) (hM : M.1 = "ContainerHostModel") (kk : mW g M x0 ad h0 Qm tt S (pc + 3) ls (.int (iI v) :: st)) : mW g M x0 ad h0 Qm tt S pc ls (.ref x0 :: st) := mg_94 d hM (by rw [hv]; exact kk)
theorem mp_94 {g : xG} {M : xMeth} {x0 : Nat} {ad : Nat → Nat} {h0 : hp} {Qm : qS} {tt : Int} {S : gS} {pc : Nat} {ls : List (Option Value)} {st : List Value} {v : Int} (d : decode M.2.1 pc = .ok (.putfield 94, 3)) (hM : M.1 = "ContainerHostModel") (kk : mW g M x0 ad h0 Qm tt (sset S 11 0 v) (pc + 3) ls st) : mW g M x0 ad h0 Qm tt S pc ls (.int (iI v) :: .ref x0 :: st) := m_putf (k := 11) d hM in7 (by decide) w984 rfl rfl rfl rfl rfl kk
theorem mg_39 {g : xG} {M : xMeth} {x0 : Nat} {ad : Nat → Nat} {h0 : hp} {Qm : qS} {tt : Int} {S : gS} {pc : Nat} {ls : List (Option Value)} {st : List Value} (d : decode M.2.1 pc = .ok (.getfield 39, 3)) (hM : M.1 = "ContainerHostModel") (kk : mW g M x0 ad h0 Qm tt S (pc + 3) ls (.ref (ad 12) :: st)) : mW g M x0 ad h0 Qm tt S pc ls (.ref x0 :: st) := m_getf (k := 12) d hM in7 (by decide) w985 rfl rfl kk
theorem mg_42 {g : xG} {M : xMeth} {x0 : Nat} {ad : Nat → Nat} {h0 : hp} {Qm : qS} {tt : Int} {S : gS} {pc : Nat} {ls : List (Option Value)} {st : List Value} (d : decode M.2.1 pc = .ok (.getfield 42, 3)) (hM : M.1 = "ContainerHostModel") (kk : mW g M x0 ad h0 Qm tt S (pc + 3) ls (.ref (ad 13) :: st)) : mW g M x0 ad h0 Qm tt S pc ls (.ref x0 :: st) := m_getf (k := 13) d hM in7 (by decide) w986 rfl rfl kk
theorem mg_45 {g : xG} {M : xMeth} {x0 : Nat} {ad : Nat → Nat} {h0 : hp} {Qm : qS} {tt : Int} {S : gS} {pc : Nat} {ls : List (Option Value)} {st : List Value} (d : decode M.2.1 pc = .ok (.getfield 45, 3)) (hM : M.1 = "ContainerHostModel") (kk : mW g M x0 ad h0 Qm tt S (pc + 3) ls (.ref (ad 14) :: st)) : mW g M x0 ad h0 Qm tt S pc ls (.ref x0 :: st) := m_getf (k := 14) d hM in7 (by decide) w987 rfl rfl kk
theorem mg_48 {g : xG} {M : xMeth} {x0 : Nat} {ad : Nat → Nat} {h0 : hp} {Qm : qS} {tt : Int} {S : gS} {pc : Nat} {ls : List (Option Value)} {st : List Value} (d : decode M.2.1 pc = .ok (.getfield 48, 3)) (hM : M.1 = "ContainerHostModel") (kk : mW g M x0 ad h0 Qm tt S (pc + 3) ls (.ref (ad 15) :: st)) : mW g M x0 ad h0 Qm tt S pc ls (.ref x0 :: st) := m_getf (k := 15) d hM in7 (by decide) w988 rfl rfl kk
theorem mg_51 {g : xG} {M : xMeth} {x0 : Nat} {ad : Nat → Nat} {h0 : hp} {Qm : qS} {tt : Int} {S : gS} {pc : Nat} {ls : List (Option Value)} {st : List Value} (d : decode M.2.1 pc = .ok (.getfield 51, 3)) (hM : M.1 = "ContainerHostModel") (kk : mW g M x0 ad h0 Qm tt S (pc + 3) ls (.ref (ad 16) :: st)) : mW g M x0 ad h0 Qm tt S pc ls (.ref x0 :: st) := m_getf (k := 16) d hM in7 (by decide) w989 rfl rfl kk
theorem mg_54 {g : xG} {M : xMeth} {x0 : Nat} {ad : Nat → Nat} {h0 : hp} {Qm : qS} {tt : Int} {S : gS} {pc : Nat} {ls : List (Option Value)} {st : List Value} (d : decode M.2.1 pc = .ok (.getfield 54, 3)) (hM : M.1 = "ContainerHostModel") (kk : mW g M x0 ad h0 Qm tt S (pc + 3) ls (.ref (ad 17) :: st)) : mW g M x0 ad h0 Qm tt S pc ls (.ref x0 :: st) := m_getf (k := 17) d hM in7 (by decide) w990 rfl rfl kk
theorem mg_57 {g : xG} {M : xMeth} {x0 : Nat} {ad : Nat → Nat} {h0 : hp} {Qm : qS} {tt : Int} {S : gS} {pc : Nat} {ls : List (Option Value)} {st : List Value} (d : decode M.2.1 pc = .ok (.getfield 57, 3)) (hM : M.1 = "ContainerHostModel") (kk : mW g M x0 ad h0 Qm tt S (pc + 3) ls (.ref (ad 18) :: st)) : mW g M x0 ad h0 Qm tt S pc ls (.ref x0 :: st) := m_getf (k := 18) d hM in7 (by decide) w991 rfl rfl kk
theorem mg_60 {g : xG} {M : xMeth} {x0 : Nat} {ad : Nat → Nat} {h0 : hp} {Qm : qS} {tt : Int} {S : gS} {pc : Nat} {ls : List (Option Value)} {st : List Value} (d : decode M.2.1 pc = .ok (.getfield 60, 3)) (hM : M.1 = "ContainerHostModel") (kk : mW g M x0 ad h0 Qm tt S (pc + 3) ls (.ref (ad 19) :: st)) : mW g M x0 ad h0 Qm tt S pc ls (.ref x0 :: st) := m_getf (k := 19) d hM in7 (by decide) w992 rfl rfl kk
theorem mg_63 {g : xG} {M : xMeth} {x0 : Nat} {ad : Nat → Nat} {h0 : hp} {Qm : qS} {tt : Int} {S : gS} {pc : Nat} {ls : List (Option Value)} {st : List Value} (d : decode M.2.1 pc = .ok (.getfield 63, 3)) (hM : M.1 = "ContainerHostModel") (kk : mW g M x0 ad h0 Qm tt S (pc + 3) ls (.ref (ad 20) :: st)) : mW g M x0 ad h0 Qm tt S pc ls (.ref x0 :: st) := m_getf (k := 20) d hM in7 (by decide) w993 rfl rfl kk
theorem mg_66 {g : xG} {M : xMeth} {x0 : Nat} {ad : Nat → Nat} {h0 : hp} {Qm : qS} {tt : Int} {S : gS} {pc : Nat} {ls : List (Option Value)} {st : List Value} (d : decode M.2.1 pc = .ok (.getfield 66, 3)) (hM : M.1 = "ContainerHostModel") (kk : mW g M x0 ad h0 Qm tt S (pc + 3) ls (.ref (ad 21) :: st)) : mW g M x0 ad h0 Qm tt S pc ls (.ref x0 :: st) := m_getf (k := 21) d hM in7 (by decide) w994 rfl rfl kk
theorem mg_69 {g : xG} {M : xMeth} {x0 : Nat} {ad : Nat → Nat} {h0 : hp} {Qm : qS} {tt : Int} {S : gS} {pc : Nat} {ls : List (Option Value)} {st : List Value} (d : decode M.2.1 pc = .ok (.getfield 69, 3)) (hM : M.1 = "ContainerHostModel") (kk : mW g M x0 ad h0 Qm tt S (pc + 3) ls (.ref (ad 22) :: st)) : mW g M x0 ad h0 Qm tt S pc ls (.ref x0 :: st) := m_getf (k := 22) d hM in7 (by decide) w995 rfl rfl kk
theorem mg_198 {g : xG} {M : xMeth} {x0 : Nat} {ad : Nat → Nat} {h0 : hp} {Qm : qS} {tt : Int} {S : gS} {pc : Nat} {ls : List (Option Value)} {st : List Value} (d : decode M.2.1 pc = .ok (.getfield 198, 3)) (hM : M.1 = "ContainerHostModel") (kk : mW g M x0 ad h0 Qm tt S (pc + 3) ls (.int (iI (S 23 0)) :: st)) : mW g M x0 ad h0 Qm tt S pc ls (.ref x0 :: st) := m_getf (k := 23) d hM in7 (by decide) w996 rfl rfl kk
theorem mgv_198 {g : xG} {M : xMeth} {x0 : Nat} {ad : Nat → Nat} {h0 : hp} {Qm : qS} {tt : Int} {S : gS} {pc : Nat} {ls : List (Option Value)} {st : List Value} (v : Int) (hv : S 23 0 = v) (d : decode M.2.1 pc = .ok (.getfield 198, 3)) (hM : M.1 = "ContainerHostModel") (kk : mW g M x0 ad h0 Qm tt S (pc + 3) ls (.int (iI v) :: st)) : mW g M x0 ad h0 Qm tt S pc ls (.ref x0 :: st) := mg_198 d hM (by rw [hv]; exact kk)
theorem mp_198 {g : xG} {M : xMeth} {x0 : Nat} {ad : Nat → Nat} {h0 : hp} {Qm : qS} {tt : Int} {S : gS} {pc : Nat} {ls : List (Option Value)} {st : List Value} {v : Int} (d : decode M.2.1 pc = .ok (.putfield 198, 3)) (hM : M.1 = "ContainerHostModel") (kk : mW g M x0 ad h0 Qm tt (sset S 23 0 v) (pc + 3) ls st) : mW g M x0 ad h0 Qm tt S pc ls (.int (iI v) :: .ref x0 :: st) := m_putf (k := 23) d hM in7 (by decide) w996 rfl rfl rfl rfl rfl kk
theorem mg_72 {g : xG} {M : xMeth} {x0 : Nat} {ad : Nat → Nat} {h0 : hp} {Qm : qS} {tt : Int} {S : gS} {pc : Nat} {ls : List (Option Value)} {st : List Value} (d : decode M.2.1 pc = .ok (.getfield 72, 3)) (hM : M.1 = "ContainerHostModel") (kk : mW g M x0 ad h0 Qm tt S (pc + 3) ls (.ref (ad 24) :: st)) : mW g M x0 ad h0 Qm tt S pc ls (.ref x0 :: st) := m_getf (k := 24) d hM in7 (by decide) w997 rfl rfl kk
theorem mg_75 {g : xG} {M : xMeth} {x0 : Nat} {ad : Nat → Nat} {h0 : hp} {Qm : qS} {tt : Int} {S : gS} {pc : Nat} {ls : List (Option Value)} {st : List Value} (d : decode M.2.1 pc = .ok (.getfield 75, 3)) (hM : M.1 = "ContainerHostModel") (kk : mW g M x0 ad h0 Qm tt S (pc + 3) ls (.ref (ad 25) :: st)) : mW g M x0 ad h0 Qm tt S pc ls (.ref x0 :: st) := m_getf (k := 25) d hM in7 (by decide) w998 rfl rfl kk
theorem mg_78 {g : xG} {M : xMeth} {x0 : Nat} {ad : Nat → Nat} {h0 : hp} {Qm : qS} {tt : Int} {S : gS} {pc : Nat} {ls : List (Option Value)} {st : List Value} (d : decode M.2.1 pc = .ok (.getfield 78, 3)) (hM : M.1 = "ContainerHostModel") (kk : mW g M x0 ad h0 Qm tt S (pc + 3) ls (.ref (ad 26) :: st)) : mW g M x0 ad h0 Qm tt S pc ls (.ref x0 :: st) := m_getf (k := 26) d hM in7 (by decide) w999 rfl rfl kk
theorem mg_81 {g : xG} {M : xMeth} {x0 : Nat} {ad : Nat → Nat} {h0 : hp} {Qm : qS} {tt : Int} {S : gS} {pc : Nat} {ls : List (Option Value)} {st : List Value} (d : decode M.2.1 pc = .ok (.getfield 81, 3)) (hM : M.1 = "ContainerHostModel") (kk : mW g M x0 ad h0 Qm tt S (pc + 3) ls (.ref (ad 27) :: st)) : mW g M x0 ad h0 Qm tt S pc ls (.ref x0 :: st) := m_getf (k := 27) d hM in7 (by decide) w1000 rfl rfl kk
