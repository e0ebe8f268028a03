abbrev c_h_init : ByteArray := prog_1_method_1_code
abbrev y_h_init : MethodName := { cls := "ContainerHost", name := "<init>", desc := "()V" }
abbrev k_h_init : Cond := .code y_h_init c_h_init 1 (Option.none : Option FieldType)
abbrev M_h_init : xMeth := ("ContainerHost", c_h_init, 1, (Option.none : Option FieldType), "<init>", [], ({ frames := 8, cells := 9, slots := 135, locals := 191 } : Room))
theorem e_h_init : k_h_init ∈ lw_tbl := mt (i := 28) (by decide +kernel)
abbrev c_al_init : ByteArray := prog_25_method_2_code
abbrev y_al_init : MethodName := { cls := "java/util/ArrayList", name := "<init>", desc := "()V" }
abbrev k_al_init : Cond := .code y_al_init c_al_init 1 (Option.none : Option FieldType)
abbrev M_al_init : xMeth := ("java/util/ArrayList", c_al_init, 1, (Option.none : Option FieldType), "<init>", [], ({ frames := 3, cells := 0, slots := 0, locals := 60 } : Room))
theorem e_al_init : k_al_init ∈ lw_tbl := mt (i := 36) (by decide +kernel)
abbrev c_abl_init : ByteArray := prog_24_method_1_code
abbrev y_abl_init : MethodName := { cls := "java/util/AbstractList", name := "<init>", desc := "()V" }
abbrev k_abl_init : Cond := .code y_abl_init c_abl_init 1 (Option.none : Option FieldType)
abbrev M_abl_init : xMeth := ("java/util/AbstractList", c_abl_init, 1, (Option.none : Option FieldType), "<init>", [], ({ frames := 2, cells := 0, slots := 0, locals := 40 } : Room))
theorem e_abl_init : k_abl_init ∈ lw_tbl := mt (i := 39) (by decide +kernel)
abbrev c_abc_init : ByteArray := prog_23_method_1_code
abbrev y_abc_init : MethodName := { cls := "java/util/AbstractCollection", name := "<init>", desc := "()V" }
abbrev k_abc_init : Cond := .code y_abc_init c_abc_init 1 (Option.none : Option FieldType)
abbrev M_abc_init : xMeth := ("java/util/AbstractCollection", c_abc_init, 1, (Option.none : Option FieldType), "<init>", [], ({ frames := 1, cells := 0, slots := 0, locals := 20 } : Room))
theorem e_abc_init : k_abc_init ∈ lw_tbl := mt (i := 42) (by decide +kernel)
abbrev c_g_init : ByteArray := prog_4_method_1_code
abbrev y_g_init : MethodName := { cls := "ContainerHost$Group", name := "<init>", desc := "(LContainerHost$Group;III)V" }
abbrev k_g_init : Cond := .code y_g_init c_g_init 5 (Option.none : Option FieldType)
abbrev M_g_init : xMeth := ("ContainerHost$Group", c_g_init, 5, (Option.none : Option FieldType), "<init>", [], ({ frames := 2, cells := 0, slots := 0, locals := 41 } : Room))
theorem e_g_init : k_g_init ∈ lw_tbl := mt (i := 64) (by decide +kernel)
abbrev c_p_init : ByteArray := prog_7_method_1_code
abbrev y_p_init : MethodName := { cls := "ContainerHost$Part", name := "<init>", desc := "(I)V" }
abbrev k_p_init : Cond := .code y_p_init c_p_init 2 (Option.none : Option FieldType)
abbrev M_p_init : xMeth := ("ContainerHost$Part", c_p_init, 2, (Option.none : Option FieldType), "<init>", [], ({ frames := 1, cells := 0, slots := 0, locals := 20 } : Room))
theorem e_p_init : k_p_init ∈ lw_tbl := mt (i := 67) (by decide +kernel)
abbrev c_al_add_ngObject21 : ByteArray := prog_25_method_25_code
abbrev y_al_add_ngObject21 : MethodName := { cls := "java/util/ArrayList", name := "add", desc := "(Ljava/lang/Object;)Z" }
abbrev k_al_add_ngObject21 : Cond := .code y_al_add_ngObject21 c_al_add_ngObject21 2 (Option.some FieldType.boolean)
abbrev M_al_add_ngObject21 : xMeth := ("java/util/ArrayList", c_al_add_ngObject21, 2, (Option.some FieldType.boolean), "add", [], ({ frames := 7, cells := 1, slots := 33, locals := 170 } : Room))
theorem e_al_add_ngObject21 : k_al_add_ngObject21 ∈ lw_tbl := mt (i := 108) (by decide +kernel)
abbrev c_al_add_gObjectI41 : ByteArray := prog_25_method_24_code
abbrev y_al_add_gObjectI41 : MethodName := { cls := "java/util/ArrayList", name := "add", desc := "(Ljava/lang/Object;[Ljava/lang/Object;I)V" }
abbrev k_al_add_gObjectI41 : Cond := .code y_al_add_gObjectI41 c_al_add_gObjectI41 4 (Option.none : Option FieldType)
abbrev M_al_add_gObjectI41 : xMeth := ("java/util/ArrayList", c_al_add_gObjectI41, 4, (Option.none : Option FieldType), "add", [], ({ frames := 6, cells := 1, slots := 33, locals := 147 } : Room))
theorem e_al_add_gObjectI41 : k_al_add_gObjectI41 ∈ lw_tbl := mt (i := 112) (by decide +kernel)
abbrev c_al_grow_21 : ByteArray := prog_25_method_7_code
abbrev y_al_grow_21 : MethodName := { cls := "java/util/ArrayList", name := "grow", desc := "()[Ljava/lang/Object;" }
abbrev k_al_grow_21 : Cond := .code y_al_grow_21 c_al_grow_21 1 (Option.some (FieldType.array (FieldType.object "java/lang/Object")))
abbrev M_al_grow_21 : xMeth := ("java/util/ArrayList", c_al_grow_21, 1, (Option.some (FieldType.array (FieldType.object "java/lang/Object"))), "grow", [], ({ frames := 5, cells := 1, slots := 33, locals := 127 } : Room))
theorem e_al_grow_21 : k_al_grow_21 ∈ lw_tbl := mt (i := 116) (by decide +kernel)
abbrev c_al_grow_I22 : ByteArray := prog_25_method_6_code
abbrev y_al_grow_I22 : MethodName := { cls := "java/util/ArrayList", name := "grow", desc := "(I)[Ljava/lang/Object;" }
abbrev k_al_grow_I22 : Cond := .code y_al_grow_I22 c_al_grow_I22 4 (Option.some (FieldType.array (FieldType.object "java/lang/Object")))
abbrev M_al_grow_I22 : xMeth := ("java/util/ArrayList", c_al_grow_I22, 4, (Option.some (FieldType.array (FieldType.object "java/lang/Object"))), "grow", [], ({ frames := 4, cells := 1, slots := 33, locals := 104 } : Room))
theorem e_al_grow_I22 : k_al_grow_I22 ∈ lw_tbl := mt (i := 120) (by decide +kernel)
abbrev c_as_newLength : ByteArray := prog_32_method_27_code
abbrev y_as_newLength : MethodName := { cls := "jdk/internal/util/ArraysSupport", name := "newLength", desc := "(III)I" }
abbrev k_as_newLength : Cond := .code y_as_newLength c_as_newLength 4 (Option.some FieldType.int)
abbrev M_as_newLength : xMeth := ("jdk/internal/util/ArraysSupport", c_as_newLength, 4, (Option.some FieldType.int), "newLength", [], ({ frames := 1, cells := 0, slots := 0, locals := 21 } : Room))
theorem e_as_newLength : k_as_newLength ∈ lw_tbl := mt (i := 123) (by decide +kernel)
abbrev c_ma_max : ByteArray := prog_18_method_65_code
abbrev y_ma_max : MethodName := { cls := "java/lang/Math", name := "max", desc := "(II)I" }
abbrev k_ma_max : Cond := .code y_ma_max c_ma_max 2 (Option.some FieldType.int)
abbrev M_ma_max : xMeth := ("java/lang/Math", c_ma_max, 2, (Option.some FieldType.int), "max", [], ({ frames := 0, cells := 0, slots := 0, locals := 0 } : Room))
theorem e_ma_max : k_ma_max ∈ lw_tbl := mt (i := 126) (by decide +kernel)
abbrev c_ar_copyOf_gObjectI41 : ByteArray := prog_26_method_119_code
abbrev y_ar_copyOf_gObjectI41 : MethodName := { cls := "java/util/Arrays", name := "copyOf", desc := "([Ljava/lang/Object;I)[Ljava/lang/Object;" }
abbrev k_ar_copyOf_gObjectI41 : Cond := .code y_ar_copyOf_gObjectI41 c_ar_copyOf_gObjectI41 2 (Option.some (FieldType.array (FieldType.object "java/lang/Object")))
abbrev M_ar_copyOf_gObjectI41 : xMeth := ("java/util/Arrays", c_ar_copyOf_gObjectI41, 2, (Option.some (FieldType.array (FieldType.object "java/lang/Object"))), "copyOf", [], ({ frames := 3, cells := 1, slots := 33, locals := 83 } : Room))
theorem e_ar_copyOf_gObjectI41 : k_ar_copyOf_gObjectI41 ∈ lw_tbl := mt (i := 133) (by decide +kernel)
abbrev c_ar_copyOf_angClass58 : ByteArray := prog_26_method_120_code
abbrev y_ar_copyOf_angClass58 : MethodName := { cls := "java/util/Arrays", name := "copyOf", desc := "([Ljava/lang/Object;ILjava/lang/Class;)[Ljava/lang/Object;" }
abbrev k_ar_copyOf_angClass58 : Cond := .code y_ar_copyOf_angClass58 c_ar_copyOf_angClass58 4 (Option.some (FieldType.array (FieldType.object "java/lang/Object")))
abbrev M_ar_copyOf_angClass58 : xMeth := ("java/util/Arrays", c_ar_copyOf_angClass58, 4, (Option.some (FieldType.array (FieldType.object "java/lang/Object"))), "copyOf", [], ({ frames := 2, cells := 1, slots := 33, locals := 60 } : Room))
theorem e_ar_copyOf_angClass58 : k_ar_copyOf_angClass58 ∈ lw_tbl := mt (i := 150) (by decide +kernel)
abbrev c_ma_min : ByteArray := prog_18_method_69_code
abbrev y_ma_min : MethodName := { cls := "java/lang/Math", name := "min", desc := "(II)I" }
abbrev k_ma_min : Cond := .code y_ma_min c_ma_min 2 (Option.some FieldType.int)
abbrev M_ma_min : xMeth := ("java/lang/Math", c_ma_min, 2, (Option.some FieldType.int), "min", [], ({ frames := 0, cells := 0, slots := 0, locals := 0 } : Room))
theorem e_ma_min : k_ma_min ∈ lw_tbl := mt (i := 156) (by decide +kernel)
abbrev c_h_containers : ByteArray := prog_1_method_38_code
abbrev y_h_containers : MethodName := { cls := "ContainerHost", name := "containers", desc := "()I" }
abbrev k_h_containers : Cond := .code y_h_containers c_h_containers 1 (Option.some FieldType.int)
abbrev M_h_containers : xMeth := ("ContainerHost", c_h_containers, 1, (Option.some FieldType.int), "containers", [], ({ frames := 1, cells := 0, slots := 0, locals := 20 } : Room))
theorem e_h_containers : k_h_containers ∈ lw_tbl := mt (i := 342) (by decide +kernel)
abbrev c_al_size : ByteArray := prog_25_method_8_code
abbrev y_al_size : MethodName := { cls := "java/util/ArrayList", name := "size", desc := "()I" }
abbrev k_al_size : Cond := .code y_al_size c_al_size 1 (Option.some FieldType.int)
abbrev M_al_size : xMeth := ("java/util/ArrayList", c_al_size, 1, (Option.some FieldType.int), "size", [], ({ frames := 0, cells := 0, slots := 0, locals := 0 } : Room))
theorem e_al_size : k_al_size ∈ lw_tbl := mt (i := 195) (by decide +kernel)
abbrev c_h_newImage : ByteArray := prog_1_method_2_code
abbrev y_h_newImage : MethodName := { cls := "ContainerHost", name := "newImage", desc := "(I)I" }
abbrev k_h_newImage : Cond := .code y_h_newImage c_h_newImage 3 (Option.some FieldType.int)
abbrev M_h_newImage : xMeth := ("ContainerHost", c_h_newImage, 3, (Option.some FieldType.int), "newImage", [], ({ frames := 9, cells := 7, slots := 97, locals := 213 } : Room))
theorem e_h_newImage : k_h_newImage ∈ lw_tbl := mt (i := 355) (by decide +kernel)
abbrev c_h_imageAt : ByteArray := prog_1_method_44_code
abbrev y_h_imageAt : MethodName := { cls := "ContainerHost", name := "imageAt", desc := "(I)LContainerHost$Image;" }
abbrev k_h_imageAt : Cond := .code y_h_imageAt c_h_imageAt 2 (Option.some (FieldType.object "ContainerHost$Image"))
abbrev M_h_imageAt : xMeth := ("ContainerHost", c_h_imageAt, 2, (Option.some (FieldType.object "ContainerHost$Image")), "imageAt", [], ({ frames := 6, cells := 1, slots := 6, locals := 92 } : Room))
theorem e_h_imageAt : k_h_imageAt ∈ lw_tbl := mt (i := 359) (by decide +kernel)
abbrev c_al_get : ByteArray := prog_25_method_20_code
abbrev y_al_get : MethodName := { cls := "java/util/ArrayList", name := "get", desc := "(I)Ljava/lang/Object;" }
abbrev k_al_get : Cond := .code y_al_get c_al_get 2 (Option.some (FieldType.object "java/lang/Object"))
abbrev M_al_get : xMeth := ("java/util/ArrayList", c_al_get, 2, (Option.some (FieldType.object "java/lang/Object")), "get", [], ({ frames := 2, cells := 0, slots := 0, locals := 43 } : Room))
theorem e_al_get : k_al_get ∈ lw_tbl := mt (i := 267) (by decide +kernel)
abbrev c_ob_checkIndex : ByteArray := prog_29_method_17_code
abbrev y_ob_checkIndex : MethodName := { cls := "java/util/Objects", name := "checkIndex", desc := "(II)I" }
abbrev k_ob_checkIndex : Cond := .code y_ob_checkIndex c_ob_checkIndex 2 (Option.some FieldType.int)
abbrev M_ob_checkIndex : xMeth := ("java/util/Objects", c_ob_checkIndex, 2, (Option.some FieldType.int), "checkIndex", [], ({ frames := 1, cells := 0, slots := 0, locals := 22 } : Room))
theorem e_ob_checkIndex : k_ob_checkIndex ∈ lw_tbl := mt (i := 270) (by decide +kernel)
abbrev c_pr_checkIndex : ByteArray := prog_33_method_11_code
abbrev y_pr_checkIndex : MethodName := { cls := "jdk/internal/util/Preconditions", name := "checkIndex", desc := "(IILjava/util/function/BiFunction;)I" }
abbrev k_pr_checkIndex : Cond := .code y_pr_checkIndex c_pr_checkIndex 3 (Option.some FieldType.int)
abbrev M_pr_checkIndex : xMeth := ("jdk/internal/util/Preconditions", c_pr_checkIndex, 3, (Option.some FieldType.int), "checkIndex", [], ({ frames := 0, cells := 0, slots := 0, locals := 0 } : Room))
theorem e_pr_checkIndex : k_pr_checkIndex ∈ lw_tbl := mt (i := 273) (by decide +kernel)
abbrev c_al_elementData : ByteArray := prog_25_method_18_code
abbrev y_al_elementData : MethodName := { cls := "java/util/ArrayList", name := "elementData", desc := "(I)Ljava/lang/Object;" }
abbrev k_al_elementData : Cond := .code y_al_elementData c_al_elementData 2 (Option.some (FieldType.object "java/lang/Object"))
abbrev M_al_elementData : xMeth := ("java/util/ArrayList", c_al_elementData, 2, (Option.some (FieldType.object "java/lang/Object")), "elementData", [], ({ frames := 0, cells := 0, slots := 0, locals := 0 } : Room))
theorem e_al_elementData : k_al_elementData ∈ lw_tbl := mt (i := 277) (by decide +kernel)
abbrev c_h_baseLayer : ByteArray := prog_1_method_62_code
abbrev y_h_baseLayer : MethodName := { cls := "ContainerHost", name := "baseLayer", desc := "(LContainerHost$Image;)LContainerHost$Layer;" }
abbrev k_h_baseLayer : Cond := .code y_h_baseLayer c_h_baseLayer 1 (Option.some (FieldType.object "ContainerHost$Layer"))
abbrev M_h_baseLayer : xMeth := ("ContainerHost", c_h_baseLayer, 1, (Option.some (FieldType.object "ContainerHost$Layer")), "baseLayer", [], ({ frames := 6, cells := 1, slots := 6, locals := 92 } : Room))
theorem e_h_baseLayer : k_h_baseLayer ∈ lw_tbl := mt (i := 364) (by decide +kernel)
abbrev c_h_requireImageSlot : ByteArray := prog_1_method_55_code
abbrev y_h_requireImageSlot : MethodName := { cls := "ContainerHost", name := "requireImageSlot", desc := "()V" }
abbrev k_h_requireImageSlot : Cond := .code y_h_requireImageSlot c_h_requireImageSlot 1 (Option.none : Option FieldType)
abbrev M_h_requireImageSlot : xMeth := ("ContainerHost", c_h_requireImageSlot, 1, (Option.none : Option FieldType), "requireImageSlot", [], ({ frames := 6, cells := 1, slots := 6, locals := 92 } : Room))
theorem e_h_requireImageSlot : k_h_requireImageSlot ∈ lw_tbl := mt (i := 384) (by decide +kernel)
abbrev c_l_init : ByteArray := prog_6_method_1_code
abbrev y_l_init : MethodName := { cls := "ContainerHost$Layer", name := "<init>", desc := "(LContainerHost$Layer;)V" }
abbrev k_l_init : Cond := .code y_l_init c_l_init 2 (Option.none : Option FieldType)
abbrev M_l_init : xMeth := ("ContainerHost$Layer", c_l_init, 2, (Option.none : Option FieldType), "<init>", [], ({ frames := 1, cells := 1, slots := 40, locals := 20 } : Room))
theorem e_l_init : k_l_init ∈ lw_tbl := mt (i := 390) (by decide +kernel)
abbrev c_h_addImage : ByteArray := prog_1_method_63_code
abbrev y_h_addImage : MethodName := { cls := "ContainerHost", name := "addImage", desc := "(LContainerHost$Layer;Z)I" }
abbrev k_h_addImage : Cond := .code y_h_addImage c_h_addImage 3 (Option.some FieldType.int)
abbrev M_h_addImage : xMeth := ("ContainerHost", c_h_addImage, 3, (Option.some FieldType.int), "addImage", [], ({ frames := 8, cells := 2, slots := 35, locals := 191 } : Room))
theorem e_h_addImage : k_h_addImage ∈ lw_tbl := mt (i := 410) (by decide +kernel)
abbrev c_i_init : ByteArray := prog_5_method_1_code
abbrev y_i_init : MethodName := { cls := "ContainerHost$Image", name := "<init>", desc := "(LContainerHost$Layer;Z)V" }
abbrev k_i_init : Cond := .code y_i_init c_i_init 3 (Option.none : Option FieldType)
abbrev M_i_init : xMeth := ("ContainerHost$Image", c_i_init, 3, (Option.none : Option FieldType), "<init>", [], ({ frames := 1, cells := 0, slots := 0, locals := 20 } : Room))
theorem e_i_init : k_i_init ∈ lw_tbl := mt (i := 414) (by decide +kernel)
abbrev c_h_write : ByteArray := prog_1_method_3_code
abbrev y_h_write : MethodName := { cls := "ContainerHost", name := "write", desc := "(III)I" }
abbrev k_h_write : Cond := .code y_h_write c_h_write 6 (Option.some FieldType.int)
abbrev M_h_write : xMeth := ("ContainerHost", c_h_write, 6, (Option.some FieldType.int), "write", [], ({ frames := 7, cells := 4, slots := 24, locals := 113 } : Room))
theorem e_h_write : k_h_write ∈ lw_tbl := mt (i := 470) (by decide +kernel)
abbrev c_h_requireFile : ByteArray := prog_1_method_49_code
abbrev y_h_requireFile : MethodName := { cls := "ContainerHost", name := "requireFile", desc := "(I)V" }
abbrev k_h_requireFile : Cond := .code y_h_requireFile c_h_requireFile 1 (Option.none : Option FieldType)
abbrev M_h_requireFile : xMeth := ("ContainerHost", c_h_requireFile, 1, (Option.none : Option FieldType), "requireFile", [], ({ frames := 6, cells := 1, slots := 6, locals := 92 } : Room))
theorem e_h_requireFile : k_h_requireFile ∈ lw_tbl := mt (i := 450) (by decide +kernel)
abbrev c_h_requireWithin : ByteArray := prog_1_method_53_code
abbrev y_h_requireWithin : MethodName := { cls := "ContainerHost", name := "requireWithin", desc := "(II)V" }
abbrev k_h_requireWithin : Cond := .code y_h_requireWithin c_h_requireWithin 2 (Option.none : Option FieldType)
abbrev M_h_requireWithin : xMeth := ("ContainerHost", c_h_requireWithin, 2, (Option.none : Option FieldType), "requireWithin", [], ({ frames := 6, cells := 1, slots := 6, locals := 92 } : Room))
theorem e_h_requireWithin : k_h_requireWithin ∈ lw_tbl := mt (i := 284) (by decide +kernel)
abbrev c_h_requireOpen : ByteArray := prog_1_method_54_code
abbrev y_h_requireOpen : MethodName := { cls := "ContainerHost", name := "requireOpen", desc := "(LContainerHost$Image;)V" }
abbrev k_h_requireOpen : Cond := .code y_h_requireOpen c_h_requireOpen 1 (Option.none : Option FieldType)
abbrev M_h_requireOpen : xMeth := ("ContainerHost", c_h_requireOpen, 1, (Option.none : Option FieldType), "requireOpen", [], ({ frames := 6, cells := 1, slots := 6, locals := 92 } : Room))
theorem e_h_requireOpen : k_h_requireOpen ∈ lw_tbl := mt (i := 473) (by decide +kernel)
abbrev c_l_fileSeen : ByteArray := prog_6_method_6_code
abbrev y_l_fileSeen : MethodName := { cls := "ContainerHost$Layer", name := "fileSeen", desc := "(I)I" }
abbrev k_l_fileSeen : Cond := .code y_l_fileSeen c_l_fileSeen 3 (Option.some FieldType.int)
abbrev M_l_fileSeen : xMeth := ("ContainerHost$Layer", c_l_fileSeen, 3, (Option.some FieldType.int), "fileSeen", [], ({ frames := 2, cells := 0, slots := 0, locals := 44 } : Room))
theorem e_l_fileSeen : k_l_fileSeen ∈ lw_tbl := mt (i := 455) (by decide +kernel)
abbrev c_l_hidesBelow : ByteArray := prog_6_method_4_code
abbrev y_l_hidesBelow : MethodName := { cls := "ContainerHost$Layer", name := "hidesBelow", desc := "(I)Z" }
abbrev k_l_hidesBelow : Cond := .code y_l_hidesBelow c_l_hidesBelow 2 (Option.some FieldType.boolean)
abbrev M_l_hidesBelow : xMeth := ("ContainerHost$Layer", c_l_hidesBelow, 2, (Option.some FieldType.boolean), "hidesBelow", [], ({ frames := 0, cells := 0, slots := 0, locals := 0 } : Room))
theorem e_l_hidesBelow : k_l_hidesBelow ∈ lw_tbl := mt (i := 459) (by decide +kernel)
abbrev c_l_laidOver : ByteArray := prog_6_method_9_code
abbrev y_l_laidOver : MethodName := { cls := "ContainerHost$Layer", name := "laidOver", desc := "(II)I" }
abbrev k_l_laidOver : Cond := .code y_l_laidOver c_l_laidOver 4 (Option.some FieldType.int)
abbrev M_l_laidOver : xMeth := ("ContainerHost$Layer", c_l_laidOver, 4, (Option.some FieldType.int), "laidOver", [], ({ frames := 1, cells := 0, slots := 0, locals := 21 } : Room))
theorem e_l_laidOver : k_l_laidOver ∈ lw_tbl := mt (i := 463) (by decide +kernel)
abbrev c_h_remove : ByteArray := prog_1_method_4_code
abbrev y_h_remove : MethodName := { cls := "ContainerHost", name := "remove", desc := "(II)I" }
abbrev k_h_remove : Cond := .code y_h_remove c_h_remove 4 (Option.some FieldType.int)
abbrev M_h_remove : xMeth := ("ContainerHost", c_h_remove, 4, (Option.some FieldType.int), "remove", [], ({ frames := 7, cells := 4, slots := 24, locals := 114 } : Room))
theorem e_h_remove : k_h_remove ∈ lw_tbl := mt (i := 478) (by decide +kernel)
abbrev c_h_whiteOut : ByteArray := prog_1_method_64_code
abbrev y_h_whiteOut : MethodName := { cls := "ContainerHost", name := "whiteOut", desc := "(LContainerHost$Layer;I)I" }
abbrev k_h_whiteOut : Cond := .code y_h_whiteOut c_h_whiteOut 3 (Option.some FieldType.int)
abbrev M_h_whiteOut : xMeth := ("ContainerHost", c_h_whiteOut, 3, (Option.some FieldType.int), "whiteOut", [], ({ frames := 6, cells := 1, slots := 6, locals := 92 } : Room))
theorem e_h_whiteOut : k_h_whiteOut ∈ lw_tbl := mt (i := 481) (by decide +kernel)
abbrev c_h_clear : ByteArray := prog_1_method_5_code
abbrev y_h_clear : MethodName := { cls := "ContainerHost", name := "clear", desc := "(II)I" }
abbrev k_h_clear : Cond := .code y_h_clear c_h_clear 5 (Option.some FieldType.int)
abbrev M_h_clear : xMeth := ("ContainerHost", c_h_clear, 5, (Option.some FieldType.int), "clear", [], ({ frames := 7, cells := 3, slots := 18, locals := 113 } : Room))
theorem e_h_clear : k_h_clear ∈ lw_tbl := mt (i := 486) (by decide +kernel)
abbrev c_l_filesSeenIn : ByteArray := prog_6_method_7_code
abbrev y_l_filesSeenIn : MethodName := { cls := "ContainerHost$Layer", name := "filesSeenIn", desc := "(I)I" }
abbrev k_l_filesSeenIn : Cond := .code y_l_filesSeenIn c_l_filesSeenIn 4 (Option.some FieldType.int)
abbrev M_l_filesSeenIn : xMeth := ("ContainerHost$Layer", c_l_filesSeenIn, 4, (Option.some FieldType.int), "filesSeenIn", [], ({ frames := 3, cells := 0, slots := 0, locals := 66 } : Room))
theorem e_l_filesSeenIn : k_l_filesSeenIn ∈ lw_tbl := mt (i := 491) (by decide +kernel)
abbrev c_l_makeOpaque : ByteArray := prog_6_method_3_code
abbrev y_l_makeOpaque : MethodName := { cls := "ContainerHost$Layer", name := "makeOpaque", desc := "(I)V" }
abbrev k_l_makeOpaque : Cond := .code y_l_makeOpaque c_l_makeOpaque 3 (Option.none : Option FieldType)
abbrev M_l_makeOpaque : xMeth := ("ContainerHost$Layer", c_l_makeOpaque, 3, (Option.none : Option FieldType), "makeOpaque", [], ({ frames := 0, cells := 0, slots := 0, locals := 0 } : Room))
theorem e_l_makeOpaque : k_l_makeOpaque ∈ lw_tbl := mt (i := 496) (by decide +kernel)
abbrev c_h_seal : ByteArray := prog_1_method_6_code
abbrev y_h_seal : MethodName := { cls := "ContainerHost", name := "seal", desc := "(I)I" }
abbrev k_h_seal : Cond := .code y_h_seal c_h_seal 3 (Option.some FieldType.int)
abbrev M_h_seal : xMeth := ("ContainerHost", c_h_seal, 3, (Option.some FieldType.int), "seal", [], ({ frames := 7, cells := 2, slots := 12, locals := 113 } : Room))
theorem e_h_seal : k_h_seal ∈ lw_tbl := mt (i := 500) (by decide +kernel)
abbrev c_h_shown : ByteArray := prog_1_method_7_code
abbrev y_h_shown : MethodName := { cls := "ContainerHost", name := "shown", desc := "(II)I" }
abbrev k_h_shown : Cond := .code y_h_shown c_h_shown 4 (Option.some FieldType.int)
abbrev M_h_shown : xMeth := ("ContainerHost", c_h_shown, 4, (Option.some FieldType.int), "shown", [], ({ frames := 7, cells := 2, slots := 12, locals := 113 } : Room))
theorem e_h_shown : k_h_shown ∈ lw_tbl := mt (i := 447) (by decide +kernel)
abbrev c_h_entries : ByteArray := prog_1_method_8_code
abbrev y_h_entries : MethodName := { cls := "ContainerHost", name := "entries", desc := "(II)I" }
abbrev k_h_entries : Cond := .code y_h_entries c_h_entries 5 (Option.some FieldType.int)
abbrev M_h_entries : xMeth := ("ContainerHost", c_h_entries, 5, (Option.some FieldType.int), "entries", [], ({ frames := 7, cells := 2, slots := 12, locals := 113 } : Room))
theorem e_h_entries : k_h_entries ∈ lw_tbl := mt (i := 428) (by decide +kernel)
abbrev c_l_atHeight : ByteArray := prog_6_method_10_code
abbrev y_l_atHeight : MethodName := { cls := "ContainerHost$Layer", name := "atHeight", desc := "(I)LContainerHost$Layer;" }
abbrev k_l_atHeight : Cond := .code y_l_atHeight c_l_atHeight 3 (Option.some (FieldType.object "ContainerHost$Layer"))
abbrev M_l_atHeight : xMeth := ("ContainerHost$Layer", c_l_atHeight, 3, (Option.some (FieldType.object "ContainerHost$Layer")), "atHeight", [], ({ frames := 0, cells := 0, slots := 0, locals := 0 } : Room))
theorem e_l_atHeight : k_l_atHeight ∈ lw_tbl := mt (i := 433) (by decide +kernel)
abbrev c_l_countEntries : ByteArray := prog_6_method_5_code
abbrev y_l_countEntries : MethodName := { cls := "ContainerHost$Layer", name := "countEntries", desc := "()I" }
abbrev k_l_countEntries : Cond := .code y_l_countEntries c_l_countEntries 3 (Option.some FieldType.int)
abbrev M_l_countEntries : xMeth := ("ContainerHost$Layer", c_l_countEntries, 3, (Option.some FieldType.int), "countEntries", [], ({ frames := 1, cells := 0, slots := 0, locals := 20 } : Room))
theorem e_l_countEntries : k_l_countEntries ∈ lw_tbl := mt (i := 437) (by decide +kernel)
abbrev c_in_bitCount : ByteArray := prog_16_method_49_code
abbrev y_in_bitCount : MethodName := { cls := "java/lang/Integer", name := "bitCount", desc := "(I)I" }
abbrev k_in_bitCount : Cond := .code y_in_bitCount c_in_bitCount 1 (Option.some FieldType.int)
abbrev M_in_bitCount : xMeth := ("java/lang/Integer", c_in_bitCount, 1, (Option.some FieldType.int), "bitCount", [], ({ frames := 0, cells := 0, slots := 0, locals := 0 } : Room))
theorem e_in_bitCount : k_in_bitCount ∈ lw_tbl := mt (i := 440) (by decide +kernel)
abbrev c_h_commit : ByteArray := prog_1_method_9_code
abbrev y_h_commit : MethodName := { cls := "ContainerHost", name := "commit", desc := "(I)I" }
abbrev k_h_commit : Cond := .code y_h_commit c_h_commit 3 (Option.some FieldType.int)
abbrev M_h_commit : xMeth := ("ContainerHost", c_h_commit, 3, (Option.some FieldType.int), "commit", [], ({ frames := 9, cells := 7, slots := 97, locals := 213 } : Room))
theorem e_h_commit : k_h_commit ∈ lw_tbl := mt (i := 662) (by decide +kernel)
abbrev c_h_containerAt : ByteArray := prog_1_method_46_code
abbrev y_h_containerAt : MethodName := { cls := "ContainerHost", name := "containerAt", desc := "(I)LContainerHost$Container;" }
abbrev k_h_containerAt : Cond := .code y_h_containerAt c_h_containerAt 2 (Option.some (FieldType.object "ContainerHost$Container"))
abbrev M_h_containerAt : xMeth := ("ContainerHost", c_h_containerAt, 2, (Option.some (FieldType.object "ContainerHost$Container")), "containerAt", [], ({ frames := 6, cells := 1, slots := 6, locals := 92 } : Room))
theorem e_h_containerAt : k_h_containerAt ∈ lw_tbl := mt (i := 606) (by decide +kernel)
abbrev c_l_copied : ByteArray := prog_6_method_2_code
abbrev y_l_copied : MethodName := { cls := "ContainerHost$Layer", name := "copied", desc := "()LContainerHost$Layer;" }
abbrev k_l_copied : Cond := .code y_l_copied c_l_copied 2 (Option.some (FieldType.object "ContainerHost$Layer"))
abbrev M_l_copied : xMeth := ("ContainerHost$Layer", c_l_copied, 2, (Option.some (FieldType.object "ContainerHost$Layer")), "copied", [], ({ frames := 2, cells := 2, slots := 44, locals := 60 } : Room))
theorem e_l_copied : k_l_copied ∈ lw_tbl := mt (i := 667) (by decide +kernel)
abbrev c_h_newGroup : ByteArray := prog_1_method_10_code
abbrev y_h_newGroup : MethodName := { cls := "ContainerHost", name := "newGroup", desc := "(IIII)I" }
abbrev k_h_newGroup : Cond := .code y_h_newGroup c_h_newGroup 6 (Option.some FieldType.int)
abbrev M_h_newGroup : xMeth := ("ContainerHost", c_h_newGroup, 6, (Option.some FieldType.int), "newGroup", [], ({ frames := 8, cells := 7, slots := 70, locals := 191 } : Room))
theorem e_h_newGroup : k_h_newGroup ∈ lw_tbl := mt (i := 504) (by decide +kernel)
abbrev c_h_groupAt : ByteArray := prog_1_method_45_code
abbrev y_h_groupAt : MethodName := { cls := "ContainerHost", name := "groupAt", desc := "(I)LContainerHost$Group;" }
abbrev k_h_groupAt : Cond := .code y_h_groupAt c_h_groupAt 2 (Option.some (FieldType.object "ContainerHost$Group"))
abbrev M_h_groupAt : xMeth := ("ContainerHost", c_h_groupAt, 2, (Option.some (FieldType.object "ContainerHost$Group")), "groupAt", [], ({ frames := 6, cells := 1, slots := 6, locals := 92 } : Room))
theorem e_h_groupAt : k_h_groupAt ∈ lw_tbl := mt (i := 191) (by decide +kernel)
abbrev c_h_groupMemory : ByteArray := prog_1_method_11_code
abbrev y_h_groupMemory : MethodName := { cls := "ContainerHost", name := "groupMemory", desc := "(I)I" }
abbrev k_h_groupMemory : Cond := .code y_h_groupMemory c_h_groupMemory 2 (Option.some FieldType.int)
abbrev M_h_groupMemory : xMeth := ("ContainerHost", c_h_groupMemory, 2, (Option.some FieldType.int), "groupMemory", [], ({ frames := 7, cells := 1, slots := 6, locals := 113 } : Room))
theorem e_h_groupMemory : k_h_groupMemory ∈ lw_tbl := mt (i := 187) (by decide +kernel)
abbrev c_h_groupProcesses : ByteArray := prog_1_method_12_code
abbrev y_h_groupProcesses : MethodName := { cls := "ContainerHost", name := "groupProcesses", desc := "(I)I" }
abbrev k_h_groupProcesses : Cond := .code y_h_groupProcesses c_h_groupProcesses 2 (Option.some FieldType.int)
abbrev M_h_groupProcesses : xMeth := ("ContainerHost", c_h_groupProcesses, 2, (Option.some FieldType.int), "groupProcesses", [], ({ frames := 7, cells := 1, slots := 6, locals := 113 } : Room))
theorem e_h_groupProcesses : k_h_groupProcesses ∈ lw_tbl := mt (i := 509) (by decide +kernel)
abbrev c_h_run : ByteArray := prog_1_method_13_code
abbrev y_h_run : MethodName := { cls := "ContainerHost", name := "run", desc := "(IIII)I" }
abbrev k_h_run : Cond := .code y_h_run c_h_run 8 (Option.some FieldType.int)
abbrev M_h_run : xMeth := ("ContainerHost", c_h_run, 8, (Option.some FieldType.int), "run", [], ({ frames := 9, cells := 11, slots := 132, locals := 215 } : Room))
theorem e_h_run : k_h_run ∈ lw_tbl := mt (i := 516) (by decide +kernel)
abbrev c_h_requireContainerSlot : ByteArray := prog_1_method_56_code
abbrev y_h_requireContainerSlot : MethodName := { cls := "ContainerHost", name := "requireContainerSlot", desc := "()V" }
abbrev k_h_requireContainerSlot : Cond := .code y_h_requireContainerSlot c_h_requireContainerSlot 1 (Option.none : Option FieldType)
abbrev M_h_requireContainerSlot : xMeth := ("ContainerHost", c_h_requireContainerSlot, 1, (Option.none : Option FieldType), "requireContainerSlot", [], ({ frames := 6, cells := 1, slots := 6, locals := 92 } : Room))
theorem e_h_requireContainerSlot : k_h_requireContainerSlot ∈ lw_tbl := mt (i := 522) (by decide +kernel)
abbrev c_h_requireRoom : ByteArray := prog_1_method_57_code
abbrev y_h_requireRoom : MethodName := { cls := "ContainerHost", name := "requireRoom", desc := "(LContainerHost$Group;II)V" }
abbrev k_h_requireRoom : Cond := .code y_h_requireRoom c_h_requireRoom 3 (Option.none : Option FieldType)
abbrev M_h_requireRoom : xMeth := ("ContainerHost", c_h_requireRoom, 3, (Option.none : Option FieldType), "requireRoom", [], ({ frames := 6, cells := 1, slots := 6, locals := 92 } : Room))
theorem e_h_requireRoom : k_h_requireRoom ∈ lw_tbl := mt (i := 526) (by decide +kernel)
abbrev c_g_hasRoom : ByteArray := prog_4_method_4_code
abbrev y_g_hasRoom : MethodName := { cls := "ContainerHost$Group", name := "hasRoom", desc := "(II)Z" }
abbrev k_g_hasRoom : Cond := .code y_g_hasRoom c_g_hasRoom 6 (Option.some FieldType.boolean)
abbrev M_g_hasRoom : xMeth := ("ContainerHost$Group", c_g_hasRoom, 6, (Option.some FieldType.boolean), "hasRoom", [], ({ frames := 0, cells := 0, slots := 0, locals := 0 } : Room))
theorem e_g_hasRoom : k_g_hasRoom ∈ lw_tbl := mt (i := 530) (by decide +kernel)
abbrev c_h_addContainer : ByteArray := prog_1_method_65_code
abbrev y_h_addContainer : MethodName := { cls := "ContainerHost", name := "addContainer", desc := "(LContainerHost$Group;LContainerHost$Layer;I)LContainerHost$Container;" }
abbrev k_h_addContainer : Cond := .code y_h_addContainer c_h_addContainer 5 (Option.some (FieldType.object "ContainerHost$Container"))
abbrev M_h_addContainer : xMeth := ("ContainerHost", c_h_addContainer, 5, (Option.some (FieldType.object "ContainerHost$Container")), "addContainer", [], ({ frames := 8, cells := 2, slots := 46, locals := 191 } : Room))
theorem e_h_addContainer : k_h_addContainer ∈ lw_tbl := mt (i := 535) (by decide +kernel)
abbrev c_c_init : ByteArray := prog_3_method_1_code
abbrev y_c_init : MethodName := { cls := "ContainerHost$Container", name := "<init>", desc := "(ILContainerHost$Group;LContainerHost$Layer;I)V" }
abbrev k_c_init : Cond := .code y_c_init c_c_init 5 (Option.none : Option FieldType)
abbrev M_c_init : xMeth := ("ContainerHost$Container", c_c_init, 5, (Option.none : Option FieldType), "<init>", [], ({ frames := 2, cells := 0, slots := 0, locals := 41 } : Room))
theorem e_c_init : k_c_init ∈ lw_tbl := mt (i := 539) (by decide +kernel)
abbrev c_c_charge : ByteArray := prog_3_method_3_code
abbrev y_c_charge : MethodName := { cls := "ContainerHost$Container", name := "charge", desc := "(II)V" }
abbrev k_c_charge : Cond := .code y_c_charge c_c_charge 4 (Option.none : Option FieldType)
abbrev M_c_charge : xMeth := ("ContainerHost$Container", c_c_charge, 4, (Option.none : Option FieldType), "charge", [], ({ frames := 0, cells := 0, slots := 0, locals := 0 } : Room))
theorem e_c_charge : k_c_charge ∈ lw_tbl := mt (i := 598) (by decide +kernel)
abbrev c_h_pause : ByteArray := prog_1_method_14_code
abbrev y_h_pause : MethodName := { cls := "ContainerHost", name := "pause", desc := "(I)V" }
abbrev k_h_pause : Cond := .code y_h_pause c_h_pause 2 (Option.none : Option FieldType)
abbrev M_h_pause : xMeth := ("ContainerHost", c_h_pause, 2, (Option.none : Option FieldType), "pause", [], ({ frames := 8, cells := 2, slots := 12, locals := 135 } : Room))
theorem e_h_pause : k_h_pause ∈ lw_tbl := mt (i := 647) (by decide +kernel)
abbrev c_h_runningAt : ByteArray := prog_1_method_47_code
abbrev y_h_runningAt : MethodName := { cls := "ContainerHost", name := "runningAt", desc := "(I)LContainerHost$Container;" }
abbrev k_h_runningAt : Cond := .code y_h_runningAt c_h_runningAt 3 (Option.some (FieldType.object "ContainerHost$Container"))
abbrev M_h_runningAt : xMeth := ("ContainerHost", c_h_runningAt, 3, (Option.some (FieldType.object "ContainerHost$Container")), "runningAt", [], ({ frames := 7, cells := 2, slots := 12, locals := 113 } : Room))
theorem e_h_runningAt : k_h_runningAt ∈ lw_tbl := mt (i := 651) (by decide +kernel)
abbrev c_h_requireRunning : ByteArray := prog_1_method_58_code
abbrev y_h_requireRunning : MethodName := { cls := "ContainerHost", name := "requireRunning", desc := "(LContainerHost$Container;)V" }
abbrev k_h_requireRunning : Cond := .code y_h_requireRunning c_h_requireRunning 1 (Option.none : Option FieldType)
abbrev M_h_requireRunning : xMeth := ("ContainerHost", c_h_requireRunning, 1, (Option.none : Option FieldType), "requireRunning", [], ({ frames := 6, cells := 1, slots := 6, locals := 92 } : Room))
theorem e_h_requireRunning : k_h_requireRunning ∈ lw_tbl := mt (i := 654) (by decide +kernel)
abbrev c_h_resume : ByteArray := prog_1_method_15_code
abbrev y_h_resume : MethodName := { cls := "ContainerHost", name := "resume", desc := "(I)V" }
abbrev k_h_resume : Cond := .code y_h_resume c_h_resume 2 (Option.none : Option FieldType)
abbrev M_h_resume : xMeth := ("ContainerHost", c_h_resume, 2, (Option.none : Option FieldType), "resume", [], ({ frames := 8, cells := 2, slots := 12, locals := 135 } : Room))
theorem e_h_resume : k_h_resume ∈ lw_tbl := mt (i := 728) (by decide +kernel)
abbrev c_h_pausedAt : ByteArray := prog_1_method_48_code
abbrev y_h_pausedAt : MethodName := { cls := "ContainerHost", name := "pausedAt", desc := "(I)LContainerHost$Container;" }
abbrev k_h_pausedAt : Cond := .code y_h_pausedAt c_h_pausedAt 3 (Option.some (FieldType.object "ContainerHost$Container"))
abbrev M_h_pausedAt : xMeth := ("ContainerHost", c_h_pausedAt, 3, (Option.some (FieldType.object "ContainerHost$Container")), "pausedAt", [], ({ frames := 7, cells := 2, slots := 12, locals := 113 } : Room))
theorem e_h_pausedAt : k_h_pausedAt ∈ lw_tbl := mt (i := 681) (by decide +kernel)
abbrev c_h_stop : ByteArray := prog_1_method_16_code
abbrev y_h_stop : MethodName := { cls := "ContainerHost", name := "stop", desc := "(I)I" }
abbrev k_h_stop : Cond := .code y_h_stop c_h_stop 3 (Option.some FieldType.int)
abbrev M_h_stop : xMeth := ("ContainerHost", c_h_stop, 3, (Option.some FieldType.int), "stop", [], ({ frames := 7, cells := 2, slots := 12, locals := 113 } : Room))
theorem e_h_stop : k_h_stop ∈ lw_tbl := mt (i := 634) (by decide +kernel)
abbrev c_h_halt : ByteArray := prog_1_method_66_code
abbrev y_h_halt : MethodName := { cls := "ContainerHost", name := "halt", desc := "(LContainerHost$Container;)I" }
abbrev k_h_halt : Cond := .code y_h_halt c_h_halt 4 (Option.some FieldType.int)
abbrev M_h_halt : xMeth := ("ContainerHost", c_h_halt, 4, (Option.some FieldType.int), "halt", [], ({ frames := 1, cells := 0, slots := 0, locals := 23 } : Room))
theorem e_h_halt : k_h_halt ∈ lw_tbl := mt (i := 639) (by decide +kernel)
abbrev c_c_leaveBridge : ByteArray := prog_3_method_5_code
abbrev y_c_leaveBridge : MethodName := { cls := "ContainerHost$Container", name := "leaveBridge", desc := "()V" }
abbrev k_c_leaveBridge : Cond := .code y_c_leaveBridge c_c_leaveBridge 1 (Option.none : Option FieldType)
abbrev M_c_leaveBridge : xMeth := ("ContainerHost$Container", c_c_leaveBridge, 1, (Option.none : Option FieldType), "leaveBridge", [], ({ frames := 0, cells := 0, slots := 0, locals := 0 } : Room))
theorem e_c_leaveBridge : k_c_leaveBridge ∈ lw_tbl := mt (i := 643) (by decide +kernel)
abbrev c_h_allocate : ByteArray := prog_1_method_17_code
abbrev y_h_allocate : MethodName := { cls := "ContainerHost", name := "allocate", desc := "(II)I" }
abbrev k_h_allocate : Cond := .code y_h_allocate c_h_allocate 4 (Option.some FieldType.int)
abbrev M_h_allocate : xMeth := ("ContainerHost", c_h_allocate, 4, (Option.some FieldType.int), "allocate", [], ({ frames := 7, cells := 3, slots := 18, locals := 114 } : Room))
theorem e_h_allocate : k_h_allocate ∈ lw_tbl := mt (i := 738) (by decide +kernel)
abbrev c_h_killUntilFits : ByteArray := prog_1_method_67_code
abbrev y_h_killUntilFits : MethodName := { cls := "ContainerHost", name := "killUntilFits", desc := "(LContainerHost$Container;I)V" }
abbrev k_h_killUntilFits : Cond := .code y_h_killUntilFits c_h_killUntilFits 6 (Option.none : Option FieldType)
abbrev M_h_killUntilFits : xMeth := ("ContainerHost", c_h_killUntilFits, 6, (Option.none : Option FieldType), "killUntilFits", [], ({ frames := 4, cells := 0, slots := 0, locals := 89 } : Room))
theorem e_h_killUntilFits : k_h_killUntilFits ∈ lw_tbl := mt (i := 742) (by decide +kernel)
abbrev c_g_firstWithoutMemory : ByteArray := prog_4_method_5_code
abbrev y_g_firstWithoutMemory : MethodName := { cls := "ContainerHost$Group", name := "firstWithoutMemory", desc := "(I)LContainerHost$Group;" }
abbrev k_g_firstWithoutMemory : Cond := .code y_g_firstWithoutMemory c_g_firstWithoutMemory 3 (Option.some (FieldType.object "ContainerHost$Group"))
abbrev M_g_firstWithoutMemory : xMeth := ("ContainerHost$Group", c_g_firstWithoutMemory, 3, (Option.some (FieldType.object "ContainerHost$Group")), "firstWithoutMemory", [], ({ frames := 0, cells := 0, slots := 0, locals := 0 } : Room))
theorem e_g_firstWithoutMemory : k_g_firstWithoutMemory ∈ lw_tbl := mt (i := 746) (by decide +kernel)
abbrev c_h_largestIn : ByteArray := prog_1_method_68_code
abbrev y_h_largestIn : MethodName := { cls := "ContainerHost", name := "largestIn", desc := "(LContainerHost$Group;)LContainerHost$Container;" }
abbrev k_h_largestIn : Cond := .code y_h_largestIn c_h_largestIn 6 (Option.some (FieldType.object "ContainerHost$Container"))
abbrev M_h_largestIn : xMeth := ("ContainerHost", c_h_largestIn, 6, (Option.some (FieldType.object "ContainerHost$Container")), "largestIn", [], ({ frames := 3, cells := 0, slots := 0, locals := 64 } : Room))
theorem e_h_largestIn : k_h_largestIn ∈ lw_tbl := mt (i := 750) (by decide +kernel)
abbrev c_g_isWithin : ByteArray := prog_4_method_3_code
abbrev y_g_isWithin : MethodName := { cls := "ContainerHost$Group", name := "isWithin", desc := "(LContainerHost$Group;)Z" }
abbrev k_g_isWithin : Cond := .code y_g_isWithin c_g_isWithin 3 (Option.some FieldType.boolean)
abbrev M_g_isWithin : xMeth := ("ContainerHost$Group", c_g_isWithin, 3, (Option.some FieldType.boolean), "isWithin", [], ({ frames := 0, cells := 0, slots := 0, locals := 0 } : Room))
theorem e_g_isWithin : k_g_isWithin ∈ lw_tbl := mt (i := 308) (by decide +kernel)
abbrev c_h_free : ByteArray := prog_1_method_18_code
abbrev y_h_free : MethodName := { cls := "ContainerHost", name := "free", desc := "(II)I" }
abbrev k_h_free : Cond := .code y_h_free c_h_free 4 (Option.some FieldType.int)
abbrev M_h_free : xMeth := ("ContainerHost", c_h_free, 4, (Option.some FieldType.int), "free", [], ({ frames := 7, cells := 4, slots := 24, locals := 113 } : Room))
theorem e_h_free : k_h_free ∈ lw_tbl := mt (i := 754) (by decide +kernel)
abbrev c_h_fork : ByteArray := prog_1_method_19_code
abbrev y_h_fork : MethodName := { cls := "ContainerHost", name := "fork", desc := "(I)I" }
abbrev k_h_fork : Cond := .code y_h_fork c_h_fork 3 (Option.some FieldType.int)
abbrev M_h_fork : xMeth := ("ContainerHost", c_h_fork, 3, (Option.some FieldType.int), "fork", [], ({ frames := 8, cells := 3, slots := 18, locals := 135 } : Room))
theorem e_h_fork : k_h_fork ∈ lw_tbl := mt (i := 759) (by decide +kernel)
abbrev c_h_exit : ByteArray := prog_1_method_20_code
abbrev y_h_exit : MethodName := { cls := "ContainerHost", name := "exit", desc := "(I)I" }
abbrev k_h_exit : Cond := .code y_h_exit c_h_exit 3 (Option.some FieldType.int)
abbrev M_h_exit : xMeth := ("ContainerHost", c_h_exit, 3, (Option.some FieldType.int), "exit", [], ({ frames := 8, cells := 2, slots := 12, locals := 135 } : Room))
theorem e_h_exit : k_h_exit ∈ lw_tbl := mt (i := 763) (by decide +kernel)
abbrev c_h_schedule : ByteArray := prog_1_method_21_code
abbrev y_h_schedule : MethodName := { cls := "ContainerHost", name := "schedule", desc := "(I)I" }
abbrev k_h_schedule : Cond := .code y_h_schedule c_h_schedule 4 (Option.some FieldType.int)
abbrev M_h_schedule : xMeth := ("ContainerHost", c_h_schedule, 4, (Option.some FieldType.int), "schedule", [], ({ frames := 10, cells := 226, slots := 7404, locals := 242 } : Room))
theorem e_h_schedule : k_h_schedule ∈ lw_tbl := mt (i := 281) (by decide +kernel)
abbrev c_h_hasRunning : ByteArray := prog_1_method_69_code
abbrev y_h_hasRunning : MethodName := { cls := "ContainerHost", name := "hasRunning", desc := "(LContainerHost$Group;)Z" }
abbrev k_h_hasRunning : Cond := .code y_h_hasRunning c_h_hasRunning 4 (Option.some FieldType.boolean)
abbrev M_h_hasRunning : xMeth := ("ContainerHost", c_h_hasRunning, 4, (Option.some FieldType.boolean), "hasRunning", [], ({ frames := 3, cells := 0, slots := 0, locals := 64 } : Room))
theorem e_h_hasRunning : k_h_hasRunning ∈ lw_tbl := mt (i := 304) (by decide +kernel)
abbrev c_h_shareOut : ByteArray := prog_1_method_70_code
abbrev y_h_shareOut : MethodName := { cls := "ContainerHost", name := "shareOut", desc := "(LContainerHost$Group;)V" }
abbrev k_h_shareOut : Cond := .code y_h_shareOut c_h_shareOut 8 (Option.none : Option FieldType)
abbrev M_h_shareOut : xMeth := ("ContainerHost", c_h_shareOut, 8, (Option.none : Option FieldType), "shareOut", [], ({ frames := 9, cells := 28, slots := 924, locals := 215 } : Room))
theorem e_h_shareOut : k_h_shareOut ∈ lw_tbl := mt (i := 312) (by decide +kernel)
abbrev c_h_collectParts : ByteArray := prog_1_method_71_code
abbrev y_h_collectParts : MethodName := { cls := "ContainerHost", name := "collectParts", desc := "(LContainerHost$Group;)I" }
abbrev k_h_collectParts : Cond := .code y_h_collectParts c_h_collectParts 5 (Option.some FieldType.int)
abbrev M_h_collectParts : xMeth := ("ContainerHost", c_h_collectParts, 5, (Option.some FieldType.int), "collectParts", [], ({ frames := 8, cells := 28, slots := 924, locals := 191 } : Room))
theorem e_h_collectParts : k_h_collectParts ∈ lw_tbl := mt (i := 316) (by decide +kernel)
abbrev c_al_clear : ByteArray := prog_25_method_40_code
abbrev y_al_clear : MethodName := { cls := "java/util/ArrayList", name := "clear", desc := "()V" }
abbrev k_al_clear : Cond := .code y_al_clear c_al_clear 4 (Option.none : Option FieldType)
abbrev M_al_clear : xMeth := ("java/util/ArrayList", c_al_clear, 4, (Option.none : Option FieldType), "clear", [], ({ frames := 0, cells := 0, slots := 0, locals := 0 } : Room))
theorem e_al_clear : k_al_clear ∈ lw_tbl := mt (i := 320) (by decide +kernel)
abbrev c_c_grant : ByteArray := prog_3_method_2_code
abbrev y_c_grant : MethodName := { cls := "ContainerHost$Container", name := "grant", desc := "(I)V" }
abbrev k_c_grant : Cond := .code y_c_grant c_c_grant 2 (Option.none : Option FieldType)
abbrev M_c_grant : xMeth := ("ContainerHost$Container", c_c_grant, 2, (Option.none : Option FieldType), "grant", [], ({ frames := 0, cells := 0, slots := 0, locals := 0 } : Room))
theorem e_c_grant : k_c_grant ∈ lw_tbl := mt (i := 327) (by decide +kernel)
abbrev c_g_grant : ByteArray := prog_4_method_2_code
abbrev y_g_grant : MethodName := { cls := "ContainerHost$Group", name := "grant", desc := "(I)V" }
abbrev k_g_grant : Cond := .code y_g_grant c_g_grant 2 (Option.none : Option FieldType)
abbrev M_g_grant : xMeth := ("ContainerHost$Group", c_g_grant, 2, (Option.none : Option FieldType), "grant", [], ({ frames := 0, cells := 0, slots := 0, locals := 0 } : Room))
theorem e_g_grant : k_g_grant ∈ lw_tbl := mt (i := 330) (by decide +kernel)
abbrev c_h_grantLeft : ByteArray := prog_1_method_72_code
abbrev y_h_grantLeft : MethodName := { cls := "ContainerHost", name := "grantLeft", desc := "(I)V" }
abbrev k_h_grantLeft : Cond := .code y_h_grantLeft c_h_grantLeft 4 (Option.none : Option FieldType)
abbrev M_h_grantLeft : xMeth := ("ContainerHost", c_h_grantLeft, 4, (Option.none : Option FieldType), "grantLeft", [], ({ frames := 3, cells := 0, slots := 0, locals := 64 } : Room))
theorem e_h_grantLeft : k_h_grantLeft ∈ lw_tbl := mt (i := 334) (by decide +kernel)
abbrev c_h_greatestRemainder : ByteArray := prog_1_method_73_code
abbrev y_h_greatestRemainder : MethodName := { cls := "ContainerHost", name := "greatestRemainder", desc := "()I" }
abbrev k_h_greatestRemainder : Cond := .code y_h_greatestRemainder c_h_greatestRemainder 4 (Option.some FieldType.int)
abbrev M_h_greatestRemainder : xMeth := ("ContainerHost", c_h_greatestRemainder, 4, (Option.some FieldType.int), "greatestRemainder", [], ({ frames := 1, cells := 0, slots := 0, locals := 20 } : Room))
theorem e_h_greatestRemainder : k_h_greatestRemainder ∈ lw_tbl := mt (i := 338) (by decide +kernel)
abbrev c_h_writeFile : ByteArray := prog_1_method_22_code
abbrev y_h_writeFile : MethodName := { cls := "ContainerHost", name := "writeFile", desc := "(III)I" }
abbrev k_h_writeFile : Cond := .code y_h_writeFile c_h_writeFile 6 (Option.some FieldType.int)
abbrev M_h_writeFile : xMeth := ("ContainerHost", c_h_writeFile, 6, (Option.some FieldType.int), "writeFile", [], ({ frames := 8, cells := 5, slots := 30, locals := 134 } : Room))
theorem e_h_writeFile : k_h_writeFile ∈ lw_tbl := mt (i := 767) (by decide +kernel)
abbrev c_h_requireMayChange : ByteArray := prog_1_method_60_code
abbrev y_h_requireMayChange : MethodName := { cls := "ContainerHost", name := "requireMayChange", desc := "(LContainerHost$Container;I)V" }
abbrev k_h_requireMayChange : Cond := .code y_h_requireMayChange c_h_requireMayChange 2 (Option.none : Option FieldType)
abbrev M_h_requireMayChange : xMeth := ("ContainerHost", c_h_requireMayChange, 2, (Option.none : Option FieldType), "requireMayChange", [], ({ frames := 7, cells := 2, slots := 12, locals := 113 } : Room))
theorem e_h_requireMayChange : k_h_requireMayChange ∈ lw_tbl := mt (i := 770) (by decide +kernel)
abbrev c_h_requireEffective : ByteArray := prog_1_method_59_code
abbrev y_h_requireEffective : MethodName := { cls := "ContainerHost", name := "requireEffective", desc := "(LContainerHost$Container;I)V" }
abbrev k_h_requireEffective : Cond := .code y_h_requireEffective c_h_requireEffective 2 (Option.none : Option FieldType)
abbrev M_h_requireEffective : xMeth := ("ContainerHost", c_h_requireEffective, 2, (Option.none : Option FieldType), "requireEffective", [], ({ frames := 6, cells := 1, slots := 6, locals := 92 } : Room))
theorem e_h_requireEffective : k_h_requireEffective ∈ lw_tbl := mt (i := 773) (by decide +kernel)
abbrev c_h_removeFile : ByteArray := prog_1_method_23_code
abbrev y_h_removeFile : MethodName := { cls := "ContainerHost", name := "removeFile", desc := "(II)I" }
abbrev k_h_removeFile : Cond := .code y_h_removeFile c_h_removeFile 4 (Option.some FieldType.int)
abbrev M_h_removeFile : xMeth := ("ContainerHost", c_h_removeFile, 4, (Option.some FieldType.int), "removeFile", [], ({ frames := 8, cells := 5, slots := 30, locals := 134 } : Room))
theorem e_h_removeFile : k_h_removeFile ∈ lw_tbl := mt (i := 778) (by decide +kernel)
abbrev c_h_fileOf : ByteArray := prog_1_method_24_code
abbrev y_h_fileOf : MethodName := { cls := "ContainerHost", name := "fileOf", desc := "(II)I" }
abbrev k_h_fileOf : Cond := .code y_h_fileOf c_h_fileOf 4 (Option.some FieldType.int)
abbrev M_h_fileOf : xMeth := ("ContainerHost", c_h_fileOf, 4, (Option.some FieldType.int), "fileOf", [], ({ frames := 7, cells := 2, slots := 12, locals := 113 } : Room))
theorem e_h_fileOf : k_h_fileOf ∈ lw_tbl := mt (i := 627) (by decide +kernel)
abbrev c_h_plainFileOf : ByteArray := prog_1_method_25_code
abbrev y_h_plainFileOf : MethodName := { cls := "ContainerHost", name := "plainFileOf", desc := "(II)I" }
abbrev k_h_plainFileOf : Cond := .code y_h_plainFileOf c_h_plainFileOf 4 (Option.some FieldType.int)
abbrev M_h_plainFileOf : xMeth := ("ContainerHost", c_h_plainFileOf, 4, (Option.some FieldType.int), "plainFileOf", [], ({ frames := 7, cells := 2, slots := 12, locals := 113 } : Room))
theorem e_h_plainFileOf : k_h_plainFileOf ∈ lw_tbl := mt (i := 868) (by decide +kernel)
abbrev c_l_fileBuiltUp : ByteArray := prog_6_method_8_code
abbrev y_l_fileBuiltUp : MethodName := { cls := "ContainerHost$Layer", name := "fileBuiltUp", desc := "(I)I" }
abbrev k_l_fileBuiltUp : Cond := .code y_l_fileBuiltUp c_l_fileBuiltUp 5 (Option.some FieldType.int)
abbrev M_l_fileBuiltUp : xMeth := ("ContainerHost$Layer", c_l_fileBuiltUp, 5, (Option.some FieldType.int), "fileBuiltUp", [], ({ frames := 2, cells := 0, slots := 0, locals := 44 } : Room))
theorem e_l_fileBuiltUp : k_l_fileBuiltUp ∈ lw_tbl := mt (i := 872) (by decide +kernel)
abbrev c_h_raise : ByteArray := prog_1_method_26_code
abbrev y_h_raise : MethodName := { cls := "ContainerHost", name := "raise", desc := "(II)I" }
abbrev k_h_raise : Cond := .code y_h_raise c_h_raise 5 (Option.some FieldType.int)
abbrev M_h_raise : xMeth := ("ContainerHost", c_h_raise, 5, (Option.some FieldType.int), "raise", [], ({ frames := 7, cells := 4, slots := 24, locals := 113 } : Room))
theorem e_h_raise : k_h_raise ∈ lw_tbl := mt (i := 794) (by decide +kernel)
abbrev c_h_requireCapability : ByteArray := prog_1_method_50_code
abbrev y_h_requireCapability : MethodName := { cls := "ContainerHost", name := "requireCapability", desc := "(I)V" }
abbrev k_h_requireCapability : Cond := .code y_h_requireCapability c_h_requireCapability 1 (Option.none : Option FieldType)
abbrev M_h_requireCapability : xMeth := ("ContainerHost", c_h_requireCapability, 1, (Option.none : Option FieldType), "requireCapability", [], ({ frames := 6, cells := 1, slots := 6, locals := 92 } : Room))
theorem e_h_requireCapability : k_h_requireCapability ∈ lw_tbl := mt (i := 785) (by decide +kernel)
abbrev c_h_lower : ByteArray := prog_1_method_27_code
abbrev y_h_lower : MethodName := { cls := "ContainerHost", name := "lower", desc := "(II)I" }
abbrev k_h_lower : Cond := .code y_h_lower c_h_lower 4 (Option.some FieldType.int)
abbrev M_h_lower : xMeth := ("ContainerHost", c_h_lower, 4, (Option.some FieldType.int), "lower", [], ({ frames := 7, cells := 3, slots := 18, locals := 113 } : Room))
theorem e_h_lower : k_h_lower ∈ lw_tbl := mt (i := 782) (by decide +kernel)
abbrev c_h_drop : ByteArray := prog_1_method_28_code
abbrev y_h_drop : MethodName := { cls := "ContainerHost", name := "drop", desc := "(II)I" }
abbrev k_h_drop : Cond := .code y_h_drop c_h_drop 4 (Option.some FieldType.int)
abbrev M_h_drop : xMeth := ("ContainerHost", c_h_drop, 4, (Option.some FieldType.int), "drop", [], ({ frames := 7, cells := 3, slots := 18, locals := 113 } : Room))
theorem e_h_drop : k_h_drop ∈ lw_tbl := mt (i := 790) (by decide +kernel)
abbrev c_h_kill : ByteArray := prog_1_method_29_code
abbrev y_h_kill : MethodName := { cls := "ContainerHost", name := "kill", desc := "(II)I" }
abbrev k_h_kill : Cond := .code y_h_kill c_h_kill 5 (Option.some FieldType.int)
abbrev M_h_kill : xMeth := ("ContainerHost", c_h_kill, 5, (Option.some FieldType.int), "kill", [], ({ frames := 7, cells := 6, slots := 36, locals := 113 } : Room))
theorem e_h_kill : k_h_kill ∈ lw_tbl := mt (i := 802) (by decide +kernel)
abbrev c_h_attach : ByteArray := prog_1_method_30_code
abbrev y_h_attach : MethodName := { cls := "ContainerHost", name := "attach", desc := "(II)I" }
abbrev k_h_attach : Cond := .code y_h_attach c_h_attach 5 (Option.some FieldType.int)
abbrev M_h_attach : xMeth := ("ContainerHost", c_h_attach, 5, (Option.some FieldType.int), "attach", [], ({ frames := 7, cells := 5, slots := 30, locals := 113 } : Room))
theorem e_h_attach : k_h_attach ∈ lw_tbl := mt (i := 819) (by decide +kernel)
abbrev c_h_leastFreeAddress : ByteArray := prog_1_method_75_code
abbrev y_h_leastFreeAddress : MethodName := { cls := "ContainerHost", name := "leastFreeAddress", desc := "(I)I" }
abbrev k_h_leastFreeAddress : Cond := .code y_h_leastFreeAddress c_h_leastFreeAddress 3 (Option.some FieldType.int)
abbrev M_h_leastFreeAddress : xMeth := ("ContainerHost", c_h_leastFreeAddress, 3, (Option.some FieldType.int), "leastFreeAddress", [], ({ frames := 4, cells := 0, slots := 0, locals := 88 } : Room))
theorem e_h_leastFreeAddress : k_h_leastFreeAddress ∈ lw_tbl := mt (i := 824) (by decide +kernel)
abbrev c_h_attachedAt : ByteArray := prog_1_method_74_code
abbrev y_h_attachedAt : MethodName := { cls := "ContainerHost", name := "attachedAt", desc := "(II)LContainerHost$Container;" }
abbrev k_h_attachedAt : Cond := .code y_h_attachedAt c_h_attachedAt 5 (Option.some (FieldType.object "ContainerHost$Container"))
abbrev M_h_attachedAt : xMeth := ("ContainerHost", c_h_attachedAt, 5, (Option.some (FieldType.object "ContainerHost$Container")), "attachedAt", [], ({ frames := 3, cells := 0, slots := 0, locals := 64 } : Room))
theorem e_h_attachedAt : k_h_attachedAt ∈ lw_tbl := mt (i := 828) (by decide +kernel)
abbrev c_h_detach : ByteArray := prog_1_method_31_code
abbrev y_h_detach : MethodName := { cls := "ContainerHost", name := "detach", desc := "(I)I" }
abbrev k_h_detach : Cond := .code y_h_detach c_h_detach 4 (Option.some FieldType.int)
abbrev M_h_detach : xMeth := ("ContainerHost", c_h_detach, 4, (Option.some FieldType.int), "detach", [], ({ frames := 8, cells := 3, slots := 18, locals := 135 } : Room))
theorem e_h_detach : k_h_detach ∈ lw_tbl := mt (i := 811) (by decide +kernel)
abbrev c_h_requireAttached : ByteArray := prog_1_method_61_code
abbrev y_h_requireAttached : MethodName := { cls := "ContainerHost", name := "requireAttached", desc := "(LContainerHost$Container;)V" }
abbrev k_h_requireAttached : Cond := .code y_h_requireAttached c_h_requireAttached 1 (Option.none : Option FieldType)
abbrev M_h_requireAttached : xMeth := ("ContainerHost", c_h_requireAttached, 1, (Option.none : Option FieldType), "requireAttached", [], ({ frames := 6, cells := 1, slots := 6, locals := 92 } : Room))
theorem e_h_requireAttached : k_h_requireAttached ∈ lw_tbl := mt (i := 814) (by decide +kernel)
abbrev c_h_listen : ByteArray := prog_1_method_32_code
abbrev y_h_listen : MethodName := { cls := "ContainerHost", name := "listen", desc := "(II)I" }
abbrev k_h_listen : Cond := .code y_h_listen c_h_listen 4 (Option.some FieldType.int)
abbrev M_h_listen : xMeth := ("ContainerHost", c_h_listen, 4, (Option.some FieldType.int), "listen", [], ({ frames := 7, cells := 5, slots := 30, locals := 113 } : Room))
theorem e_h_listen : k_h_listen ∈ lw_tbl := mt (i := 856) (by decide +kernel)
abbrev c_h_requirePort : ByteArray := prog_1_method_51_code
abbrev y_h_requirePort : MethodName := { cls := "ContainerHost", name := "requirePort", desc := "(I)V" }
abbrev k_h_requirePort : Cond := .code y_h_requirePort c_h_requirePort 1 (Option.none : Option FieldType)
abbrev M_h_requirePort : xMeth := ("ContainerHost", c_h_requirePort, 1, (Option.none : Option FieldType), "requirePort", [], ({ frames := 6, cells := 1, slots := 6, locals := 92 } : Room))
theorem e_h_requirePort : k_h_requirePort ∈ lw_tbl := mt (i := 847) (by decide +kernel)
abbrev c_c_listensOn : ByteArray := prog_3_method_4_code
abbrev y_c_listensOn : MethodName := { cls := "ContainerHost$Container", name := "listensOn", desc := "(I)Z" }
abbrev k_c_listensOn : Cond := .code y_c_listensOn c_c_listensOn 2 (Option.some FieldType.boolean)
abbrev M_c_listensOn : xMeth := ("ContainerHost$Container", c_c_listensOn, 2, (Option.some FieldType.boolean), "listensOn", [], ({ frames := 0, cells := 0, slots := 0, locals := 0 } : Room))
theorem e_c_listensOn : k_c_listensOn ∈ lw_tbl := mt (i := 852) (by decide +kernel)
abbrev c_h_requireHostPort : ByteArray := prog_1_method_52_code
abbrev y_h_requireHostPort : MethodName := { cls := "ContainerHost", name := "requireHostPort", desc := "(I)V" }
abbrev k_h_requireHostPort : Cond := .code y_h_requireHostPort c_h_requireHostPort 1 (Option.none : Option FieldType)
abbrev M_h_requireHostPort : xMeth := ("ContainerHost", c_h_requireHostPort, 1, (Option.none : Option FieldType), "requireHostPort", [], ({ frames := 6, cells := 1, slots := 6, locals := 92 } : Room))
theorem e_h_requireHostPort : k_h_requireHostPort ∈ lw_tbl := mt (i := 839) (by decide +kernel)
abbrev c_h_connect : ByteArray := prog_1_method_34_code
abbrev y_h_connect : MethodName := { cls := "ContainerHost", name := "connect", desc := "(III)I" }
abbrev k_h_connect : Cond := .code y_h_connect c_h_connect 6 (Option.some FieldType.int)
abbrev M_h_connect : xMeth := ("ContainerHost", c_h_connect, 6, (Option.some FieldType.int), "connect", [], ({ frames := 7, cells := 5, slots := 30, locals := 113 } : Room))
theorem e_h_connect : k_h_connect ∈ lw_tbl := mt (i := 844) (by decide +kernel)
abbrev c_h_connectHost : ByteArray := prog_1_method_35_code
abbrev y_h_connectHost : MethodName := { cls := "ContainerHost", name := "connectHost", desc := "(I)I" }
abbrev k_h_connectHost : Cond := .code y_h_connectHost c_h_connectHost 3 (Option.some FieldType.int)
abbrev M_h_connectHost : xMeth := ("ContainerHost", c_h_connectHost, 3, (Option.some FieldType.int), "connectHost", [], ({ frames := 7, cells := 1, slots := 6, locals := 112 } : Room))
theorem e_h_connectHost : k_h_connectHost ∈ lw_tbl := mt (i := 836) (by decide +kernel)
abbrev c_h_save : ByteArray := prog_1_method_36_code
abbrev y_h_save : MethodName := { cls := "ContainerHost", name := "save", desc := "(I)I" }
abbrev k_h_save : Cond := .code y_h_save c_h_save 3 (Option.some FieldType.int)
abbrev M_h_save : xMeth := ("ContainerHost", c_h_save, 3, (Option.some FieldType.int), "save", [], ({ frames := 8, cells := 7, slots := 102, locals := 191 } : Room))
theorem e_h_save : k_h_save ∈ lw_tbl := mt (i := 677) (by decide +kernel)
abbrev c_k_init : ByteArray := prog_2_method_1_code
abbrev y_k_init : MethodName := { cls := "ContainerHost$Checkpoint", name := "<init>", desc := "(LContainerHost$Container;)V" }
abbrev k_k_init : Cond := .code y_k_init c_k_init 2 (Option.none : Option FieldType)
abbrev M_k_init : xMeth := ("ContainerHost$Checkpoint", c_k_init, 2, (Option.none : Option FieldType), "<init>", [], ({ frames := 3, cells := 2, slots := 44, locals := 81 } : Room))
theorem e_k_init : k_k_init ∈ lw_tbl := mt (i := 688) (by decide +kernel)
abbrev c_h_restore : ByteArray := prog_1_method_37_code
abbrev y_h_restore : MethodName := { cls := "ContainerHost", name := "restore", desc := "(II)I" }
abbrev k_h_restore : Cond := .code y_h_restore c_h_restore 6 (Option.some FieldType.int)
abbrev M_h_restore : xMeth := ("ContainerHost", c_h_restore, 6, (Option.some FieldType.int), "restore", [], ({ frames := 9, cells := 8, slots := 114, locals := 215 } : Room))
theorem e_h_restore : k_h_restore ∈ lw_tbl := mt (i := 723) (by decide +kernel)
abbrev c_h_stateOf : ByteArray := prog_1_method_39_code
abbrev y_h_stateOf : MethodName := { cls := "ContainerHost", name := "stateOf", desc := "(I)I" }
abbrev k_h_stateOf : Cond := .code y_h_stateOf c_h_stateOf 2 (Option.some FieldType.int)
abbrev M_h_stateOf : xMeth := ("ContainerHost", c_h_stateOf, 2, (Option.some FieldType.int), "stateOf", [], ({ frames := 7, cells := 1, slots := 6, locals := 113 } : Room))
theorem e_h_stateOf : k_h_stateOf ∈ lw_tbl := mt (i := 602) (by decide +kernel)
abbrev c_h_memoryOf : ByteArray := prog_1_method_40_code
abbrev y_h_memoryOf : MethodName := { cls := "ContainerHost", name := "memoryOf", desc := "(I)I" }
abbrev k_h_memoryOf : Cond := .code y_h_memoryOf c_h_memoryOf 2 (Option.some FieldType.int)
abbrev M_h_memoryOf : xMeth := ("ContainerHost", c_h_memoryOf, 2, (Option.some FieldType.int), "memoryOf", [], ({ frames := 7, cells := 1, slots := 6, locals := 113 } : Room))
theorem e_h_memoryOf : k_h_memoryOf ∈ lw_tbl := mt (i := 611) (by decide +kernel)
abbrev c_h_timeOf : ByteArray := prog_1_method_41_code
abbrev y_h_timeOf : MethodName := { cls := "ContainerHost", name := "timeOf", desc := "(I)I" }
abbrev k_h_timeOf : Cond := .code y_h_timeOf c_h_timeOf 2 (Option.some FieldType.int)
abbrev M_h_timeOf : xMeth := ("ContainerHost", c_h_timeOf, 2, (Option.some FieldType.int), "timeOf", [], ({ frames := 7, cells := 1, slots := 6, locals := 113 } : Room))
theorem e_h_timeOf : k_h_timeOf ∈ lw_tbl := mt (i := 615) (by decide +kernel)
abbrev c_h_capabilitiesOf : ByteArray := prog_1_method_42_code
abbrev y_h_capabilitiesOf : MethodName := { cls := "ContainerHost", name := "capabilitiesOf", desc := "(I)I" }
abbrev k_h_capabilitiesOf : Cond := .code y_h_capabilitiesOf c_h_capabilitiesOf 3 (Option.some FieldType.int)
abbrev M_h_capabilitiesOf : xMeth := ("ContainerHost", c_h_capabilitiesOf, 3, (Option.some FieldType.int), "capabilitiesOf", [], ({ frames := 7, cells := 1, slots := 6, locals := 113 } : Room))
theorem e_h_capabilitiesOf : k_h_capabilitiesOf ∈ lw_tbl := mt (i := 623) (by decide +kernel)
abbrev c_h_addressOf : ByteArray := prog_1_method_43_code
abbrev y_h_addressOf : MethodName := { cls := "ContainerHost", name := "addressOf", desc := "(I)I" }
abbrev k_h_addressOf : Cond := .code y_h_addressOf c_h_addressOf 3 (Option.some FieldType.int)
abbrev M_h_addressOf : xMeth := ("ContainerHost", c_h_addressOf, 3, (Option.some FieldType.int), "addressOf", [], ({ frames := 7, cells := 1, slots := 6, locals := 113 } : Room))
theorem e_h_addressOf : k_h_addressOf ∈ lw_tbl := mt (i := 619) (by decide +kernel)
theorem w1 : Cond.initialized "ContainerHost" ∈ lw_tbl := mt (i := 1) (by decide +kernel)
theorem w2 : Cond.initialized "java/util/AbstractCollection" ∈ lw_tbl := mt (i := 2) (by decide +kernel)
theorem w3 : Cond.initialized "java/util/AbstractList" ∈ lw_tbl := mt (i := 3) (by decide +kernel)
theorem w4 : Cond.initialized "java/util/ArrayList" ∈ lw_tbl := mt (i := 4) (by decide +kernel)
theorem w5 : Cond.initialized "ContainerHost$Part" ∈ lw_tbl := mt (i := 5) (by decide +kernel)
theorem w6 : Cond.initialized "ContainerHost$Group" ∈ lw_tbl := mt (i := 6) (by decide +kernel)
theorem w7 : Cond.initialized "jdk/internal/util/ArraysSupport" ∈ lw_tbl := mt (i := 7) (by decide +kernel)
theorem w8 : Cond.initialized "java/lang/Math" ∈ lw_tbl := mt (i := 8) (by decide +kernel)
theorem w9 : Cond.initialized "java/util/Arrays" ∈ lw_tbl := mt (i := 9) (by decide +kernel)
theorem w16 : Cond.initialized "java/util/Objects" ∈ lw_tbl := mt (i := 15) (by decide +kernel)
theorem w17 : Cond.initialized "jdk/internal/util/Preconditions" ∈ lw_tbl := mt (i := 16) (by decide +kernel)
theorem w19 : Cond.initialized "ContainerHost$Layer" ∈ lw_tbl := mt (i := 19) (by decide +kernel)
theorem w20 : Cond.initialized "ContainerHost$Image" ∈ lw_tbl := mt (i := 20) (by decide +kernel)
theorem w22 : Cond.initialized "java/lang/Integer" ∈ lw_tbl := mt (i := 21) (by decide +kernel)
theorem w23 : Cond.initialized "ContainerHost$Container" ∈ lw_tbl := mt (i := 22) (by decide +kernel)
theorem w24 : Cond.initialized "ContainerHost$Checkpoint" ∈ lw_tbl := mt (i := 23) (by decide +kernel)
theorem w28 : Cond.instanceMethod ({ cls := "ContainerHost", name := "<init>", desc := "()V" } : MethodName) ∈ lw_tbl := mt (i := 27) (by decide +kernel)
theorem w33 : Cond.classLink "ContainerHost" (9 : Nat) "java/util/ArrayList" ∈ lw_tbl := mt (i := 32) (by decide +kernel)
theorem w34 : Cond.instantiable "java/util/ArrayList" (3 : Nat) ∈ lw_tbl := mt (i := 33) (by decide +kernel)
theorem w35 : Cond.methodLink "ContainerHost" (11 : Nat) ({ cls := "java/util/ArrayList", name := "<init>", desc := "()V" } : MethodName) ∈ lw_tbl := mt (i := 34) (by decide +kernel)
theorem w36 : Cond.instanceMethod ({ cls := "java/util/ArrayList", name := "<init>", desc := "()V" } : MethodName) ∈ lw_tbl := mt (i := 35) (by decide +kernel)
theorem w38 : Cond.methodLink "java/util/ArrayList" (1 : Nat) ({ cls := "java/util/AbstractList", name := "<init>", desc := "()V" } : MethodName) ∈ lw_tbl := mt (i := 37) (by decide +kernel)
theorem w39 : Cond.instanceMethod ({ cls := "java/util/AbstractList", name := "<init>", desc := "()V" } : MethodName) ∈ lw_tbl := mt (i := 38) (by decide +kernel)
theorem w41 : Cond.methodLink "java/util/AbstractList" (1 : Nat) ({ cls := "java/util/AbstractCollection", name := "<init>", desc := "()V" } : MethodName) ∈ lw_tbl := mt (i := 40) (by decide +kernel)
theorem w42 : Cond.instanceMethod ({ cls := "java/util/AbstractCollection", name := "<init>", desc := "()V" } : MethodName) ∈ lw_tbl := mt (i := 41) (by decide +kernel)
theorem w47 : Cond.fieldLink "java/util/ArrayList" (9 : Nat) "java/util/ArrayList" "elementData" "[Ljava/lang/Object;" ∈ lw_tbl := mt (i := 46) (by decide +kernel)
theorem w48 : Cond.fieldLink "java/util/ArrayList" (48 : Nat) "java/util/ArrayList" "size" "I" ∈ lw_tbl := mt (i := 47) (by decide +kernel)
theorem w49 : Cond.fieldLink "java/util/AbstractList" (7 : Nat) "java/util/AbstractList" "modCount" "I" ∈ lw_tbl := mt (i := 48) (by decide +kernel)
theorem w50 : Cond.fieldLink "java/util/ArrayList" (63 : Nat) "java/util/ArrayList" "modCount" "I" ∈ lw_tbl := mt (i := 49) (by decide +kernel)
theorem w51 : Cond.sameField "java/util/ArrayList" "java/util/AbstractList" "modCount" "I" ∈ lw_tbl := mt (i := 50) (by decide +kernel)
theorem w59 : Cond.classLink "ContainerHost" (25 : Nat) "ContainerHost$Container" ∈ lw_tbl := mt (i := 58) (by decide +kernel)
theorem w61 : Cond.classLink "ContainerHost" (38 : Nat) "ContainerHost$Group" ∈ lw_tbl := mt (i := 60) (by decide +kernel)
theorem w62 : Cond.instantiable "ContainerHost$Group" (7 : Nat) ∈ lw_tbl := mt (i := 61) (by decide +kernel)
theorem w63 : Cond.methodLink "ContainerHost" (40 : Nat) ({ cls := "ContainerHost$Group", name := "<init>", desc := "(LContainerHost$Group;III)V" } : MethodName) ∈ lw_tbl := mt (i := 62) (by decide +kernel)
theorem w64 : Cond.instanceMethod ({ cls := "ContainerHost$Group", name := "<init>", desc := "(LContainerHost$Group;III)V" } : MethodName) ∈ lw_tbl := mt (i := 63) (by decide +kernel)
theorem w66 : Cond.methodLink "ContainerHost$Group" (1 : Nat) ({ cls := "ContainerHost$Part", name := "<init>", desc := "(I)V" } : MethodName) ∈ lw_tbl := mt (i := 65) (by decide +kernel)
theorem w67 : Cond.instanceMethod ({ cls := "ContainerHost$Part", name := "<init>", desc := "(I)V" } : MethodName) ∈ lw_tbl := mt (i := 66) (by decide +kernel)
theorem w70 : Cond.fieldLink "ContainerHost$Group" (7 : Nat) "ContainerHost$Group" "parent" "LContainerHost$Group;" ∈ lw_tbl := mt (i := 69) (by decide +kernel)
theorem w71 : Cond.fieldLink "ContainerHost$Container" (45 : Nat) "ContainerHost$Group" "parent" "LContainerHost$Group;" ∈ lw_tbl := mt (i := 70) (by decide +kernel)
theorem w72 : Cond.fieldLink "ContainerHost" (394 : Nat) "ContainerHost$Group" "parent" "LContainerHost$Group;" ∈ lw_tbl := mt (i := 71) (by decide +kernel)
theorem w73 : Cond.fieldLink "ContainerHost$Group" (13 : Nat) "ContainerHost$Group" "memoryLimit" "I" ∈ lw_tbl := mt (i := 72) (by decide +kernel)
theorem w74 : Cond.fieldLink "ContainerHost$Group" (17 : Nat) "ContainerHost$Group" "processLimit" "I" ∈ lw_tbl := mt (i := 73) (by decide +kernel)
theorem w75 : Cond.fieldLink "ContainerHost$Container" (41 : Nat) "ContainerHost$Group" "memory" "I" ∈ lw_tbl := mt (i := 74) (by decide +kernel)
theorem w76 : Cond.fieldLink "ContainerHost$Group" (23 : Nat) "ContainerHost$Group" "memory" "I" ∈ lw_tbl := mt (i := 75) (by decide +kernel)
theorem w77 : Cond.fieldLink "ContainerHost" (152 : Nat) "ContainerHost$Group" "memory" "I" ∈ lw_tbl := mt (i := 76) (by decide +kernel)
theorem w78 : Cond.fieldLink "ContainerHost$Container" (44 : Nat) "ContainerHost$Group" "processes" "I" ∈ lw_tbl := mt (i := 77) (by decide +kernel)
theorem w79 : Cond.fieldLink "ContainerHost$Group" (26 : Nat) "ContainerHost$Group" "processes" "I" ∈ lw_tbl := mt (i := 78) (by decide +kernel)
theorem w80 : Cond.fieldLink "ContainerHost" (155 : Nat) "ContainerHost$Group" "processes" "I" ∈ lw_tbl := mt (i := 79) (by decide +kernel)
theorem w81 : Cond.fieldLink "ContainerHost$Group" (20 : Nat) "ContainerHost$Group" "granted" "I" ∈ lw_tbl := mt (i := 80) (by decide +kernel)
theorem w82 : Cond.fieldLink "ContainerHost" (223 : Nat) "ContainerHost$Group" "granted" "I" ∈ lw_tbl := mt (i := 81) (by decide +kernel)
theorem w83 : Cond.fieldLink "ContainerHost$Part" (7 : Nat) "ContainerHost$Part" "shares" "I" ∈ lw_tbl := mt (i := 82) (by decide +kernel)
theorem w84 : Cond.fieldLink "ContainerHost$Checkpoint" (22 : Nat) "ContainerHost$Container" "shares" "I" ∈ lw_tbl := mt (i := 83) (by decide +kernel)
theorem w85 : Cond.sameField "ContainerHost$Container" "ContainerHost$Part" "shares" "I" ∈ lw_tbl := mt (i := 84) (by decide +kernel)
theorem w86 : Cond.fieldLink "ContainerHost" (384 : Nat) "ContainerHost$Part" "shares" "I" ∈ lw_tbl := mt (i := 85) (by decide +kernel)
theorem w87 : Cond.fieldLink "ContainerHost" (397 : Nat) "ContainerHost$Group" "shares" "I" ∈ lw_tbl := mt (i := 86) (by decide +kernel)
theorem w88 : Cond.sameField "ContainerHost$Group" "ContainerHost$Part" "shares" "I" ∈ lw_tbl := mt (i := 87) (by decide +kernel)
theorem w89 : Cond.fieldLink "ContainerHost" (398 : Nat) "ContainerHost$Container" "shares" "I" ∈ lw_tbl := mt (i := 88) (by decide +kernel)
theorem w106 : Cond.methodLink "ContainerHost" (43 : Nat) ({ cls := "java/util/ArrayList", name := "add", desc := "(Ljava/lang/Object;)Z" } : MethodName) ∈ lw_tbl := mt (i := 105) (by decide +kernel)
theorem w107 : Cond.instanceMethod ({ cls := "java/util/ArrayList", name := "add", desc := "(Ljava/lang/Object;)Z" } : MethodName) ∈ lw_tbl := mt (i := 106) (by decide +kernel)
theorem w108 : Cond.selects "java/util/ArrayList" ({ cls := "java/util/ArrayList", name := "add", desc := "(Ljava/lang/Object;)Z" } : MethodName) ({ cls := "java/util/ArrayList", name := "add", desc := "(Ljava/lang/Object;)Z" } : MethodName) ∈ lw_tbl := mt (i := 107) (by decide +kernel)
theorem w110 : Cond.methodLink "java/util/ArrayList" (131 : Nat) ({ cls := "java/util/ArrayList", name := "add", desc := "(Ljava/lang/Object;[Ljava/lang/Object;I)V" } : MethodName) ∈ lw_tbl := mt (i := 109) (by decide +kernel)
theorem w112 : Cond.instanceMethod ({ cls := "java/util/ArrayList", name := "add", desc := "(Ljava/lang/Object;[Ljava/lang/Object;I)V" } : MethodName) ∈ lw_tbl := mt (i := 111) (by decide +kernel)
theorem w114 : Cond.methodLink "java/util/ArrayList" (129 : Nat) ({ cls := "java/util/ArrayList", name := "grow", desc := "()[Ljava/lang/Object;" } : MethodName) ∈ lw_tbl := mt (i := 113) (by decide +kernel)
theorem w116 : Cond.instanceMethod ({ cls := "java/util/ArrayList", name := "grow", desc := "()[Ljava/lang/Object;" } : MethodName) ∈ lw_tbl := mt (i := 115) (by decide +kernel)
theorem w118 : Cond.methodLink "java/util/ArrayList" (69 : Nat) ({ cls := "java/util/ArrayList", name := "grow", desc := "(I)[Ljava/lang/Object;" } : MethodName) ∈ lw_tbl := mt (i := 117) (by decide +kernel)
theorem w120 : Cond.instanceMethod ({ cls := "java/util/ArrayList", name := "grow", desc := "(I)[Ljava/lang/Object;" } : MethodName) ∈ lw_tbl := mt (i := 119) (by decide +kernel)
theorem w122 : Cond.methodLink "java/util/ArrayList" (73 : Nat) ({ cls := "jdk/internal/util/ArraysSupport", name := "newLength", desc := "(III)I" } : MethodName) ∈ lw_tbl := mt (i := 121) (by decide +kernel)
theorem w123 : Cond.static ({ cls := "jdk/internal/util/ArraysSupport", name := "newLength", desc := "(III)I" } : MethodName) ∈ lw_tbl := mt (i := 122) (by decide +kernel)
theorem w125 : Cond.methodLink "jdk/internal/util/ArraysSupport" (194 : Nat) ({ cls := "java/lang/Math", name := "max", desc := "(II)I" } : MethodName) ∈ lw_tbl := mt (i := 124) (by decide +kernel)
theorem w126 : Cond.static ({ cls := "java/lang/Math", name := "max", desc := "(II)I" } : MethodName) ∈ lw_tbl := mt (i := 125) (by decide +kernel)
theorem w129 : Cond.methodLink "jdk/internal/util/ArraysSupport" (201 : Nat) ({ cls := "jdk/internal/util/ArraysSupport", name := "hugeLength", desc := "(II)I" } : MethodName) ∈ lw_tbl := mt (i := 128) (by decide +kernel)
theorem w132 : Cond.methodLink "java/util/ArrayList" (66 : Nat) ({ cls := "java/util/Arrays", name := "copyOf", desc := "([Ljava/lang/Object;I)[Ljava/lang/Object;" } : MethodName) ∈ lw_tbl := mt (i := 131) (by decide +kernel)
theorem w133 : Cond.static ({ cls := "java/util/Arrays", name := "copyOf", desc := "([Ljava/lang/Object;I)[Ljava/lang/Object;" } : MethodName) ∈ lw_tbl := mt (i := 132) (by decide +kernel)
theorem w150 : Cond.methodLink "java/util/Arrays" (300 : Nat) ({ cls := "java/util/Arrays", name := "copyOf", desc := "([Ljava/lang/Object;ILjava/lang/Class;)[Ljava/lang/Object;" } : MethodName) ∈ lw_tbl := mt (i := 148) (by decide +kernel)
theorem w151 : Cond.static ({ cls := "java/util/Arrays", name := "copyOf", desc := "([Ljava/lang/Object;ILjava/lang/Class;)[Ljava/lang/Object;" } : MethodName) ∈ lw_tbl := mt (i := 149) (by decide +kernel)
theorem w156 : Cond.methodLink "java/util/Arrays" (304 : Nat) ({ cls := "java/lang/Math", name := "min", desc := "(II)I" } : MethodName) ∈ lw_tbl := mt (i := 154) (by decide +kernel)
theorem w157 : Cond.static ({ cls := "java/lang/Math", name := "min", desc := "(II)I" } : MethodName) ∈ lw_tbl := mt (i := 155) (by decide +kernel)
theorem w162 : Cond.methodLink "java/util/ArrayList" (79 : Nat) ({ cls := "java/lang/Math", name := "max", desc := "(II)I" } : MethodName) ∈ lw_tbl := mt (i := 160) (by decide +kernel)
theorem w164 : Cond.fieldLink "ContainerHost" (12 : Nat) "ContainerHost" "imageList" "Ljava/util/ArrayList;" ∈ lw_tbl := mt (i := 162) (by decide +kernel)
theorem w165 : Cond.fieldLink "ContainerHost" (16 : Nat) "ContainerHost" "groupList" "Ljava/util/ArrayList;" ∈ lw_tbl := mt (i := 163) (by decide +kernel)
theorem w166 : Cond.fieldLink "ContainerHost" (19 : Nat) "ContainerHost" "containerList" "Ljava/util/ArrayList;" ∈ lw_tbl := mt (i := 164) (by decide +kernel)
theorem w167 : Cond.fieldLink "ContainerHost" (22 : Nat) "ContainerHost" "checkpointList" "Ljava/util/ArrayList;" ∈ lw_tbl := mt (i := 165) (by decide +kernel)
theorem w168 : Cond.fieldLink "ContainerHost" (27 : Nat) "ContainerHost" "publishedOn" "[LContainerHost$Container;" ∈ lw_tbl := mt (i := 166) (by decide +kernel)
theorem w169 : Cond.fieldLink "ContainerHost" (31 : Nat) "ContainerHost" "parts" "Ljava/util/ArrayList;" ∈ lw_tbl := mt (i := 167) (by decide +kernel)
theorem w170 : Cond.fieldLink "ContainerHost" (34 : Nat) "ContainerHost" "remainders" "[I" ∈ lw_tbl := mt (i := 168) (by decide +kernel)
theorem w187 : Cond.instanceMethod ({ cls := "ContainerHost", name := "containers", desc := "()I" } : MethodName) ∈ lw_tbl := mt (i := 340) (by decide +kernel)
theorem w188 : Cond.selects "ContainerHost" ({ cls := "ContainerHost", name := "containers", desc := "()I" } : MethodName) ({ cls := "ContainerHost", name := "containers", desc := "()I" } : MethodName) ∈ lw_tbl := mt (i := 341) (by decide +kernel)
theorem w190 : Cond.methodLink "ContainerHost" (147 : Nat) ({ cls := "java/util/ArrayList", name := "size", desc := "()I" } : MethodName) ∈ lw_tbl := mt (i := 192) (by decide +kernel)
theorem w191 : Cond.instanceMethod ({ cls := "java/util/ArrayList", name := "size", desc := "()I" } : MethodName) ∈ lw_tbl := mt (i := 193) (by decide +kernel)
theorem w192 : Cond.selects "java/util/ArrayList" ({ cls := "java/util/ArrayList", name := "size", desc := "()I" } : MethodName) ({ cls := "java/util/ArrayList", name := "size", desc := "()I" } : MethodName) ∈ lw_tbl := mt (i := 194) (by decide +kernel)
theorem w200 : Cond.instanceMethod ({ cls := "ContainerHost", name := "newImage", desc := "(I)I" } : MethodName) ∈ lw_tbl := mt (i := 353) (by decide +kernel)
theorem w201 : Cond.selects "ContainerHost" ({ cls := "ContainerHost", name := "newImage", desc := "(I)I" } : MethodName) ({ cls := "ContainerHost", name := "newImage", desc := "(I)I" } : MethodName) ∈ lw_tbl := mt (i := 354) (by decide +kernel)
theorem w203 : Cond.methodLink "ContainerHost" (47 : Nat) ({ cls := "ContainerHost", name := "imageAt", desc := "(I)LContainerHost$Image;" } : MethodName) ∈ lw_tbl := mt (i := 356) (by decide +kernel)
theorem w205 : Cond.instanceMethod ({ cls := "ContainerHost", name := "imageAt", desc := "(I)LContainerHost$Image;" } : MethodName) ∈ lw_tbl := mt (i := 358) (by decide +kernel)
theorem w275 : Cond.methodLink "ContainerHost" (226 : Nat) ({ cls := "java/util/ArrayList", name := "get", desc := "(I)Ljava/lang/Object;" } : MethodName) ∈ lw_tbl := mt (i := 264) (by decide +kernel)
theorem w276 : Cond.instanceMethod ({ cls := "java/util/ArrayList", name := "get", desc := "(I)Ljava/lang/Object;" } : MethodName) ∈ lw_tbl := mt (i := 265) (by decide +kernel)
theorem w277 : Cond.selects "java/util/ArrayList" ({ cls := "java/util/ArrayList", name := "get", desc := "(I)Ljava/lang/Object;" } : MethodName) ({ cls := "java/util/ArrayList", name := "get", desc := "(I)Ljava/lang/Object;" } : MethodName) ∈ lw_tbl := mt (i := 266) (by decide +kernel)
theorem w279 : Cond.methodLink "java/util/ArrayList" (118 : Nat) ({ cls := "java/util/Objects", name := "checkIndex", desc := "(II)I" } : MethodName) ∈ lw_tbl := mt (i := 268) (by decide +kernel)
theorem w280 : Cond.static ({ cls := "java/util/Objects", name := "checkIndex", desc := "(II)I" } : MethodName) ∈ lw_tbl := mt (i := 269) (by decide +kernel)
theorem w282 : Cond.methodLink "java/util/Objects" (105 : Nat) ({ cls := "jdk/internal/util/Preconditions", name := "checkIndex", desc := "(IILjava/util/function/BiFunction;)I" } : MethodName) ∈ lw_tbl := mt (i := 271) (by decide +kernel)
theorem w283 : Cond.static ({ cls := "jdk/internal/util/Preconditions", name := "checkIndex", desc := "(IILjava/util/function/BiFunction;)I" } : MethodName) ∈ lw_tbl := mt (i := 272) (by decide +kernel)
theorem w285 : Cond.methodLink "java/util/ArrayList" (123 : Nat) ({ cls := "java/util/ArrayList", name := "elementData", desc := "(I)Ljava/lang/Object;" } : MethodName) ∈ lw_tbl := mt (i := 274) (by decide +kernel)
theorem w286 : Cond.instanceMethod ({ cls := "java/util/ArrayList", name := "elementData", desc := "(I)Ljava/lang/Object;" } : MethodName) ∈ lw_tbl := mt (i := 275) (by decide +kernel)
theorem w287 : Cond.selects "java/util/ArrayList" ({ cls := "java/util/ArrayList", name := "elementData", desc := "(I)Ljava/lang/Object;" } : MethodName) ({ cls := "java/util/ArrayList", name := "elementData", desc := "(I)Ljava/lang/Object;" } : MethodName) ∈ lw_tbl := mt (i := 276) (by decide +kernel)
theorem w289 : Cond.classLink "ContainerHost" (80 : Nat) "ContainerHost$Image" ∈ lw_tbl := mt (i := 361) (by decide +kernel)
theorem w290 : Cond.methodLink "ContainerHost" (51 : Nat) ({ cls := "ContainerHost", name := "baseLayer", desc := "(LContainerHost$Image;)LContainerHost$Layer;" } : MethodName) ∈ lw_tbl := mt (i := 362) (by decide +kernel)
theorem w291 : Cond.static ({ cls := "ContainerHost", name := "baseLayer", desc := "(LContainerHost$Image;)LContainerHost$Layer;" } : MethodName) ∈ lw_tbl := mt (i := 363) (by decide +kernel)
theorem w309 : Cond.methodLink "ContainerHost" (55 : Nat) ({ cls := "ContainerHost", name := "requireImageSlot", desc := "()V" } : MethodName) ∈ lw_tbl := mt (i := 381) (by decide +kernel)
theorem w311 : Cond.instanceMethod ({ cls := "ContainerHost", name := "requireImageSlot", desc := "()V" } : MethodName) ∈ lw_tbl := mt (i := 383) (by decide +kernel)
theorem w314 : Cond.classLink "ContainerHost" (58 : Nat) "ContainerHost$Layer" ∈ lw_tbl := mt (i := 386) (by decide +kernel)
theorem w315 : Cond.instantiable "ContainerHost$Layer" (4 : Nat) ∈ lw_tbl := mt (i := 387) (by decide +kernel)
theorem w316 : Cond.methodLink "ContainerHost" (60 : Nat) ({ cls := "ContainerHost$Layer", name := "<init>", desc := "(LContainerHost$Layer;)V" } : MethodName) ∈ lw_tbl := mt (i := 388) (by decide +kernel)
theorem w317 : Cond.instanceMethod ({ cls := "ContainerHost$Layer", name := "<init>", desc := "(LContainerHost$Layer;)V" } : MethodName) ∈ lw_tbl := mt (i := 389) (by decide +kernel)
theorem w320 : Cond.fieldLink "ContainerHost$Layer" (15 : Nat) "ContainerHost$Layer" "below" "LContainerHost$Layer;" ∈ lw_tbl := mt (i := 392) (by decide +kernel)
theorem w321 : Cond.fieldLink "ContainerHost$Layer" (19 : Nat) "ContainerHost$Layer" "height" "I" ∈ lw_tbl := mt (i := 393) (by decide +kernel)
theorem w322 : Cond.fieldLink "ContainerHost" (113 : Nat) "ContainerHost$Layer" "height" "I" ∈ lw_tbl := mt (i := 394) (by decide +kernel)
theorem w323 : Cond.fieldLink "ContainerHost$Layer" (9 : Nat) "ContainerHost$Layer" "files" "[I" ∈ lw_tbl := mt (i := 395) (by decide +kernel)
theorem w324 : Cond.fieldLink "ContainerHost" (89 : Nat) "ContainerHost$Layer" "files" "[I" ∈ lw_tbl := mt (i := 396) (by decide +kernel)
theorem w325 : Cond.fieldLink "ContainerHost$Layer" (32 : Nat) "ContainerHost$Layer" "opaque" "I" ∈ lw_tbl := mt (i := 397) (by decide +kernel)
theorem w335 : Cond.methodLink "ContainerHost" (63 : Nat) ({ cls := "ContainerHost", name := "addImage", desc := "(LContainerHost$Layer;Z)I" } : MethodName) ∈ lw_tbl := mt (i := 407) (by decide +kernel)
theorem w337 : Cond.instanceMethod ({ cls := "ContainerHost", name := "addImage", desc := "(LContainerHost$Layer;Z)I" } : MethodName) ∈ lw_tbl := mt (i := 409) (by decide +kernel)
theorem w339 : Cond.instantiable "ContainerHost$Image" (2 : Nat) ∈ lw_tbl := mt (i := 411) (by decide +kernel)
theorem w340 : Cond.methodLink "ContainerHost" (363 : Nat) ({ cls := "ContainerHost$Image", name := "<init>", desc := "(LContainerHost$Layer;Z)V" } : MethodName) ∈ lw_tbl := mt (i := 412) (by decide +kernel)
theorem w341 : Cond.instanceMethod ({ cls := "ContainerHost$Image", name := "<init>", desc := "(LContainerHost$Layer;Z)V" } : MethodName) ∈ lw_tbl := mt (i := 413) (by decide +kernel)
theorem w344 : Cond.fieldLink "ContainerHost$Image" (7 : Nat) "ContainerHost$Image" "top" "LContainerHost$Layer;" ∈ lw_tbl := mt (i := 416) (by decide +kernel)
theorem w345 : Cond.fieldLink "ContainerHost" (79 : Nat) "ContainerHost$Image" "top" "LContainerHost$Layer;" ∈ lw_tbl := mt (i := 417) (by decide +kernel)
theorem w346 : Cond.fieldLink "ContainerHost$Image" (13 : Nat) "ContainerHost$Image" "sealed" "Z" ∈ lw_tbl := mt (i := 418) (by decide +kernel)
theorem w347 : Cond.fieldLink "ContainerHost" (109 : Nat) "ContainerHost$Image" "sealed" "Z" ∈ lw_tbl := mt (i := 419) (by decide +kernel)
theorem w358 : Cond.instanceMethod ({ cls := "ContainerHost", name := "write", desc := "(III)I" } : MethodName) ∈ lw_tbl := mt (i := 468) (by decide +kernel)
theorem w359 : Cond.selects "ContainerHost" ({ cls := "ContainerHost", name := "write", desc := "(III)I" } : MethodName) ({ cls := "ContainerHost", name := "write", desc := "(III)I" } : MethodName) ∈ lw_tbl := mt (i := 469) (by decide +kernel)
theorem w361 : Cond.methodLink "ContainerHost" (67 : Nat) ({ cls := "ContainerHost", name := "requireFile", desc := "(I)V" } : MethodName) ∈ lw_tbl := mt (i := 448) (by decide +kernel)
theorem w362 : Cond.static ({ cls := "ContainerHost", name := "requireFile", desc := "(I)V" } : MethodName) ∈ lw_tbl := mt (i := 449) (by decide +kernel)
theorem w365 : Cond.methodLink "ContainerHost" (71 : Nat) ({ cls := "ContainerHost", name := "requireWithin", desc := "(II)V" } : MethodName) ∈ lw_tbl := mt (i := 282) (by decide +kernel)
theorem w366 : Cond.static ({ cls := "ContainerHost", name := "requireWithin", desc := "(II)V" } : MethodName) ∈ lw_tbl := mt (i := 283) (by decide +kernel)
theorem w384 : Cond.methodLink "ContainerHost" (75 : Nat) ({ cls := "ContainerHost", name := "requireOpen", desc := "(LContainerHost$Image;)V" } : MethodName) ∈ lw_tbl := mt (i := 471) (by decide +kernel)
theorem w385 : Cond.static ({ cls := "ContainerHost", name := "requireOpen", desc := "(LContainerHost$Image;)V" } : MethodName) ∈ lw_tbl := mt (i := 472) (by decide +kernel)
theorem w388 : Cond.methodLink "ContainerHost" (85 : Nat) ({ cls := "ContainerHost$Layer", name := "fileSeen", desc := "(I)I" } : MethodName) ∈ lw_tbl := mt (i := 452) (by decide +kernel)
theorem w389 : Cond.instanceMethod ({ cls := "ContainerHost$Layer", name := "fileSeen", desc := "(I)I" } : MethodName) ∈ lw_tbl := mt (i := 453) (by decide +kernel)
theorem w390 : Cond.selects "ContainerHost$Layer" ({ cls := "ContainerHost$Layer", name := "fileSeen", desc := "(I)I" } : MethodName) ({ cls := "ContainerHost$Layer", name := "fileSeen", desc := "(I)I" } : MethodName) ∈ lw_tbl := mt (i := 454) (by decide +kernel)
theorem w392 : Cond.methodLink "ContainerHost$Layer" (41 : Nat) ({ cls := "ContainerHost$Layer", name := "hidesBelow", desc := "(I)Z" } : MethodName) ∈ lw_tbl := mt (i := 456) (by decide +kernel)
theorem w393 : Cond.instanceMethod ({ cls := "ContainerHost$Layer", name := "hidesBelow", desc := "(I)Z" } : MethodName) ∈ lw_tbl := mt (i := 457) (by decide +kernel)
theorem w394 : Cond.selects "ContainerHost$Layer" ({ cls := "ContainerHost$Layer", name := "hidesBelow", desc := "(I)Z" } : MethodName) ({ cls := "ContainerHost$Layer", name := "hidesBelow", desc := "(I)Z" } : MethodName) ∈ lw_tbl := mt (i := 458) (by decide +kernel)
theorem w396 : Cond.methodLink "ContainerHost$Layer" (45 : Nat) ({ cls := "ContainerHost$Layer", name := "laidOver", desc := "(II)I" } : MethodName) ∈ lw_tbl := mt (i := 460) (by decide +kernel)
theorem w397 : Cond.instanceMethod ({ cls := "ContainerHost$Layer", name := "laidOver", desc := "(II)I" } : MethodName) ∈ lw_tbl := mt (i := 461) (by decide +kernel)
theorem w398 : Cond.selects "ContainerHost$Layer" ({ cls := "ContainerHost$Layer", name := "laidOver", desc := "(II)I" } : MethodName) ({ cls := "ContainerHost$Layer", name := "laidOver", desc := "(II)I" } : MethodName) ∈ lw_tbl := mt (i := 462) (by decide +kernel)
theorem w404 : Cond.instanceMethod ({ cls := "ContainerHost", name := "remove", desc := "(II)I" } : MethodName) ∈ lw_tbl := mt (i := 476) (by decide +kernel)
theorem w405 : Cond.selects "ContainerHost" ({ cls := "ContainerHost", name := "remove", desc := "(II)I" } : MethodName) ({ cls := "ContainerHost", name := "remove", desc := "(II)I" } : MethodName) ∈ lw_tbl := mt (i := 477) (by decide +kernel)
theorem w407 : Cond.methodLink "ContainerHost" (92 : Nat) ({ cls := "ContainerHost", name := "whiteOut", desc := "(LContainerHost$Layer;I)I" } : MethodName) ∈ lw_tbl := mt (i := 479) (by decide +kernel)
theorem w408 : Cond.static ({ cls := "ContainerHost", name := "whiteOut", desc := "(LContainerHost$Layer;I)I" } : MethodName) ∈ lw_tbl := mt (i := 480) (by decide +kernel)
theorem w415 : Cond.instanceMethod ({ cls := "ContainerHost", name := "clear", desc := "(II)I" } : MethodName) ∈ lw_tbl := mt (i := 484) (by decide +kernel)
theorem w416 : Cond.selects "ContainerHost" ({ cls := "ContainerHost", name := "clear", desc := "(II)I" } : MethodName) ({ cls := "ContainerHost", name := "clear", desc := "(II)I" } : MethodName) ∈ lw_tbl := mt (i := 485) (by decide +kernel)
theorem w419 : Cond.methodLink "ContainerHost" (103 : Nat) ({ cls := "ContainerHost$Layer", name := "filesSeenIn", desc := "(I)I" } : MethodName) ∈ lw_tbl := mt (i := 488) (by decide +kernel)
theorem w420 : Cond.instanceMethod ({ cls := "ContainerHost$Layer", name := "filesSeenIn", desc := "(I)I" } : MethodName) ∈ lw_tbl := mt (i := 489) (by decide +kernel)
theorem w421 : Cond.selects "ContainerHost$Layer" ({ cls := "ContainerHost$Layer", name := "filesSeenIn", desc := "(I)I" } : MethodName) ({ cls := "ContainerHost$Layer", name := "filesSeenIn", desc := "(I)I" } : MethodName) ∈ lw_tbl := mt (i := 490) (by decide +kernel)
theorem w423 : Cond.methodLink "ContainerHost$Layer" (49 : Nat) ({ cls := "ContainerHost$Layer", name := "fileSeen", desc := "(I)I" } : MethodName) ∈ lw_tbl := mt (i := 492) (by decide +kernel)
theorem w424 : Cond.methodLink "ContainerHost" (106 : Nat) ({ cls := "ContainerHost$Layer", name := "makeOpaque", desc := "(I)V" } : MethodName) ∈ lw_tbl := mt (i := 493) (by decide +kernel)
theorem w425 : Cond.instanceMethod ({ cls := "ContainerHost$Layer", name := "makeOpaque", desc := "(I)V" } : MethodName) ∈ lw_tbl := mt (i := 494) (by decide +kernel)
theorem w426 : Cond.selects "ContainerHost$Layer" ({ cls := "ContainerHost$Layer", name := "makeOpaque", desc := "(I)V" } : MethodName) ({ cls := "ContainerHost$Layer", name := "makeOpaque", desc := "(I)V" } : MethodName) ∈ lw_tbl := mt (i := 495) (by decide +kernel)
theorem w432 : Cond.instanceMethod ({ cls := "ContainerHost", name := "seal", desc := "(I)I" } : MethodName) ∈ lw_tbl := mt (i := 498) (by decide +kernel)
theorem w433 : Cond.selects "ContainerHost" ({ cls := "ContainerHost", name := "seal", desc := "(I)I" } : MethodName) ({ cls := "ContainerHost", name := "seal", desc := "(I)I" } : MethodName) ∈ lw_tbl := mt (i := 499) (by decide +kernel)
theorem w439 : Cond.instanceMethod ({ cls := "ContainerHost", name := "shown", desc := "(II)I" } : MethodName) ∈ lw_tbl := mt (i := 445) (by decide +kernel)
theorem w440 : Cond.selects "ContainerHost" ({ cls := "ContainerHost", name := "shown", desc := "(II)I" } : MethodName) ({ cls := "ContainerHost", name := "shown", desc := "(II)I" } : MethodName) ∈ lw_tbl := mt (i := 446) (by decide +kernel)
theorem w446 : Cond.instanceMethod ({ cls := "ContainerHost", name := "entries", desc := "(II)I" } : MethodName) ∈ lw_tbl := mt (i := 426) (by decide +kernel)
theorem w447 : Cond.selects "ContainerHost" ({ cls := "ContainerHost", name := "entries", desc := "(II)I" } : MethodName) ({ cls := "ContainerHost", name := "entries", desc := "(II)I" } : MethodName) ∈ lw_tbl := mt (i := 427) (by decide +kernel)
theorem w450 : Cond.methodLink "ContainerHost" (119 : Nat) ({ cls := "ContainerHost$Layer", name := "atHeight", desc := "(I)LContainerHost$Layer;" } : MethodName) ∈ lw_tbl := mt (i := 430) (by decide +kernel)
theorem w451 : Cond.instanceMethod ({ cls := "ContainerHost$Layer", name := "atHeight", desc := "(I)LContainerHost$Layer;" } : MethodName) ∈ lw_tbl := mt (i := 431) (by decide +kernel)
theorem w452 : Cond.selects "ContainerHost$Layer" ({ cls := "ContainerHost$Layer", name := "atHeight", desc := "(I)LContainerHost$Layer;" } : MethodName) ({ cls := "ContainerHost$Layer", name := "atHeight", desc := "(I)LContainerHost$Layer;" } : MethodName) ∈ lw_tbl := mt (i := 432) (by decide +kernel)
theorem w454 : Cond.methodLink "ContainerHost" (123 : Nat) ({ cls := "ContainerHost$Layer", name := "countEntries", desc := "()I" } : MethodName) ∈ lw_tbl := mt (i := 434) (by decide +kernel)
theorem w455 : Cond.instanceMethod ({ cls := "ContainerHost$Layer", name := "countEntries", desc := "()I" } : MethodName) ∈ lw_tbl := mt (i := 435) (by decide +kernel)
theorem w456 : Cond.selects "ContainerHost$Layer" ({ cls := "ContainerHost$Layer", name := "countEntries", desc := "()I" } : MethodName) ({ cls := "ContainerHost$Layer", name := "countEntries", desc := "()I" } : MethodName) ∈ lw_tbl := mt (i := 436) (by decide +kernel)
theorem w458 : Cond.methodLink "ContainerHost$Layer" (35 : Nat) ({ cls := "java/lang/Integer", name := "bitCount", desc := "(I)I" } : MethodName) ∈ lw_tbl := mt (i := 438) (by decide +kernel)
theorem w459 : Cond.static ({ cls := "java/lang/Integer", name := "bitCount", desc := "(I)I" } : MethodName) ∈ lw_tbl := mt (i := 439) (by decide +kernel)
theorem w468 : Cond.instanceMethod ({ cls := "ContainerHost", name := "commit", desc := "(I)I" } : MethodName) ∈ lw_tbl := mt (i := 660) (by decide +kernel)
theorem w469 : Cond.selects "ContainerHost" ({ cls := "ContainerHost", name := "commit", desc := "(I)I" } : MethodName) ({ cls := "ContainerHost", name := "commit", desc := "(I)I" } : MethodName) ∈ lw_tbl := mt (i := 661) (by decide +kernel)
theorem w471 : Cond.methodLink "ContainerHost" (127 : Nat) ({ cls := "ContainerHost", name := "containerAt", desc := "(I)LContainerHost$Container;" } : MethodName) ∈ lw_tbl := mt (i := 603) (by decide +kernel)
theorem w473 : Cond.instanceMethod ({ cls := "ContainerHost", name := "containerAt", desc := "(I)LContainerHost$Container;" } : MethodName) ∈ lw_tbl := mt (i := 605) (by decide +kernel)
theorem w477 : Cond.methodLink "ContainerHost" (139 : Nat) ({ cls := "ContainerHost$Layer", name := "copied", desc := "()LContainerHost$Layer;" } : MethodName) ∈ lw_tbl := mt (i := 664) (by decide +kernel)
theorem w478 : Cond.instanceMethod ({ cls := "ContainerHost$Layer", name := "copied", desc := "()LContainerHost$Layer;" } : MethodName) ∈ lw_tbl := mt (i := 665) (by decide +kernel)
theorem w479 : Cond.selects "ContainerHost$Layer" ({ cls := "ContainerHost$Layer", name := "copied", desc := "()LContainerHost$Layer;" } : MethodName) ({ cls := "ContainerHost$Layer", name := "copied", desc := "()LContainerHost$Layer;" } : MethodName) ∈ lw_tbl := mt (i := 666) (by decide +kernel)
theorem w481 : Cond.classLink "ContainerHost$Layer" (10 : Nat) "ContainerHost$Layer" ∈ lw_tbl := mt (i := 668) (by decide +kernel)
theorem w482 : Cond.methodLink "ContainerHost$Layer" (23 : Nat) ({ cls := "ContainerHost$Layer", name := "<init>", desc := "(LContainerHost$Layer;)V" } : MethodName) ∈ lw_tbl := mt (i := 669) (by decide +kernel)
theorem w488 : Cond.instanceMethod ({ cls := "ContainerHost", name := "newGroup", desc := "(IIII)I" } : MethodName) ∈ lw_tbl := mt (i := 502) (by decide +kernel)
theorem w489 : Cond.selects "ContainerHost" ({ cls := "ContainerHost", name := "newGroup", desc := "(IIII)I" } : MethodName) ({ cls := "ContainerHost", name := "newGroup", desc := "(IIII)I" } : MethodName) ∈ lw_tbl := mt (i := 503) (by decide +kernel)
theorem w491 : Cond.methodLink "ContainerHost" (143 : Nat) ({ cls := "ContainerHost", name := "groupAt", desc := "(I)LContainerHost$Group;" } : MethodName) ∈ lw_tbl := mt (i := 188) (by decide +kernel)
theorem w493 : Cond.instanceMethod ({ cls := "ContainerHost", name := "groupAt", desc := "(I)LContainerHost$Group;" } : MethodName) ∈ lw_tbl := mt (i := 190) (by decide +kernel)
theorem w501 : Cond.instanceMethod ({ cls := "ContainerHost", name := "groupMemory", desc := "(I)I" } : MethodName) ∈ lw_tbl := mt (i := 185) (by decide +kernel)
theorem w502 : Cond.selects "ContainerHost" ({ cls := "ContainerHost", name := "groupMemory", desc := "(I)I" } : MethodName) ({ cls := "ContainerHost", name := "groupMemory", desc := "(I)I" } : MethodName) ∈ lw_tbl := mt (i := 186) (by decide +kernel)
theorem w508 : Cond.instanceMethod ({ cls := "ContainerHost", name := "groupProcesses", desc := "(I)I" } : MethodName) ∈ lw_tbl := mt (i := 507) (by decide +kernel)
theorem w509 : Cond.selects "ContainerHost" ({ cls := "ContainerHost", name := "groupProcesses", desc := "(I)I" } : MethodName) ({ cls := "ContainerHost", name := "groupProcesses", desc := "(I)I" } : MethodName) ∈ lw_tbl := mt (i := 508) (by decide +kernel)
theorem w515 : Cond.instanceMethod ({ cls := "ContainerHost", name := "run", desc := "(IIII)I" } : MethodName) ∈ lw_tbl := mt (i := 514) (by decide +kernel)
theorem w516 : Cond.selects "ContainerHost" ({ cls := "ContainerHost", name := "run", desc := "(IIII)I" } : MethodName) ({ cls := "ContainerHost", name := "run", desc := "(IIII)I" } : MethodName) ∈ lw_tbl := mt (i := 515) (by decide +kernel)
theorem w520 : Cond.methodLink "ContainerHost" (165 : Nat) ({ cls := "ContainerHost", name := "requireContainerSlot", desc := "()V" } : MethodName) ∈ lw_tbl := mt (i := 519) (by decide +kernel)
theorem w522 : Cond.instanceMethod ({ cls := "ContainerHost", name := "requireContainerSlot", desc := "()V" } : MethodName) ∈ lw_tbl := mt (i := 521) (by decide +kernel)
theorem w525 : Cond.methodLink "ContainerHost" (168 : Nat) ({ cls := "ContainerHost", name := "requireRoom", desc := "(LContainerHost$Group;II)V" } : MethodName) ∈ lw_tbl := mt (i := 524) (by decide +kernel)
theorem w526 : Cond.static ({ cls := "ContainerHost", name := "requireRoom", desc := "(LContainerHost$Group;II)V" } : MethodName) ∈ lw_tbl := mt (i := 525) (by decide +kernel)
theorem w528 : Cond.methodLink "ContainerHost" (349 : Nat) ({ cls := "ContainerHost$Group", name := "hasRoom", desc := "(II)Z" } : MethodName) ∈ lw_tbl := mt (i := 527) (by decide +kernel)
theorem w529 : Cond.instanceMethod ({ cls := "ContainerHost$Group", name := "hasRoom", desc := "(II)Z" } : MethodName) ∈ lw_tbl := mt (i := 528) (by decide +kernel)
theorem w530 : Cond.selects "ContainerHost$Group" ({ cls := "ContainerHost$Group", name := "hasRoom", desc := "(II)Z" } : MethodName) ({ cls := "ContainerHost$Group", name := "hasRoom", desc := "(II)Z" } : MethodName) ∈ lw_tbl := mt (i := 529) (by decide +kernel)
theorem w533 : Cond.methodLink "ContainerHost" (172 : Nat) ({ cls := "ContainerHost", name := "addContainer", desc := "(LContainerHost$Group;LContainerHost$Layer;I)LContainerHost$Container;" } : MethodName) ∈ lw_tbl := mt (i := 532) (by decide +kernel)
theorem w535 : Cond.instanceMethod ({ cls := "ContainerHost", name := "addContainer", desc := "(LContainerHost$Group;LContainerHost$Layer;I)LContainerHost$Container;" } : MethodName) ∈ lw_tbl := mt (i := 534) (by decide +kernel)
theorem w537 : Cond.instantiable "ContainerHost$Container" (13 : Nat) ∈ lw_tbl := mt (i := 536) (by decide +kernel)
theorem w538 : Cond.methodLink "ContainerHost" (368 : Nat) ({ cls := "ContainerHost$Container", name := "<init>", desc := "(ILContainerHost$Group;LContainerHost$Layer;I)V" } : MethodName) ∈ lw_tbl := mt (i := 537) (by decide +kernel)
theorem w539 : Cond.instanceMethod ({ cls := "ContainerHost$Container", name := "<init>", desc := "(ILContainerHost$Group;LContainerHost$Layer;I)V" } : MethodName) ∈ lw_tbl := mt (i := 538) (by decide +kernel)
theorem w541 : Cond.methodLink "ContainerHost$Container" (3 : Nat) ({ cls := "ContainerHost$Part", name := "<init>", desc := "(I)V" } : MethodName) ∈ lw_tbl := mt (i := 540) (by decide +kernel)
theorem w542 : Cond.fieldLink "ContainerHost$Container" (21 : Nat) "ContainerHost$Container" "number" "I" ∈ lw_tbl := mt (i := 541) (by decide +kernel)
theorem w543 : Cond.fieldLink "ContainerHost" (185 : Nat) "ContainerHost$Container" "number" "I" ∈ lw_tbl := mt (i := 542) (by decide +kernel)
theorem w544 : Cond.fieldLink "ContainerHost$Container" (24 : Nat) "ContainerHost$Container" "group" "LContainerHost$Group;" ∈ lw_tbl := mt (i := 543) (by decide +kernel)
theorem w545 : Cond.fieldLink "ContainerHost" (214 : Nat) "ContainerHost$Container" "group" "LContainerHost$Group;" ∈ lw_tbl := mt (i := 544) (by decide +kernel)
theorem w546 : Cond.fieldLink "ContainerHost$Checkpoint" (7 : Nat) "ContainerHost$Container" "own" "LContainerHost$Layer;" ∈ lw_tbl := mt (i := 545) (by decide +kernel)
theorem w547 : Cond.fieldLink "ContainerHost$Container" (28 : Nat) "ContainerHost$Container" "own" "LContainerHost$Layer;" ∈ lw_tbl := mt (i := 546) (by decide +kernel)
theorem w548 : Cond.fieldLink "ContainerHost" (131 : Nat) "ContainerHost$Container" "own" "LContainerHost$Layer;" ∈ lw_tbl := mt (i := 547) (by decide +kernel)
theorem w549 : Cond.fieldLink "ContainerHost$Container" (9 : Nat) "ContainerHost$Container" "state" "I" ∈ lw_tbl := mt (i := 548) (by decide +kernel)
theorem w550 : Cond.fieldLink "ContainerHost" (191 : Nat) "ContainerHost$Container" "state" "I" ∈ lw_tbl := mt (i := 549) (by decide +kernel)
theorem w551 : Cond.fieldLink "ContainerHost$Checkpoint" (27 : Nat) "ContainerHost$Container" "memory" "I" ∈ lw_tbl := mt (i := 550) (by decide +kernel)
theorem w552 : Cond.fieldLink "ContainerHost$Container" (35 : Nat) "ContainerHost$Container" "memory" "I" ∈ lw_tbl := mt (i := 551) (by decide +kernel)
theorem w553 : Cond.fieldLink "ContainerHost" (211 : Nat) "ContainerHost$Container" "memory" "I" ∈ lw_tbl := mt (i := 552) (by decide +kernel)
theorem w554 : Cond.fieldLink "ContainerHost$Checkpoint" (31 : Nat) "ContainerHost$Container" "processes" "I" ∈ lw_tbl := mt (i := 553) (by decide +kernel)
theorem w555 : Cond.fieldLink "ContainerHost$Container" (38 : Nat) "ContainerHost$Container" "processes" "I" ∈ lw_tbl := mt (i := 554) (by decide +kernel)
theorem w556 : Cond.fieldLink "ContainerHost" (218 : Nat) "ContainerHost$Container" "processes" "I" ∈ lw_tbl := mt (i := 555) (by decide +kernel)
theorem w557 : Cond.fieldLink "ContainerHost$Container" (32 : Nat) "ContainerHost$Container" "time" "I" ∈ lw_tbl := mt (i := 556) (by decide +kernel)
theorem w558 : Cond.fieldLink "ContainerHost" (322 : Nat) "ContainerHost$Container" "time" "I" ∈ lw_tbl := mt (i := 557) (by decide +kernel)
theorem w559 : Cond.fieldLink "ContainerHost$Checkpoint" (35 : Nat) "ContainerHost$Container" "permitted" "I" ∈ lw_tbl := mt (i := 558) (by decide +kernel)
theorem w560 : Cond.fieldLink "ContainerHost" (176 : Nat) "ContainerHost$Container" "permitted" "I" ∈ lw_tbl := mt (i := 559) (by decide +kernel)
theorem w561 : Cond.fieldLink "ContainerHost$Checkpoint" (39 : Nat) "ContainerHost$Container" "effective" "I" ∈ lw_tbl := mt (i := 560) (by decide +kernel)
theorem w562 : Cond.fieldLink "ContainerHost" (179 : Nat) "ContainerHost$Container" "effective" "I" ∈ lw_tbl := mt (i := 561) (by decide +kernel)
theorem w563 : Cond.fieldLink "ContainerHost$Checkpoint" (43 : Nat) "ContainerHost$Container" "ports" "I" ∈ lw_tbl := mt (i := 562) (by decide +kernel)
theorem w564 : Cond.fieldLink "ContainerHost$Container" (48 : Nat) "ContainerHost$Container" "ports" "I" ∈ lw_tbl := mt (i := 563) (by decide +kernel)
theorem w565 : Cond.fieldLink "ContainerHost" (283 : Nat) "ContainerHost$Container" "ports" "I" ∈ lw_tbl := mt (i := 564) (by decide +kernel)
theorem w566 : Cond.fieldLink "ContainerHost$Container" (15 : Nat) "ContainerHost$Container" "bridge" "I" ∈ lw_tbl := mt (i := 565) (by decide +kernel)
theorem w567 : Cond.fieldLink "ContainerHost" (260 : Nat) "ContainerHost$Container" "bridge" "I" ∈ lw_tbl := mt (i := 566) (by decide +kernel)
theorem w568 : Cond.fieldLink "ContainerHost$Container" (18 : Nat) "ContainerHost$Container" "address" "I" ∈ lw_tbl := mt (i := 567) (by decide +kernel)
theorem w569 : Cond.fieldLink "ContainerHost" (265 : Nat) "ContainerHost$Container" "address" "I" ∈ lw_tbl := mt (i := 568) (by decide +kernel)
theorem w596 : Cond.methodLink "ContainerHost" (182 : Nat) ({ cls := "ContainerHost$Container", name := "charge", desc := "(II)V" } : MethodName) ∈ lw_tbl := mt (i := 595) (by decide +kernel)
theorem w597 : Cond.instanceMethod ({ cls := "ContainerHost$Container", name := "charge", desc := "(II)V" } : MethodName) ∈ lw_tbl := mt (i := 596) (by decide +kernel)
theorem w598 : Cond.selects "ContainerHost$Container" ({ cls := "ContainerHost$Container", name := "charge", desc := "(II)V" } : MethodName) ({ cls := "ContainerHost$Container", name := "charge", desc := "(II)V" } : MethodName) ∈ lw_tbl := mt (i := 597) (by decide +kernel)
theorem w604 : Cond.instanceMethod ({ cls := "ContainerHost", name := "pause", desc := "(I)V" } : MethodName) ∈ lw_tbl := mt (i := 645) (by decide +kernel)
theorem w605 : Cond.selects "ContainerHost" ({ cls := "ContainerHost", name := "pause", desc := "(I)V" } : MethodName) ({ cls := "ContainerHost", name := "pause", desc := "(I)V" } : MethodName) ∈ lw_tbl := mt (i := 646) (by decide +kernel)
theorem w607 : Cond.methodLink "ContainerHost" (188 : Nat) ({ cls := "ContainerHost", name := "runningAt", desc := "(I)LContainerHost$Container;" } : MethodName) ∈ lw_tbl := mt (i := 648) (by decide +kernel)
theorem w609 : Cond.instanceMethod ({ cls := "ContainerHost", name := "runningAt", desc := "(I)LContainerHost$Container;" } : MethodName) ∈ lw_tbl := mt (i := 650) (by decide +kernel)
theorem w611 : Cond.methodLink "ContainerHost" (203 : Nat) ({ cls := "ContainerHost", name := "requireRunning", desc := "(LContainerHost$Container;)V" } : MethodName) ∈ lw_tbl := mt (i := 652) (by decide +kernel)
theorem w612 : Cond.static ({ cls := "ContainerHost", name := "requireRunning", desc := "(LContainerHost$Container;)V" } : MethodName) ∈ lw_tbl := mt (i := 653) (by decide +kernel)
theorem w619 : Cond.instanceMethod ({ cls := "ContainerHost", name := "resume", desc := "(I)V" } : MethodName) ∈ lw_tbl := mt (i := 726) (by decide +kernel)
theorem w620 : Cond.selects "ContainerHost" ({ cls := "ContainerHost", name := "resume", desc := "(I)V" } : MethodName) ({ cls := "ContainerHost", name := "resume", desc := "(I)V" } : MethodName) ∈ lw_tbl := mt (i := 727) (by decide +kernel)
theorem w622 : Cond.methodLink "ContainerHost" (194 : Nat) ({ cls := "ContainerHost", name := "pausedAt", desc := "(I)LContainerHost$Container;" } : MethodName) ∈ lw_tbl := mt (i := 678) (by decide +kernel)
theorem w624 : Cond.instanceMethod ({ cls := "ContainerHost", name := "pausedAt", desc := "(I)LContainerHost$Container;" } : MethodName) ∈ lw_tbl := mt (i := 680) (by decide +kernel)
theorem w631 : Cond.instanceMethod ({ cls := "ContainerHost", name := "stop", desc := "(I)I" } : MethodName) ∈ lw_tbl := mt (i := 632) (by decide +kernel)
theorem w632 : Cond.selects "ContainerHost" ({ cls := "ContainerHost", name := "stop", desc := "(I)I" } : MethodName) ({ cls := "ContainerHost", name := "stop", desc := "(I)I" } : MethodName) ∈ lw_tbl := mt (i := 633) (by decide +kernel)
theorem w635 : Cond.methodLink "ContainerHost" (199 : Nat) ({ cls := "ContainerHost", name := "halt", desc := "(LContainerHost$Container;)I" } : MethodName) ∈ lw_tbl := mt (i := 636) (by decide +kernel)
theorem w637 : Cond.instanceMethod ({ cls := "ContainerHost", name := "halt", desc := "(LContainerHost$Container;)I" } : MethodName) ∈ lw_tbl := mt (i := 638) (by decide +kernel)
theorem w639 : Cond.methodLink "ContainerHost" (271 : Nat) ({ cls := "ContainerHost$Container", name := "leaveBridge", desc := "()V" } : MethodName) ∈ lw_tbl := mt (i := 640) (by decide +kernel)
theorem w640 : Cond.instanceMethod ({ cls := "ContainerHost$Container", name := "leaveBridge", desc := "()V" } : MethodName) ∈ lw_tbl := mt (i := 641) (by decide +kernel)
theorem w641 : Cond.selects "ContainerHost$Container" ({ cls := "ContainerHost$Container", name := "leaveBridge", desc := "()V" } : MethodName) ({ cls := "ContainerHost$Container", name := "leaveBridge", desc := "()V" } : MethodName) ∈ lw_tbl := mt (i := 642) (by decide +kernel)
theorem w647 : Cond.instanceMethod ({ cls := "ContainerHost", name := "allocate", desc := "(II)I" } : MethodName) ∈ lw_tbl := mt (i := 736) (by decide +kernel)
theorem w648 : Cond.selects "ContainerHost" ({ cls := "ContainerHost", name := "allocate", desc := "(II)I" } : MethodName) ({ cls := "ContainerHost", name := "allocate", desc := "(II)I" } : MethodName) ∈ lw_tbl := mt (i := 737) (by decide +kernel)
theorem w650 : Cond.methodLink "ContainerHost" (207 : Nat) ({ cls := "ContainerHost", name := "killUntilFits", desc := "(LContainerHost$Container;I)V" } : MethodName) ∈ lw_tbl := mt (i := 739) (by decide +kernel)
theorem w652 : Cond.instanceMethod ({ cls := "ContainerHost", name := "killUntilFits", desc := "(LContainerHost$Container;I)V" } : MethodName) ∈ lw_tbl := mt (i := 741) (by decide +kernel)
theorem w654 : Cond.methodLink "ContainerHost" (371 : Nat) ({ cls := "ContainerHost$Group", name := "firstWithoutMemory", desc := "(I)LContainerHost$Group;" } : MethodName) ∈ lw_tbl := mt (i := 743) (by decide +kernel)
theorem w655 : Cond.instanceMethod ({ cls := "ContainerHost$Group", name := "firstWithoutMemory", desc := "(I)LContainerHost$Group;" } : MethodName) ∈ lw_tbl := mt (i := 744) (by decide +kernel)
theorem w656 : Cond.selects "ContainerHost$Group" ({ cls := "ContainerHost$Group", name := "firstWithoutMemory", desc := "(I)LContainerHost$Group;" } : MethodName) ({ cls := "ContainerHost$Group", name := "firstWithoutMemory", desc := "(I)LContainerHost$Group;" } : MethodName) ∈ lw_tbl := mt (i := 745) (by decide +kernel)
theorem w658 : Cond.methodLink "ContainerHost" (374 : Nat) ({ cls := "ContainerHost", name := "largestIn", desc := "(LContainerHost$Group;)LContainerHost$Container;" } : MethodName) ∈ lw_tbl := mt (i := 747) (by decide +kernel)
theorem w660 : Cond.instanceMethod ({ cls := "ContainerHost", name := "largestIn", desc := "(LContainerHost$Group;)LContainerHost$Container;" } : MethodName) ∈ lw_tbl := mt (i := 749) (by decide +kernel)
theorem w662 : Cond.methodLink "ContainerHost" (250 : Nat) ({ cls := "ContainerHost$Group", name := "isWithin", desc := "(LContainerHost$Group;)Z" } : MethodName) ∈ lw_tbl := mt (i := 305) (by decide +kernel)
theorem w663 : Cond.instanceMethod ({ cls := "ContainerHost$Group", name := "isWithin", desc := "(LContainerHost$Group;)Z" } : MethodName) ∈ lw_tbl := mt (i := 306) (by decide +kernel)
theorem w664 : Cond.selects "ContainerHost$Group" ({ cls := "ContainerHost$Group", name := "isWithin", desc := "(LContainerHost$Group;)Z" } : MethodName) ({ cls := "ContainerHost$Group", name := "isWithin", desc := "(LContainerHost$Group;)Z" } : MethodName) ∈ lw_tbl := mt (i := 307) (by decide +kernel)
theorem w670 : Cond.instanceMethod ({ cls := "ContainerHost", name := "free", desc := "(II)I" } : MethodName) ∈ lw_tbl := mt (i := 752) (by decide +kernel)
theorem w671 : Cond.selects "ContainerHost" ({ cls := "ContainerHost", name := "free", desc := "(II)I" } : MethodName) ({ cls := "ContainerHost", name := "free", desc := "(II)I" } : MethodName) ∈ lw_tbl := mt (i := 753) (by decide +kernel)
theorem w678 : Cond.instanceMethod ({ cls := "ContainerHost", name := "fork", desc := "(I)I" } : MethodName) ∈ lw_tbl := mt (i := 757) (by decide +kernel)
theorem w679 : Cond.selects "ContainerHost" ({ cls := "ContainerHost", name := "fork", desc := "(I)I" } : MethodName) ({ cls := "ContainerHost", name := "fork", desc := "(I)I" } : MethodName) ∈ lw_tbl := mt (i := 758) (by decide +kernel)
theorem w685 : Cond.instanceMethod ({ cls := "ContainerHost", name := "exit", desc := "(I)I" } : MethodName) ∈ lw_tbl := mt (i := 761) (by decide +kernel)
theorem w686 : Cond.selects "ContainerHost" ({ cls := "ContainerHost", name := "exit", desc := "(I)I" } : MethodName) ({ cls := "ContainerHost", name := "exit", desc := "(I)I" } : MethodName) ∈ lw_tbl := mt (i := 762) (by decide +kernel)
theorem w692 : Cond.instanceMethod ({ cls := "ContainerHost", name := "schedule", desc := "(I)I" } : MethodName) ∈ lw_tbl := mt (i := 279) (by decide +kernel)
theorem w693 : Cond.selects "ContainerHost" ({ cls := "ContainerHost", name := "schedule", desc := "(I)I" } : MethodName) ({ cls := "ContainerHost", name := "schedule", desc := "(I)I" } : MethodName) ∈ lw_tbl := mt (i := 280) (by decide +kernel)
theorem w695 : Cond.methodLink "ContainerHost" (219 : Nat) ({ cls := "ContainerHost", name := "hasRunning", desc := "(LContainerHost$Group;)Z" } : MethodName) ∈ lw_tbl := mt (i := 301) (by decide +kernel)
theorem w697 : Cond.instanceMethod ({ cls := "ContainerHost", name := "hasRunning", desc := "(LContainerHost$Group;)Z" } : MethodName) ∈ lw_tbl := mt (i := 303) (by decide +kernel)
theorem w699 : Cond.methodLink "ContainerHost" (230 : Nat) ({ cls := "ContainerHost", name := "shareOut", desc := "(LContainerHost$Group;)V" } : MethodName) ∈ lw_tbl := mt (i := 309) (by decide +kernel)
theorem w701 : Cond.instanceMethod ({ cls := "ContainerHost", name := "shareOut", desc := "(LContainerHost$Group;)V" } : MethodName) ∈ lw_tbl := mt (i := 311) (by decide +kernel)
theorem w703 : Cond.methodLink "ContainerHost" (378 : Nat) ({ cls := "ContainerHost", name := "collectParts", desc := "(LContainerHost$Group;)I" } : MethodName) ∈ lw_tbl := mt (i := 313) (by decide +kernel)
theorem w705 : Cond.instanceMethod ({ cls := "ContainerHost", name := "collectParts", desc := "(LContainerHost$Group;)I" } : MethodName) ∈ lw_tbl := mt (i := 315) (by decide +kernel)
theorem w707 : Cond.methodLink "ContainerHost" (391 : Nat) ({ cls := "java/util/ArrayList", name := "clear", desc := "()V" } : MethodName) ∈ lw_tbl := mt (i := 317) (by decide +kernel)
theorem w708 : Cond.instanceMethod ({ cls := "java/util/ArrayList", name := "clear", desc := "()V" } : MethodName) ∈ lw_tbl := mt (i := 318) (by decide +kernel)
theorem w709 : Cond.selects "java/util/ArrayList" ({ cls := "java/util/ArrayList", name := "clear", desc := "()V" } : MethodName) ({ cls := "java/util/ArrayList", name := "clear", desc := "()V" } : MethodName) ∈ lw_tbl := mt (i := 319) (by decide +kernel)
theorem w716 : Cond.instanceMethod ({ cls := "ContainerHost$Container", name := "grant", desc := "(I)V" } : MethodName) ∈ lw_tbl := mt (i := 326) (by decide +kernel)
theorem w719 : Cond.instanceMethod ({ cls := "ContainerHost$Group", name := "grant", desc := "(I)V" } : MethodName) ∈ lw_tbl := mt (i := 329) (by decide +kernel)
theorem w721 : Cond.methodLink "ContainerHost" (388 : Nat) ({ cls := "ContainerHost", name := "grantLeft", desc := "(I)V" } : MethodName) ∈ lw_tbl := mt (i := 331) (by decide +kernel)
theorem w723 : Cond.instanceMethod ({ cls := "ContainerHost", name := "grantLeft", desc := "(I)V" } : MethodName) ∈ lw_tbl := mt (i := 333) (by decide +kernel)
theorem w725 : Cond.methodLink "ContainerHost" (399 : Nat) ({ cls := "ContainerHost", name := "greatestRemainder", desc := "()I" } : MethodName) ∈ lw_tbl := mt (i := 335) (by decide +kernel)
theorem w727 : Cond.instanceMethod ({ cls := "ContainerHost", name := "greatestRemainder", desc := "()I" } : MethodName) ∈ lw_tbl := mt (i := 337) (by decide +kernel)
theorem w733 : Cond.instanceMethod ({ cls := "ContainerHost", name := "writeFile", desc := "(III)I" } : MethodName) ∈ lw_tbl := mt (i := 765) (by decide +kernel)
theorem w734 : Cond.selects "ContainerHost" ({ cls := "ContainerHost", name := "writeFile", desc := "(III)I" } : MethodName) ({ cls := "ContainerHost", name := "writeFile", desc := "(III)I" } : MethodName) ∈ lw_tbl := mt (i := 766) (by decide +kernel)
theorem w736 : Cond.methodLink "ContainerHost" (234 : Nat) ({ cls := "ContainerHost", name := "requireMayChange", desc := "(LContainerHost$Container;I)V" } : MethodName) ∈ lw_tbl := mt (i := 768) (by decide +kernel)
theorem w737 : Cond.static ({ cls := "ContainerHost", name := "requireMayChange", desc := "(LContainerHost$Container;I)V" } : MethodName) ∈ lw_tbl := mt (i := 769) (by decide +kernel)
theorem w739 : Cond.methodLink "ContainerHost" (245 : Nat) ({ cls := "ContainerHost", name := "requireEffective", desc := "(LContainerHost$Container;I)V" } : MethodName) ∈ lw_tbl := mt (i := 771) (by decide +kernel)
theorem w740 : Cond.static ({ cls := "ContainerHost", name := "requireEffective", desc := "(LContainerHost$Container;I)V" } : MethodName) ∈ lw_tbl := mt (i := 772) (by decide +kernel)
theorem w747 : Cond.instanceMethod ({ cls := "ContainerHost", name := "removeFile", desc := "(II)I" } : MethodName) ∈ lw_tbl := mt (i := 776) (by decide +kernel)
theorem w748 : Cond.selects "ContainerHost" ({ cls := "ContainerHost", name := "removeFile", desc := "(II)I" } : MethodName) ({ cls := "ContainerHost", name := "removeFile", desc := "(II)I" } : MethodName) ∈ lw_tbl := mt (i := 777) (by decide +kernel)
theorem w754 : Cond.instanceMethod ({ cls := "ContainerHost", name := "fileOf", desc := "(II)I" } : MethodName) ∈ lw_tbl := mt (i := 625) (by decide +kernel)
theorem w755 : Cond.selects "ContainerHost" ({ cls := "ContainerHost", name := "fileOf", desc := "(II)I" } : MethodName) ({ cls := "ContainerHost", name := "fileOf", desc := "(II)I" } : MethodName) ∈ lw_tbl := mt (i := 626) (by decide +kernel)
theorem w761 : Cond.instanceMethod ({ cls := "ContainerHost", name := "plainFileOf", desc := "(II)I" } : MethodName) ∈ lw_tbl := mt (i := 866) (by decide +kernel)
theorem w762 : Cond.selects "ContainerHost" ({ cls := "ContainerHost", name := "plainFileOf", desc := "(II)I" } : MethodName) ({ cls := "ContainerHost", name := "plainFileOf", desc := "(II)I" } : MethodName) ∈ lw_tbl := mt (i := 867) (by decide +kernel)
theorem w764 : Cond.methodLink "ContainerHost" (237 : Nat) ({ cls := "ContainerHost$Layer", name := "fileBuiltUp", desc := "(I)I" } : MethodName) ∈ lw_tbl := mt (i := 869) (by decide +kernel)
theorem w765 : Cond.instanceMethod ({ cls := "ContainerHost$Layer", name := "fileBuiltUp", desc := "(I)I" } : MethodName) ∈ lw_tbl := mt (i := 870) (by decide +kernel)
theorem w766 : Cond.selects "ContainerHost$Layer" ({ cls := "ContainerHost$Layer", name := "fileBuiltUp", desc := "(I)I" } : MethodName) ({ cls := "ContainerHost$Layer", name := "fileBuiltUp", desc := "(I)I" } : MethodName) ∈ lw_tbl := mt (i := 871) (by decide +kernel)
theorem w768 : Cond.methodLink "ContainerHost$Layer" (52 : Nat) ({ cls := "ContainerHost$Layer", name := "atHeight", desc := "(I)LContainerHost$Layer;" } : MethodName) ∈ lw_tbl := mt (i := 873) (by decide +kernel)
theorem w773 : Cond.instanceMethod ({ cls := "ContainerHost", name := "raise", desc := "(II)I" } : MethodName) ∈ lw_tbl := mt (i := 792) (by decide +kernel)
theorem w774 : Cond.selects "ContainerHost" ({ cls := "ContainerHost", name := "raise", desc := "(II)I" } : MethodName) ({ cls := "ContainerHost", name := "raise", desc := "(II)I" } : MethodName) ∈ lw_tbl := mt (i := 793) (by decide +kernel)
theorem w776 : Cond.methodLink "ContainerHost" (240 : Nat) ({ cls := "ContainerHost", name := "requireCapability", desc := "(I)V" } : MethodName) ∈ lw_tbl := mt (i := 783) (by decide +kernel)
theorem w777 : Cond.static ({ cls := "ContainerHost", name := "requireCapability", desc := "(I)V" } : MethodName) ∈ lw_tbl := mt (i := 784) (by decide +kernel)
theorem w785 : Cond.instanceMethod ({ cls := "ContainerHost", name := "lower", desc := "(II)I" } : MethodName) ∈ lw_tbl := mt (i := 780) (by decide +kernel)
theorem w786 : Cond.selects "ContainerHost" ({ cls := "ContainerHost", name := "lower", desc := "(II)I" } : MethodName) ({ cls := "ContainerHost", name := "lower", desc := "(II)I" } : MethodName) ∈ lw_tbl := mt (i := 781) (by decide +kernel)
theorem w792 : Cond.instanceMethod ({ cls := "ContainerHost", name := "drop", desc := "(II)I" } : MethodName) ∈ lw_tbl := mt (i := 788) (by decide +kernel)
theorem w793 : Cond.selects "ContainerHost" ({ cls := "ContainerHost", name := "drop", desc := "(II)I" } : MethodName) ({ cls := "ContainerHost", name := "drop", desc := "(II)I" } : MethodName) ∈ lw_tbl := mt (i := 789) (by decide +kernel)
theorem w799 : Cond.instanceMethod ({ cls := "ContainerHost", name := "kill", desc := "(II)I" } : MethodName) ∈ lw_tbl := mt (i := 800) (by decide +kernel)
theorem w800 : Cond.selects "ContainerHost" ({ cls := "ContainerHost", name := "kill", desc := "(II)I" } : MethodName) ({ cls := "ContainerHost", name := "kill", desc := "(II)I" } : MethodName) ∈ lw_tbl := mt (i := 801) (by decide +kernel)
theorem w808 : Cond.instanceMethod ({ cls := "ContainerHost", name := "attach", desc := "(II)I" } : MethodName) ∈ lw_tbl := mt (i := 817) (by decide +kernel)
theorem w809 : Cond.selects "ContainerHost" ({ cls := "ContainerHost", name := "attach", desc := "(II)I" } : MethodName) ({ cls := "ContainerHost", name := "attach", desc := "(II)I" } : MethodName) ∈ lw_tbl := mt (i := 818) (by decide +kernel)
theorem w812 : Cond.methodLink "ContainerHost" (257 : Nat) ({ cls := "ContainerHost", name := "leastFreeAddress", desc := "(I)I" } : MethodName) ∈ lw_tbl := mt (i := 821) (by decide +kernel)
theorem w814 : Cond.instanceMethod ({ cls := "ContainerHost", name := "leastFreeAddress", desc := "(I)I" } : MethodName) ∈ lw_tbl := mt (i := 823) (by decide +kernel)
theorem w816 : Cond.methodLink "ContainerHost" (301 : Nat) ({ cls := "ContainerHost", name := "attachedAt", desc := "(II)LContainerHost$Container;" } : MethodName) ∈ lw_tbl := mt (i := 825) (by decide +kernel)
theorem w818 : Cond.instanceMethod ({ cls := "ContainerHost", name := "attachedAt", desc := "(II)LContainerHost$Container;" } : MethodName) ∈ lw_tbl := mt (i := 827) (by decide +kernel)
theorem w825 : Cond.instanceMethod ({ cls := "ContainerHost", name := "detach", desc := "(I)I" } : MethodName) ∈ lw_tbl := mt (i := 809) (by decide +kernel)
theorem w826 : Cond.selects "ContainerHost" ({ cls := "ContainerHost", name := "detach", desc := "(I)I" } : MethodName) ({ cls := "ContainerHost", name := "detach", desc := "(I)I" } : MethodName) ∈ lw_tbl := mt (i := 810) (by decide +kernel)
theorem w828 : Cond.methodLink "ContainerHost" (268 : Nat) ({ cls := "ContainerHost", name := "requireAttached", desc := "(LContainerHost$Container;)V" } : MethodName) ∈ lw_tbl := mt (i := 812) (by decide +kernel)
theorem w829 : Cond.static ({ cls := "ContainerHost", name := "requireAttached", desc := "(LContainerHost$Container;)V" } : MethodName) ∈ lw_tbl := mt (i := 813) (by decide +kernel)
theorem w836 : Cond.instanceMethod ({ cls := "ContainerHost", name := "listen", desc := "(II)I" } : MethodName) ∈ lw_tbl := mt (i := 854) (by decide +kernel)
theorem w837 : Cond.selects "ContainerHost" ({ cls := "ContainerHost", name := "listen", desc := "(II)I" } : MethodName) ({ cls := "ContainerHost", name := "listen", desc := "(II)I" } : MethodName) ∈ lw_tbl := mt (i := 855) (by decide +kernel)
theorem w839 : Cond.methodLink "ContainerHost" (274 : Nat) ({ cls := "ContainerHost", name := "requirePort", desc := "(I)V" } : MethodName) ∈ lw_tbl := mt (i := 845) (by decide +kernel)
theorem w840 : Cond.static ({ cls := "ContainerHost", name := "requirePort", desc := "(I)V" } : MethodName) ∈ lw_tbl := mt (i := 846) (by decide +kernel)
theorem w843 : Cond.methodLink "ContainerHost" (277 : Nat) ({ cls := "ContainerHost$Container", name := "listensOn", desc := "(I)Z" } : MethodName) ∈ lw_tbl := mt (i := 849) (by decide +kernel)
theorem w844 : Cond.instanceMethod ({ cls := "ContainerHost$Container", name := "listensOn", desc := "(I)Z" } : MethodName) ∈ lw_tbl := mt (i := 850) (by decide +kernel)
theorem w845 : Cond.selects "ContainerHost$Container" ({ cls := "ContainerHost$Container", name := "listensOn", desc := "(I)Z" } : MethodName) ({ cls := "ContainerHost$Container", name := "listensOn", desc := "(I)Z" } : MethodName) ∈ lw_tbl := mt (i := 851) (by decide +kernel)
theorem w848 : Cond.methodLink "ContainerHost" (286 : Nat) ({ cls := "java/lang/Integer", name := "bitCount", desc := "(I)I" } : MethodName) ∈ lw_tbl := mt (i := 858) (by decide +kernel)
theorem w856 : Cond.methodLink "ContainerHost" (291 : Nat) ({ cls := "ContainerHost", name := "requireHostPort", desc := "(I)V" } : MethodName) ∈ lw_tbl := mt (i := 837) (by decide +kernel)
theorem w857 : Cond.static ({ cls := "ContainerHost", name := "requireHostPort", desc := "(I)V" } : MethodName) ∈ lw_tbl := mt (i := 838) (by decide +kernel)
theorem w870 : Cond.instanceMethod ({ cls := "ContainerHost", name := "connect", desc := "(III)I" } : MethodName) ∈ lw_tbl := mt (i := 842) (by decide +kernel)
theorem w871 : Cond.selects "ContainerHost" ({ cls := "ContainerHost", name := "connect", desc := "(III)I" } : MethodName) ({ cls := "ContainerHost", name := "connect", desc := "(III)I" } : MethodName) ∈ lw_tbl := mt (i := 843) (by decide +kernel)
theorem w877 : Cond.instanceMethod ({ cls := "ContainerHost", name := "connectHost", desc := "(I)I" } : MethodName) ∈ lw_tbl := mt (i := 834) (by decide +kernel)
theorem w878 : Cond.selects "ContainerHost" ({ cls := "ContainerHost", name := "connectHost", desc := "(I)I" } : MethodName) ({ cls := "ContainerHost", name := "connectHost", desc := "(I)I" } : MethodName) ∈ lw_tbl := mt (i := 835) (by decide +kernel)
theorem w884 : Cond.instanceMethod ({ cls := "ContainerHost", name := "save", desc := "(I)I" } : MethodName) ∈ lw_tbl := mt (i := 675) (by decide +kernel)
theorem w885 : Cond.selects "ContainerHost" ({ cls := "ContainerHost", name := "save", desc := "(I)I" } : MethodName) ({ cls := "ContainerHost", name := "save", desc := "(I)I" } : MethodName) ∈ lw_tbl := mt (i := 676) (by decide +kernel)
theorem w888 : Cond.classLink "ContainerHost" (307 : Nat) "ContainerHost$Checkpoint" ∈ lw_tbl := mt (i := 684) (by decide +kernel)
theorem w889 : Cond.instantiable "ContainerHost$Checkpoint" (7 : Nat) ∈ lw_tbl := mt (i := 685) (by decide +kernel)
theorem w890 : Cond.methodLink "ContainerHost" (309 : Nat) ({ cls := "ContainerHost$Checkpoint", name := "<init>", desc := "(LContainerHost$Container;)V" } : MethodName) ∈ lw_tbl := mt (i := 686) (by decide +kernel)
theorem w891 : Cond.instanceMethod ({ cls := "ContainerHost$Checkpoint", name := "<init>", desc := "(LContainerHost$Container;)V" } : MethodName) ∈ lw_tbl := mt (i := 687) (by decide +kernel)
theorem w894 : Cond.methodLink "ContainerHost$Checkpoint" (13 : Nat) ({ cls := "ContainerHost$Layer", name := "copied", desc := "()LContainerHost$Layer;" } : MethodName) ∈ lw_tbl := mt (i := 690) (by decide +kernel)
theorem w895 : Cond.fieldLink "ContainerHost$Checkpoint" (19 : Nat) "ContainerHost$Checkpoint" "own" "LContainerHost$Layer;" ∈ lw_tbl := mt (i := 691) (by decide +kernel)
theorem w896 : Cond.fieldLink "ContainerHost" (315 : Nat) "ContainerHost$Checkpoint" "own" "LContainerHost$Layer;" ∈ lw_tbl := mt (i := 692) (by decide +kernel)
theorem w897 : Cond.fieldLink "ContainerHost$Checkpoint" (26 : Nat) "ContainerHost$Checkpoint" "shares" "I" ∈ lw_tbl := mt (i := 693) (by decide +kernel)
theorem w898 : Cond.fieldLink "ContainerHost" (316 : Nat) "ContainerHost$Checkpoint" "shares" "I" ∈ lw_tbl := mt (i := 694) (by decide +kernel)
theorem w899 : Cond.fieldLink "ContainerHost$Checkpoint" (30 : Nat) "ContainerHost$Checkpoint" "memory" "I" ∈ lw_tbl := mt (i := 695) (by decide +kernel)
theorem w900 : Cond.fieldLink "ContainerHost" (313 : Nat) "ContainerHost$Checkpoint" "memory" "I" ∈ lw_tbl := mt (i := 696) (by decide +kernel)
theorem w901 : Cond.fieldLink "ContainerHost$Checkpoint" (34 : Nat) "ContainerHost$Checkpoint" "processes" "I" ∈ lw_tbl := mt (i := 697) (by decide +kernel)
theorem w902 : Cond.fieldLink "ContainerHost" (314 : Nat) "ContainerHost$Checkpoint" "processes" "I" ∈ lw_tbl := mt (i := 698) (by decide +kernel)
theorem w903 : Cond.fieldLink "ContainerHost$Checkpoint" (38 : Nat) "ContainerHost$Checkpoint" "permitted" "I" ∈ lw_tbl := mt (i := 699) (by decide +kernel)
theorem w904 : Cond.fieldLink "ContainerHost" (319 : Nat) "ContainerHost$Checkpoint" "permitted" "I" ∈ lw_tbl := mt (i := 700) (by decide +kernel)
theorem w905 : Cond.fieldLink "ContainerHost$Checkpoint" (42 : Nat) "ContainerHost$Checkpoint" "effective" "I" ∈ lw_tbl := mt (i := 701) (by decide +kernel)
theorem w906 : Cond.fieldLink "ContainerHost" (320 : Nat) "ContainerHost$Checkpoint" "effective" "I" ∈ lw_tbl := mt (i := 702) (by decide +kernel)
theorem w907 : Cond.fieldLink "ContainerHost$Checkpoint" (46 : Nat) "ContainerHost$Checkpoint" "ports" "I" ∈ lw_tbl := mt (i := 703) (by decide +kernel)
theorem w908 : Cond.fieldLink "ContainerHost" (321 : Nat) "ContainerHost$Checkpoint" "ports" "I" ∈ lw_tbl := mt (i := 704) (by decide +kernel)
theorem w928 : Cond.instanceMethod ({ cls := "ContainerHost", name := "restore", desc := "(II)I" } : MethodName) ∈ lw_tbl := mt (i := 721) (by decide +kernel)
theorem w929 : Cond.selects "ContainerHost" ({ cls := "ContainerHost", name := "restore", desc := "(II)I" } : MethodName) ({ cls := "ContainerHost", name := "restore", desc := "(II)I" } : MethodName) ∈ lw_tbl := mt (i := 722) (by decide +kernel)
theorem w936 : Cond.instanceMethod ({ cls := "ContainerHost", name := "stateOf", desc := "(I)I" } : MethodName) ∈ lw_tbl := mt (i := 600) (by decide +kernel)
theorem w937 : Cond.selects "ContainerHost" ({ cls := "ContainerHost", name := "stateOf", desc := "(I)I" } : MethodName) ({ cls := "ContainerHost", name := "stateOf", desc := "(I)I" } : MethodName) ∈ lw_tbl := mt (i := 601) (by decide +kernel)
theorem w943 : Cond.instanceMethod ({ cls := "ContainerHost", name := "memoryOf", desc := "(I)I" } : MethodName) ∈ lw_tbl := mt (i := 609) (by decide +kernel)
theorem w944 : Cond.selects "ContainerHost" ({ cls := "ContainerHost", name := "memoryOf", desc := "(I)I" } : MethodName) ({ cls := "ContainerHost", name := "memoryOf", desc := "(I)I" } : MethodName) ∈ lw_tbl := mt (i := 610) (by decide +kernel)
theorem w950 : Cond.instanceMethod ({ cls := "ContainerHost", name := "timeOf", desc := "(I)I" } : MethodName) ∈ lw_tbl := mt (i := 613) (by decide +kernel)
theorem w951 : Cond.selects "ContainerHost" ({ cls := "ContainerHost", name := "timeOf", desc := "(I)I" } : MethodName) ({ cls := "ContainerHost", name := "timeOf", desc := "(I)I" } : MethodName) ∈ lw_tbl := mt (i := 614) (by decide +kernel)
theorem w957 : Cond.instanceMethod ({ cls := "ContainerHost", name := "capabilitiesOf", desc := "(I)I" } : MethodName) ∈ lw_tbl := mt (i := 621) (by decide +kernel)
theorem w958 : Cond.selects "ContainerHost" ({ cls := "ContainerHost", name := "capabilitiesOf", desc := "(I)I" } : MethodName) ({ cls := "ContainerHost", name := "capabilitiesOf", desc := "(I)I" } : MethodName) ∈ lw_tbl := mt (i := 622) (by decide +kernel)
theorem w964 : Cond.instanceMethod ({ cls := "ContainerHost", name := "addressOf", desc := "(I)I" } : MethodName) ∈ lw_tbl := mt (i := 617) (by decide +kernel)
theorem w965 : Cond.selects "ContainerHost" ({ cls := "ContainerHost", name := "addressOf", desc := "(I)I" } : MethodName) ({ cls := "ContainerHost", name := "addressOf", desc := "(I)I" } : MethodName) ∈ lw_tbl := mt (i := 618) (by decide +kernel)
theorem s_h_init : Cond.instanceMethod y_h_init ∈ lw_tbl := w28
theorem s_al_init : Cond.instanceMethod y_al_init ∈ lw_tbl := w36
theorem s_abl_init : Cond.instanceMethod y_abl_init ∈ lw_tbl := w39
theorem s_abc_init : Cond.instanceMethod y_abc_init ∈ lw_tbl := w42
theorem s_g_init : Cond.instanceMethod y_g_init ∈ lw_tbl := w64
theorem s_p_init : Cond.instanceMethod y_p_init ∈ lw_tbl := w67
theorem s_al_add_ngObject21 : Cond.instanceMethod y_al_add_ngObject21 ∈ lw_tbl := w107
theorem v_al_add_ngObject21 : Cond.selects y_al_add_ngObject21.cls y_al_add_ngObject21 y_al_add_ngObject21 ∈ lw_tbl := w108
theorem s_al_add_gObjectI41 : Cond.instanceMethod y_al_add_gObjectI41 ∈ lw_tbl := w112
theorem v_al_add_gObjectI41 : Cond.selects y_al_add_gObjectI41.cls y_al_add_gObjectI41 y_al_add_gObjectI41 ∈ lw_tbl := ms (i := 0) (q := (y_al_add_gObjectI41, 3)) (by decide +kernel)
theorem s_al_grow_21 : Cond.instanceMethod y_al_grow_21 ∈ lw_tbl := w116
theorem v_al_grow_21 : Cond.selects y_al_grow_21.cls y_al_grow_21 y_al_grow_21 ∈ lw_tbl := ms (i := 1) (q := (y_al_grow_21, 3)) (by decide +kernel)
theorem s_al_grow_I22 : Cond.instanceMethod y_al_grow_I22 ∈ lw_tbl := w120
theorem v_al_grow_I22 : Cond.selects y_al_grow_I22.cls y_al_grow_I22 y_al_grow_I22 ∈ lw_tbl := ms (i := 2) (q := (y_al_grow_I22, 3)) (by decide +kernel)
theorem s_as_newLength : Cond.static y_as_newLength ∈ lw_tbl := w123
theorem s_ma_max : Cond.static y_ma_max ∈ lw_tbl := w126
theorem s_ar_copyOf_gObjectI41 : Cond.static y_ar_copyOf_gObjectI41 ∈ lw_tbl := w133
theorem s_ar_copyOf_angClass58 : Cond.static y_ar_copyOf_angClass58 ∈ lw_tbl := w151
theorem s_ma_min : Cond.static y_ma_min ∈ lw_tbl := w157
theorem s_h_containers : Cond.instanceMethod y_h_containers ∈ lw_tbl := w187
theorem v_h_containers : Cond.selects y_h_containers.cls y_h_containers y_h_containers ∈ lw_tbl := w188
theorem s_al_size : Cond.instanceMethod y_al_size ∈ lw_tbl := w191
theorem v_al_size : Cond.selects y_al_size.cls y_al_size y_al_size ∈ lw_tbl := w192
theorem s_h_newImage : Cond.instanceMethod y_h_newImage ∈ lw_tbl := w200
theorem v_h_newImage : Cond.selects y_h_newImage.cls y_h_newImage y_h_newImage ∈ lw_tbl := w201
theorem s_h_imageAt : Cond.instanceMethod y_h_imageAt ∈ lw_tbl := w205
theorem v_h_imageAt : Cond.selects y_h_imageAt.cls y_h_imageAt y_h_imageAt ∈ lw_tbl := ms (i := 10) (q := (y_h_imageAt, 7)) (by decide +kernel)
theorem s_al_get : Cond.instanceMethod y_al_get ∈ lw_tbl := w276
theorem v_al_get : Cond.selects y_al_get.cls y_al_get y_al_get ∈ lw_tbl := w277
theorem s_ob_checkIndex : Cond.static y_ob_checkIndex ∈ lw_tbl := w280
theorem s_pr_checkIndex : Cond.static y_pr_checkIndex ∈ lw_tbl := w283
theorem s_al_elementData : Cond.instanceMethod y_al_elementData ∈ lw_tbl := w286
theorem v_al_elementData : Cond.selects y_al_elementData.cls y_al_elementData y_al_elementData ∈ lw_tbl := w287
theorem s_h_baseLayer : Cond.static y_h_baseLayer ∈ lw_tbl := w291
theorem s_h_requireImageSlot : Cond.instanceMethod y_h_requireImageSlot ∈ lw_tbl := w311
theorem v_h_requireImageSlot : Cond.selects y_h_requireImageSlot.cls y_h_requireImageSlot y_h_requireImageSlot ∈ lw_tbl := ms (i := 11) (q := (y_h_requireImageSlot, 7)) (by decide +kernel)
theorem s_l_init : Cond.instanceMethod y_l_init ∈ lw_tbl := w317
theorem s_h_addImage : Cond.instanceMethod y_h_addImage ∈ lw_tbl := w337
theorem v_h_addImage : Cond.selects y_h_addImage.cls y_h_addImage y_h_addImage ∈ lw_tbl := ms (i := 12) (q := (y_h_addImage, 7)) (by decide +kernel)
theorem s_i_init : Cond.instanceMethod y_i_init ∈ lw_tbl := w341
theorem s_h_write : Cond.instanceMethod y_h_write ∈ lw_tbl := w358
theorem v_h_write : Cond.selects y_h_write.cls y_h_write y_h_write ∈ lw_tbl := w359
theorem s_h_requireFile : Cond.static y_h_requireFile ∈ lw_tbl := w362
theorem s_h_requireWithin : Cond.static y_h_requireWithin ∈ lw_tbl := w366
theorem s_h_requireOpen : Cond.static y_h_requireOpen ∈ lw_tbl := w385
theorem s_l_fileSeen : Cond.instanceMethod y_l_fileSeen ∈ lw_tbl := w389
theorem v_l_fileSeen : Cond.selects y_l_fileSeen.cls y_l_fileSeen y_l_fileSeen ∈ lw_tbl := w390
theorem s_l_hidesBelow : Cond.instanceMethod y_l_hidesBelow ∈ lw_tbl := w393
theorem v_l_hidesBelow : Cond.selects y_l_hidesBelow.cls y_l_hidesBelow y_l_hidesBelow ∈ lw_tbl := w394
theorem s_l_laidOver : Cond.instanceMethod y_l_laidOver ∈ lw_tbl := w397
theorem v_l_laidOver : Cond.selects y_l_laidOver.cls y_l_laidOver y_l_laidOver ∈ lw_tbl := w398
theorem s_h_remove : Cond.instanceMethod y_h_remove ∈ lw_tbl := w404
theorem v_h_remove : Cond.selects y_h_remove.cls y_h_remove y_h_remove ∈ lw_tbl := w405
theorem s_h_whiteOut : Cond.static y_h_whiteOut ∈ lw_tbl := w408
theorem s_h_clear : Cond.instanceMethod y_h_clear ∈ lw_tbl := w415
theorem v_h_clear : Cond.selects y_h_clear.cls y_h_clear y_h_clear ∈ lw_tbl := w416
theorem s_l_filesSeenIn : Cond.instanceMethod y_l_filesSeenIn ∈ lw_tbl := w420
theorem v_l_filesSeenIn : Cond.selects y_l_filesSeenIn.cls y_l_filesSeenIn y_l_filesSeenIn ∈ lw_tbl := w421
theorem s_l_makeOpaque : Cond.instanceMethod y_l_makeOpaque ∈ lw_tbl := w425
theorem v_l_makeOpaque : Cond.selects y_l_makeOpaque.cls y_l_makeOpaque y_l_makeOpaque ∈ lw_tbl := w426
theorem s_h_seal : Cond.instanceMethod y_h_seal ∈ lw_tbl := w432
theorem v_h_seal : Cond.selects y_h_seal.cls y_h_seal y_h_seal ∈ lw_tbl := w433
theorem s_h_shown : Cond.instanceMethod y_h_shown ∈ lw_tbl := w439
theorem v_h_shown : Cond.selects y_h_shown.cls y_h_shown y_h_shown ∈ lw_tbl := w440
theorem s_h_entries : Cond.instanceMethod y_h_entries ∈ lw_tbl := w446
theorem v_h_entries : Cond.selects y_h_entries.cls y_h_entries y_h_entries ∈ lw_tbl := w447
theorem s_l_atHeight : Cond.instanceMethod y_l_atHeight ∈ lw_tbl := w451
theorem v_l_atHeight : Cond.selects y_l_atHeight.cls y_l_atHeight y_l_atHeight ∈ lw_tbl := w452
theorem s_l_countEntries : Cond.instanceMethod y_l_countEntries ∈ lw_tbl := w455
theorem v_l_countEntries : Cond.selects y_l_countEntries.cls y_l_countEntries y_l_countEntries ∈ lw_tbl := w456
theorem s_in_bitCount : Cond.static y_in_bitCount ∈ lw_tbl := w459
theorem s_h_commit : Cond.instanceMethod y_h_commit ∈ lw_tbl := w468
theorem v_h_commit : Cond.selects y_h_commit.cls y_h_commit y_h_commit ∈ lw_tbl := w469
theorem s_h_containerAt : Cond.instanceMethod y_h_containerAt ∈ lw_tbl := w473
theorem v_h_containerAt : Cond.selects y_h_containerAt.cls y_h_containerAt y_h_containerAt ∈ lw_tbl := ms (i := 15) (q := (y_h_containerAt, 7)) (by decide +kernel)
theorem s_l_copied : Cond.instanceMethod y_l_copied ∈ lw_tbl := w478
theorem v_l_copied : Cond.selects y_l_copied.cls y_l_copied y_l_copied ∈ lw_tbl := w479
theorem s_h_newGroup : Cond.instanceMethod y_h_newGroup ∈ lw_tbl := w488
theorem v_h_newGroup : Cond.selects y_h_newGroup.cls y_h_newGroup y_h_newGroup ∈ lw_tbl := w489
theorem s_h_groupAt : Cond.instanceMethod y_h_groupAt ∈ lw_tbl := w493
theorem v_h_groupAt : Cond.selects y_h_groupAt.cls y_h_groupAt y_h_groupAt ∈ lw_tbl := ms (i := 3) (q := (y_h_groupAt, 7)) (by decide +kernel)
theorem s_h_groupMemory : Cond.instanceMethod y_h_groupMemory ∈ lw_tbl := w501
theorem v_h_groupMemory : Cond.selects y_h_groupMemory.cls y_h_groupMemory y_h_groupMemory ∈ lw_tbl := w502
theorem s_h_groupProcesses : Cond.instanceMethod y_h_groupProcesses ∈ lw_tbl := w508
theorem v_h_groupProcesses : Cond.selects y_h_groupProcesses.cls y_h_groupProcesses y_h_groupProcesses ∈ lw_tbl := w509
theorem s_h_run : Cond.instanceMethod y_h_run ∈ lw_tbl := w515
theorem v_h_run : Cond.selects y_h_run.cls y_h_run y_h_run ∈ lw_tbl := w516
theorem s_h_requireContainerSlot : Cond.instanceMethod y_h_requireContainerSlot ∈ lw_tbl := w522
theorem v_h_requireContainerSlot : Cond.selects y_h_requireContainerSlot.cls y_h_requireContainerSlot y_h_requireContainerSlot ∈ lw_tbl := ms (i := 13) (q := (y_h_requireContainerSlot, 7)) (by decide +kernel)
theorem s_h_requireRoom : Cond.static y_h_requireRoom ∈ lw_tbl := w526
theorem s_g_hasRoom : Cond.instanceMethod y_g_hasRoom ∈ lw_tbl := w529
theorem v_g_hasRoom : Cond.selects y_g_hasRoom.cls y_g_hasRoom y_g_hasRoom ∈ lw_tbl := w530
theorem s_h_addContainer : Cond.instanceMethod y_h_addContainer ∈ lw_tbl := w535
theorem v_h_addContainer : Cond.selects y_h_addContainer.cls y_h_addContainer y_h_addContainer ∈ lw_tbl := ms (i := 14) (q := (y_h_addContainer, 7)) (by decide +kernel)
theorem s_c_init : Cond.instanceMethod y_c_init ∈ lw_tbl := w539
theorem s_c_charge : Cond.instanceMethod y_c_charge ∈ lw_tbl := w597
theorem v_c_charge : Cond.selects y_c_charge.cls y_c_charge y_c_charge ∈ lw_tbl := w598
theorem s_h_pause : Cond.instanceMethod y_h_pause ∈ lw_tbl := w604
theorem v_h_pause : Cond.selects y_h_pause.cls y_h_pause y_h_pause ∈ lw_tbl := w605
theorem s_h_runningAt : Cond.instanceMethod y_h_runningAt ∈ lw_tbl := w609
theorem v_h_runningAt : Cond.selects y_h_runningAt.cls y_h_runningAt y_h_runningAt ∈ lw_tbl := ms (i := 17) (q := (y_h_runningAt, 7)) (by decide +kernel)
theorem s_h_requireRunning : Cond.static y_h_requireRunning ∈ lw_tbl := w612
theorem s_h_resume : Cond.instanceMethod y_h_resume ∈ lw_tbl := w619
theorem v_h_resume : Cond.selects y_h_resume.cls y_h_resume y_h_resume ∈ lw_tbl := w620
theorem s_h_pausedAt : Cond.instanceMethod y_h_pausedAt ∈ lw_tbl := w624
theorem v_h_pausedAt : Cond.selects y_h_pausedAt.cls y_h_pausedAt y_h_pausedAt ∈ lw_tbl := ms (i := 18) (q := (y_h_pausedAt, 7)) (by decide +kernel)
theorem s_h_stop : Cond.instanceMethod y_h_stop ∈ lw_tbl := w631
theorem v_h_stop : Cond.selects y_h_stop.cls y_h_stop y_h_stop ∈ lw_tbl := w632
theorem s_h_halt : Cond.instanceMethod y_h_halt ∈ lw_tbl := w637
theorem v_h_halt : Cond.selects y_h_halt.cls y_h_halt y_h_halt ∈ lw_tbl := ms (i := 16) (q := (y_h_halt, 7)) (by decide +kernel)
theorem s_c_leaveBridge : Cond.instanceMethod y_c_leaveBridge ∈ lw_tbl := w640
theorem v_c_leaveBridge : Cond.selects y_c_leaveBridge.cls y_c_leaveBridge y_c_leaveBridge ∈ lw_tbl := w641
theorem s_h_allocate : Cond.instanceMethod y_h_allocate ∈ lw_tbl := w647
theorem v_h_allocate : Cond.selects y_h_allocate.cls y_h_allocate y_h_allocate ∈ lw_tbl := w648
theorem s_h_killUntilFits : Cond.instanceMethod y_h_killUntilFits ∈ lw_tbl := w652
theorem v_h_killUntilFits : Cond.selects y_h_killUntilFits.cls y_h_killUntilFits y_h_killUntilFits ∈ lw_tbl := ms (i := 19) (q := (y_h_killUntilFits, 7)) (by decide +kernel)
theorem s_g_firstWithoutMemory : Cond.instanceMethod y_g_firstWithoutMemory ∈ lw_tbl := w655
theorem v_g_firstWithoutMemory : Cond.selects y_g_firstWithoutMemory.cls y_g_firstWithoutMemory y_g_firstWithoutMemory ∈ lw_tbl := w656
theorem s_h_largestIn : Cond.instanceMethod y_h_largestIn ∈ lw_tbl := w660
theorem v_h_largestIn : Cond.selects y_h_largestIn.cls y_h_largestIn y_h_largestIn ∈ lw_tbl := ms (i := 20) (q := (y_h_largestIn, 7)) (by decide +kernel)
theorem s_g_isWithin : Cond.instanceMethod y_g_isWithin ∈ lw_tbl := w663
theorem v_g_isWithin : Cond.selects y_g_isWithin.cls y_g_isWithin y_g_isWithin ∈ lw_tbl := w664
theorem s_h_free : Cond.instanceMethod y_h_free ∈ lw_tbl := w670
theorem v_h_free : Cond.selects y_h_free.cls y_h_free y_h_free ∈ lw_tbl := w671
theorem s_h_fork : Cond.instanceMethod y_h_fork ∈ lw_tbl := w678
theorem v_h_fork : Cond.selects y_h_fork.cls y_h_fork y_h_fork ∈ lw_tbl := w679
theorem s_h_exit : Cond.instanceMethod y_h_exit ∈ lw_tbl := w685
theorem v_h_exit : Cond.selects y_h_exit.cls y_h_exit y_h_exit ∈ lw_tbl := w686
theorem s_h_schedule : Cond.instanceMethod y_h_schedule ∈ lw_tbl := w692
theorem v_h_schedule : Cond.selects y_h_schedule.cls y_h_schedule y_h_schedule ∈ lw_tbl := w693
theorem s_h_hasRunning : Cond.instanceMethod y_h_hasRunning ∈ lw_tbl := w697
theorem v_h_hasRunning : Cond.selects y_h_hasRunning.cls y_h_hasRunning y_h_hasRunning ∈ lw_tbl := ms (i := 5) (q := (y_h_hasRunning, 7)) (by decide +kernel)
theorem s_h_shareOut : Cond.instanceMethod y_h_shareOut ∈ lw_tbl := w701
theorem v_h_shareOut : Cond.selects y_h_shareOut.cls y_h_shareOut y_h_shareOut ∈ lw_tbl := ms (i := 6) (q := (y_h_shareOut, 7)) (by decide +kernel)
theorem s_h_collectParts : Cond.instanceMethod y_h_collectParts ∈ lw_tbl := w705
theorem v_h_collectParts : Cond.selects y_h_collectParts.cls y_h_collectParts y_h_collectParts ∈ lw_tbl := ms (i := 7) (q := (y_h_collectParts, 7)) (by decide +kernel)
theorem s_al_clear : Cond.instanceMethod y_al_clear ∈ lw_tbl := w708
theorem v_al_clear : Cond.selects y_al_clear.cls y_al_clear y_al_clear ∈ lw_tbl := w709
theorem s_c_grant : Cond.instanceMethod y_c_grant ∈ lw_tbl := w716
-- no selects: c_grant
theorem s_g_grant : Cond.instanceMethod y_g_grant ∈ lw_tbl := w719
-- no selects: g_grant
theorem s_h_grantLeft : Cond.instanceMethod y_h_grantLeft ∈ lw_tbl := w723
theorem v_h_grantLeft : Cond.selects y_h_grantLeft.cls y_h_grantLeft y_h_grantLeft ∈ lw_tbl := ms (i := 8) (q := (y_h_grantLeft, 7)) (by decide +kernel)
theorem s_h_greatestRemainder : Cond.instanceMethod y_h_greatestRemainder ∈ lw_tbl := w727
theorem v_h_greatestRemainder : Cond.selects y_h_greatestRemainder.cls y_h_greatestRemainder y_h_greatestRemainder ∈ lw_tbl := ms (i := 9) (q := (y_h_greatestRemainder, 7)) (by decide +kernel)
theorem s_h_writeFile : Cond.instanceMethod y_h_writeFile ∈ lw_tbl := w733
theorem v_h_writeFile : Cond.selects y_h_writeFile.cls y_h_writeFile y_h_writeFile ∈ lw_tbl := w734
theorem s_h_requireMayChange : Cond.static y_h_requireMayChange ∈ lw_tbl := w737
theorem s_h_requireEffective : Cond.static y_h_requireEffective ∈ lw_tbl := w740
theorem s_h_removeFile : Cond.instanceMethod y_h_removeFile ∈ lw_tbl := w747
theorem v_h_removeFile : Cond.selects y_h_removeFile.cls y_h_removeFile y_h_removeFile ∈ lw_tbl := w748
theorem s_h_fileOf : Cond.instanceMethod y_h_fileOf ∈ lw_tbl := w754
theorem v_h_fileOf : Cond.selects y_h_fileOf.cls y_h_fileOf y_h_fileOf ∈ lw_tbl := w755
theorem s_h_plainFileOf : Cond.instanceMethod y_h_plainFileOf ∈ lw_tbl := w761
theorem v_h_plainFileOf : Cond.selects y_h_plainFileOf.cls y_h_plainFileOf y_h_plainFileOf ∈ lw_tbl := w762
theorem s_l_fileBuiltUp : Cond.instanceMethod y_l_fileBuiltUp ∈ lw_tbl := w765
theorem v_l_fileBuiltUp : Cond.selects y_l_fileBuiltUp.cls y_l_fileBuiltUp y_l_fileBuiltUp ∈ lw_tbl := w766
theorem s_h_raise : Cond.instanceMethod y_h_raise ∈ lw_tbl := w773
theorem v_h_raise : Cond.selects y_h_raise.cls y_h_raise y_h_raise ∈ lw_tbl := w774
theorem s_h_requireCapability : Cond.static y_h_requireCapability ∈ lw_tbl := w777
theorem s_h_lower : Cond.instanceMethod y_h_lower ∈ lw_tbl := w785
theorem v_h_lower : Cond.selects y_h_lower.cls y_h_lower y_h_lower ∈ lw_tbl := w786
theorem s_h_drop : Cond.instanceMethod y_h_drop ∈ lw_tbl := w792
theorem v_h_drop : Cond.selects y_h_drop.cls y_h_drop y_h_drop ∈ lw_tbl := w793
theorem s_h_kill : Cond.instanceMethod y_h_kill ∈ lw_tbl := w799
theorem v_h_kill : Cond.selects y_h_kill.cls y_h_kill y_h_kill ∈ lw_tbl := w800
theorem s_h_attach : Cond.instanceMethod y_h_attach ∈ lw_tbl := w808
theorem v_h_attach : Cond.selects y_h_attach.cls y_h_attach y_h_attach ∈ lw_tbl := w809
theorem s_h_leastFreeAddress : Cond.instanceMethod y_h_leastFreeAddress ∈ lw_tbl := w814
theorem v_h_leastFreeAddress : Cond.selects y_h_leastFreeAddress.cls y_h_leastFreeAddress y_h_leastFreeAddress ∈ lw_tbl := ms (i := 21) (q := (y_h_leastFreeAddress, 7)) (by decide +kernel)
theorem s_h_attachedAt : Cond.instanceMethod y_h_attachedAt ∈ lw_tbl := w818
theorem v_h_attachedAt : Cond.selects y_h_attachedAt.cls y_h_attachedAt y_h_attachedAt ∈ lw_tbl := ms (i := 22) (q := (y_h_attachedAt, 7)) (by decide +kernel)
theorem s_h_detach : Cond.instanceMethod y_h_detach ∈ lw_tbl := w825
theorem v_h_detach : Cond.selects y_h_detach.cls y_h_detach y_h_detach ∈ lw_tbl := w826
theorem s_h_requireAttached : Cond.static y_h_requireAttached ∈ lw_tbl := w829
theorem s_h_listen : Cond.instanceMethod y_h_listen ∈ lw_tbl := w836
theorem v_h_listen : Cond.selects y_h_listen.cls y_h_listen y_h_listen ∈ lw_tbl := w837
theorem s_h_requirePort : Cond.static y_h_requirePort ∈ lw_tbl := w840
theorem s_c_listensOn : Cond.instanceMethod y_c_listensOn ∈ lw_tbl := w844
theorem v_c_listensOn : Cond.selects y_c_listensOn.cls y_c_listensOn y_c_listensOn ∈ lw_tbl := w845
theorem s_h_requireHostPort : Cond.static y_h_requireHostPort ∈ lw_tbl := w857
theorem s_h_connect : Cond.instanceMethod y_h_connect ∈ lw_tbl := w870
theorem v_h_connect : Cond.selects y_h_connect.cls y_h_connect y_h_connect ∈ lw_tbl := w871
theorem s_h_connectHost : Cond.instanceMethod y_h_connectHost ∈ lw_tbl := w877
theorem v_h_connectHost : Cond.selects y_h_connectHost.cls y_h_connectHost y_h_connectHost ∈ lw_tbl := w878
theorem s_h_save : Cond.instanceMethod y_h_save ∈ lw_tbl := w884
theorem v_h_save : Cond.selects y_h_save.cls y_h_save y_h_save ∈ lw_tbl := w885
theorem s_k_init : Cond.instanceMethod y_k_init ∈ lw_tbl := w891
theorem s_h_restore : Cond.instanceMethod y_h_restore ∈ lw_tbl := w928
theorem v_h_restore : Cond.selects y_h_restore.cls y_h_restore y_h_restore ∈ lw_tbl := w929
theorem s_h_stateOf : Cond.instanceMethod y_h_stateOf ∈ lw_tbl := w936
theorem v_h_stateOf : Cond.selects y_h_stateOf.cls y_h_stateOf y_h_stateOf ∈ lw_tbl := w937
theorem s_h_memoryOf : Cond.instanceMethod y_h_memoryOf ∈ lw_tbl := w943
theorem v_h_memoryOf : Cond.selects y_h_memoryOf.cls y_h_memoryOf y_h_memoryOf ∈ lw_tbl := w944
theorem s_h_timeOf : Cond.instanceMethod y_h_timeOf ∈ lw_tbl := w950
theorem v_h_timeOf : Cond.selects y_h_timeOf.cls y_h_timeOf y_h_timeOf ∈ lw_tbl := w951
theorem s_h_capabilitiesOf : Cond.instanceMethod y_h_capabilitiesOf ∈ lw_tbl := w957
theorem v_h_capabilitiesOf : Cond.selects y_h_capabilitiesOf.cls y_h_capabilitiesOf y_h_capabilitiesOf ∈ lw_tbl := w958
theorem s_h_addressOf : Cond.instanceMethod y_h_addressOf ∈ lw_tbl := w964
theorem v_h_addressOf : Cond.selects y_h_addressOf.cls y_h_addressOf y_h_addressOf ∈ lw_tbl := w965
theorem q_h_init_11 : callOk M_h_init M_al_init y_al_init k_al_init 11 0 := ⟨rfl, e_al_init, w35, w4, by decide, by decide +kernel, by decide, by decide⟩
theorem q_h_init_40 : callOk M_h_init M_g_init y_g_init k_g_init 40 4 := ⟨rfl, e_g_init, w63, w6, by decide, by decide +kernel, by decide, by decide⟩
theorem q_h_init_43 : callOk M_h_init M_al_add_ngObject21 y_al_add_ngObject21 k_al_add_ngObject21 43 1 := ⟨rfl, e_al_add_ngObject21, w106, w4, by decide, by decide +kernel, by decide, by decide⟩
theorem q_al_init_1 : callOk M_al_init M_abl_init y_abl_init k_abl_init 1 0 := ⟨rfl, e_abl_init, w38, w3, by decide, by decide +kernel, by decide, by decide⟩
theorem q_abl_init_1 : callOk M_abl_init M_abc_init y_abc_init k_abc_init 1 0 := ⟨rfl, e_abc_init, w41, w2, by decide, by decide +kernel, by decide, by decide⟩
theorem q_g_init_1 : callOk M_g_init M_p_init y_p_init k_p_init 1 1 := ⟨rfl, e_p_init, w66, w5, by decide, by decide +kernel, by decide, by decide⟩
theorem q_al_add_ngObject21_131 : callOk M_al_add_ngObject21 M_al_add_gObjectI41 y_al_add_gObjectI41 k_al_add_gObjectI41 131 3 := ⟨rfl, e_al_add_gObjectI41, w110, w4, by decide, by decide +kernel, by decide, by decide⟩
theorem q_al_add_gObjectI41_129 : callOk M_al_add_gObjectI41 M_al_grow_21 y_al_grow_21 k_al_grow_21 129 0 := ⟨rfl, e_al_grow_21, w114, w4, by decide, by decide +kernel, by decide, by decide⟩
theorem q_al_grow_21_69 : callOk M_al_grow_21 M_al_grow_I22 y_al_grow_I22 k_al_grow_I22 69 1 := ⟨rfl, e_al_grow_I22, w118, w4, by decide, by decide +kernel, by decide, by decide⟩
theorem q_al_grow_I22_73 : callOk M_al_grow_I22 M_as_newLength y_as_newLength k_as_newLength 73 3 := ⟨rfl, e_as_newLength, w122, w7, by decide, by decide +kernel, by decide, by decide⟩
theorem q_al_grow_I22_66 : callOk M_al_grow_I22 M_ar_copyOf_gObjectI41 y_ar_copyOf_gObjectI41 k_ar_copyOf_gObjectI41 66 2 := ⟨rfl, e_ar_copyOf_gObjectI41, w132, w9, by decide, by decide +kernel, by decide, by decide⟩
theorem q_al_grow_I22_79 : callOk M_al_grow_I22 M_ma_max y_ma_max k_ma_max 79 2 := ⟨rfl, e_ma_max, w162, w8, by decide, by decide +kernel, by decide, by decide⟩
theorem q_as_newLength_194 : callOk M_as_newLength M_ma_max y_ma_max k_ma_max 194 2 := ⟨rfl, e_ma_max, w125, w8, by decide, by decide +kernel, by decide, by decide⟩
theorem q_ar_copyOf_gObjectI41_300 : callOk M_ar_copyOf_gObjectI41 M_ar_copyOf_angClass58 y_ar_copyOf_angClass58 k_ar_copyOf_angClass58 300 3 := ⟨rfl, e_ar_copyOf_angClass58, w150, w9, by decide, by decide +kernel, by decide, by decide⟩
theorem q_ar_copyOf_angClass58_304 : callOk M_ar_copyOf_angClass58 M_ma_min y_ma_min k_ma_min 304 2 := ⟨rfl, e_ma_min, w156, w8, by decide, by decide +kernel, by decide, by decide⟩
theorem q_h_containers_147 : callOk M_h_containers M_al_size y_al_size k_al_size 147 0 := ⟨rfl, e_al_size, w190, w4, by decide, by decide +kernel, by decide, by decide⟩
theorem q_h_newImage_47 : callOk M_h_newImage M_h_imageAt y_h_imageAt k_h_imageAt 47 1 := ⟨rfl, e_h_imageAt, w203, w1, by decide, by decide +kernel, by decide, by decide⟩
theorem q_h_newImage_51 : callOk M_h_newImage M_h_baseLayer y_h_baseLayer k_h_baseLayer 51 1 := ⟨rfl, e_h_baseLayer, w290, w1, by decide, by decide +kernel, by decide, by decide⟩
theorem q_h_newImage_55 : callOk M_h_newImage M_h_requireImageSlot y_h_requireImageSlot k_h_requireImageSlot 55 0 := ⟨rfl, e_h_requireImageSlot, w309, w1, by decide, by decide +kernel, by decide, by decide⟩
theorem q_h_newImage_60 : callOk M_h_newImage M_l_init y_l_init k_l_init 60 1 := ⟨rfl, e_l_init, w316, w19, by decide, by decide +kernel, by decide, by decide⟩
theorem q_h_newImage_63 : callOk M_h_newImage M_h_addImage y_h_addImage k_h_addImage 63 2 := ⟨rfl, e_h_addImage, w335, w1, by decide, by decide +kernel, by decide, by decide⟩
theorem q_h_imageAt_147 : callOk M_h_imageAt M_al_size y_al_size k_al_size 147 0 := ⟨rfl, e_al_size, w190, w4, by decide, by decide +kernel, by decide, by decide⟩
theorem q_h_imageAt_226 : callOk M_h_imageAt M_al_get y_al_get k_al_get 226 1 := ⟨rfl, e_al_get, w275, w4, by decide, by decide +kernel, by decide, by decide⟩
theorem q_al_get_118 : callOk M_al_get M_ob_checkIndex y_ob_checkIndex k_ob_checkIndex 118 2 := ⟨rfl, e_ob_checkIndex, w279, w16, by decide, by decide +kernel, by decide, by decide⟩
theorem q_al_get_123 : callOk M_al_get M_al_elementData y_al_elementData k_al_elementData 123 1 := ⟨rfl, e_al_elementData, w285, w4, by decide, by decide +kernel, by decide, by decide⟩
theorem q_ob_checkIndex_105 : callOk M_ob_checkIndex M_pr_checkIndex y_pr_checkIndex k_pr_checkIndex 105 3 := ⟨rfl, e_pr_checkIndex, w282, w17, by decide, by decide +kernel, by decide, by decide⟩
theorem q_h_requireImageSlot_147 : callOk M_h_requireImageSlot M_al_size y_al_size k_al_size 147 0 := ⟨rfl, e_al_size, w190, w4, by decide, by decide +kernel, by decide, by decide⟩
theorem q_h_addImage_363 : callOk M_h_addImage M_i_init y_i_init k_i_init 363 2 := ⟨rfl, e_i_init, w340, w20, by decide, by decide +kernel, by decide, by decide⟩
theorem q_h_addImage_43 : callOk M_h_addImage M_al_add_ngObject21 y_al_add_ngObject21 k_al_add_ngObject21 43 1 := ⟨rfl, e_al_add_ngObject21, w106, w4, by decide, by decide +kernel, by decide, by decide⟩
theorem q_h_addImage_147 : callOk M_h_addImage M_al_size y_al_size k_al_size 147 0 := ⟨rfl, e_al_size, w190, w4, by decide, by decide +kernel, by decide, by decide⟩
theorem q_h_write_47 : callOk M_h_write M_h_imageAt y_h_imageAt k_h_imageAt 47 1 := ⟨rfl, e_h_imageAt, w203, w1, by decide, by decide +kernel, by decide, by decide⟩
theorem q_h_write_67 : callOk M_h_write M_h_requireFile y_h_requireFile k_h_requireFile 67 1 := ⟨rfl, e_h_requireFile, w361, w1, by decide, by decide +kernel, by decide, by decide⟩
theorem q_h_write_71 : callOk M_h_write M_h_requireWithin y_h_requireWithin k_h_requireWithin 71 2 := ⟨rfl, e_h_requireWithin, w365, w1, by decide, by decide +kernel, by decide, by decide⟩
theorem q_h_write_75 : callOk M_h_write M_h_requireOpen y_h_requireOpen k_h_requireOpen 75 1 := ⟨rfl, e_h_requireOpen, w384, w1, by decide, by decide +kernel, by decide, by decide⟩
theorem q_h_write_85 : callOk M_h_write M_l_fileSeen y_l_fileSeen k_l_fileSeen 85 1 := ⟨rfl, e_l_fileSeen, w388, w19, by decide, by decide +kernel, by decide, by decide⟩
theorem q_l_fileSeen_41 : callOk M_l_fileSeen M_l_hidesBelow y_l_hidesBelow k_l_hidesBelow 41 1 := ⟨rfl, e_l_hidesBelow, w392, w19, by decide, by decide +kernel, by decide, by decide⟩
theorem q_l_fileSeen_45 : callOk M_l_fileSeen M_l_laidOver y_l_laidOver k_l_laidOver 45 2 := ⟨rfl, e_l_laidOver, w396, w19, by decide, by decide +kernel, by decide, by decide⟩
theorem q_l_laidOver_41 : callOk M_l_laidOver M_l_hidesBelow y_l_hidesBelow k_l_hidesBelow 41 1 := ⟨rfl, e_l_hidesBelow, w392, w19, by decide, by decide +kernel, by decide, by decide⟩
theorem q_h_remove_47 : callOk M_h_remove M_h_imageAt y_h_imageAt k_h_imageAt 47 1 := ⟨rfl, e_h_imageAt, w203, w1, by decide, by decide +kernel, by decide, by decide⟩
theorem q_h_remove_67 : callOk M_h_remove M_h_requireFile y_h_requireFile k_h_requireFile 67 1 := ⟨rfl, e_h_requireFile, w361, w1, by decide, by decide +kernel, by decide, by decide⟩
theorem q_h_remove_75 : callOk M_h_remove M_h_requireOpen y_h_requireOpen k_h_requireOpen 75 1 := ⟨rfl, e_h_requireOpen, w384, w1, by decide, by decide +kernel, by decide, by decide⟩
theorem q_h_remove_92 : callOk M_h_remove M_h_whiteOut y_h_whiteOut k_h_whiteOut 92 2 := ⟨rfl, e_h_whiteOut, w407, w1, by decide, by decide +kernel, by decide, by decide⟩
theorem q_h_whiteOut_85 : callOk M_h_whiteOut M_l_fileSeen y_l_fileSeen k_l_fileSeen 85 1 := ⟨rfl, e_l_fileSeen, w388, w19, by decide, by decide +kernel, by decide, by decide⟩
theorem q_h_clear_47 : callOk M_h_clear M_h_imageAt y_h_imageAt k_h_imageAt 47 1 := ⟨rfl, e_h_imageAt, w203, w1, by decide, by decide +kernel, by decide, by decide⟩
theorem q_h_clear_75 : callOk M_h_clear M_h_requireOpen y_h_requireOpen k_h_requireOpen 75 1 := ⟨rfl, e_h_requireOpen, w384, w1, by decide, by decide +kernel, by decide, by decide⟩
theorem q_h_clear_103 : callOk M_h_clear M_l_filesSeenIn y_l_filesSeenIn k_l_filesSeenIn 103 1 := ⟨rfl, e_l_filesSeenIn, w419, w19, by decide, by decide +kernel, by decide, by decide⟩
theorem q_h_clear_106 : callOk M_h_clear M_l_makeOpaque y_l_makeOpaque k_l_makeOpaque 106 1 := ⟨rfl, e_l_makeOpaque, w424, w19, by decide, by decide +kernel, by decide, by decide⟩
theorem q_l_filesSeenIn_49 : callOk M_l_filesSeenIn M_l_fileSeen y_l_fileSeen k_l_fileSeen 49 1 := ⟨rfl, e_l_fileSeen, w423, w19, by decide, by decide +kernel, by decide, by decide⟩
theorem q_h_seal_47 : callOk M_h_seal M_h_imageAt y_h_imageAt k_h_imageAt 47 1 := ⟨rfl, e_h_imageAt, w203, w1, by decide, by decide +kernel, by decide, by decide⟩
theorem q_h_seal_75 : callOk M_h_seal M_h_requireOpen y_h_requireOpen k_h_requireOpen 75 1 := ⟨rfl, e_h_requireOpen, w384, w1, by decide, by decide +kernel, by decide, by decide⟩
theorem q_h_shown_47 : callOk M_h_shown M_h_imageAt y_h_imageAt k_h_imageAt 47 1 := ⟨rfl, e_h_imageAt, w203, w1, by decide, by decide +kernel, by decide, by decide⟩
theorem q_h_shown_67 : callOk M_h_shown M_h_requireFile y_h_requireFile k_h_requireFile 67 1 := ⟨rfl, e_h_requireFile, w361, w1, by decide, by decide +kernel, by decide, by decide⟩
theorem q_h_shown_85 : callOk M_h_shown M_l_fileSeen y_l_fileSeen k_l_fileSeen 85 1 := ⟨rfl, e_l_fileSeen, w388, w19, by decide, by decide +kernel, by decide, by decide⟩
theorem q_h_entries_47 : callOk M_h_entries M_h_imageAt y_h_imageAt k_h_imageAt 47 1 := ⟨rfl, e_h_imageAt, w203, w1, by decide, by decide +kernel, by decide, by decide⟩
theorem q_h_entries_119 : callOk M_h_entries M_l_atHeight y_l_atHeight k_l_atHeight 119 1 := ⟨rfl, e_l_atHeight, w450, w19, by decide, by decide +kernel, by decide, by decide⟩
theorem q_h_entries_123 : callOk M_h_entries M_l_countEntries y_l_countEntries k_l_countEntries 123 0 := ⟨rfl, e_l_countEntries, w454, w19, by decide, by decide +kernel, by decide, by decide⟩
theorem q_l_countEntries_35 : callOk M_l_countEntries M_in_bitCount y_in_bitCount k_in_bitCount 35 1 := ⟨rfl, e_in_bitCount, w458, w22, by decide, by decide +kernel, by decide, by decide⟩
theorem q_h_commit_127 : callOk M_h_commit M_h_containerAt y_h_containerAt k_h_containerAt 127 1 := ⟨rfl, e_h_containerAt, w471, w1, by decide, by decide +kernel, by decide, by decide⟩
theorem q_h_commit_55 : callOk M_h_commit M_h_requireImageSlot y_h_requireImageSlot k_h_requireImageSlot 55 0 := ⟨rfl, e_h_requireImageSlot, w309, w1, by decide, by decide +kernel, by decide, by decide⟩
theorem q_h_commit_139 : callOk M_h_commit M_l_copied y_l_copied k_l_copied 139 0 := ⟨rfl, e_l_copied, w477, w19, by decide, by decide +kernel, by decide, by decide⟩
theorem q_h_commit_63 : callOk M_h_commit M_h_addImage y_h_addImage k_h_addImage 63 2 := ⟨rfl, e_h_addImage, w335, w1, by decide, by decide +kernel, by decide, by decide⟩
theorem q_h_containerAt_147 : callOk M_h_containerAt M_al_size y_al_size k_al_size 147 0 := ⟨rfl, e_al_size, w190, w4, by decide, by decide +kernel, by decide, by decide⟩
theorem q_h_containerAt_226 : callOk M_h_containerAt M_al_get y_al_get k_al_get 226 1 := ⟨rfl, e_al_get, w275, w4, by decide, by decide +kernel, by decide, by decide⟩
theorem q_l_copied_23 : callOk M_l_copied M_l_init y_l_init k_l_init 23 1 := ⟨rfl, e_l_init, w482, w19, by decide, by decide +kernel, by decide, by decide⟩
theorem q_h_newGroup_143 : callOk M_h_newGroup M_h_groupAt y_h_groupAt k_h_groupAt 143 1 := ⟨rfl, e_h_groupAt, w491, w1, by decide, by decide +kernel, by decide, by decide⟩
theorem q_h_newGroup_71 : callOk M_h_newGroup M_h_requireWithin y_h_requireWithin k_h_requireWithin 71 2 := ⟨rfl, e_h_requireWithin, w365, w1, by decide, by decide +kernel, by decide, by decide⟩
theorem q_h_newGroup_147 : callOk M_h_newGroup M_al_size y_al_size k_al_size 147 0 := ⟨rfl, e_al_size, w190, w4, by decide, by decide +kernel, by decide, by decide⟩
theorem q_h_newGroup_40 : callOk M_h_newGroup M_g_init y_g_init k_g_init 40 4 := ⟨rfl, e_g_init, w63, w6, by decide, by decide +kernel, by decide, by decide⟩
theorem q_h_newGroup_43 : callOk M_h_newGroup M_al_add_ngObject21 y_al_add_ngObject21 k_al_add_ngObject21 43 1 := ⟨rfl, e_al_add_ngObject21, w106, w4, by decide, by decide +kernel, by decide, by decide⟩
theorem q_h_groupAt_147 : callOk M_h_groupAt M_al_size y_al_size k_al_size 147 0 := ⟨rfl, e_al_size, w190, w4, by decide, by decide +kernel, by decide, by decide⟩
theorem q_h_groupAt_226 : callOk M_h_groupAt M_al_get y_al_get k_al_get 226 1 := ⟨rfl, e_al_get, w275, w4, by decide, by decide +kernel, by decide, by decide⟩
theorem q_h_groupMemory_143 : callOk M_h_groupMemory M_h_groupAt y_h_groupAt k_h_groupAt 143 1 := ⟨rfl, e_h_groupAt, w491, w1, by decide, by decide +kernel, by decide, by decide⟩
theorem q_h_groupProcesses_143 : callOk M_h_groupProcesses M_h_groupAt y_h_groupAt k_h_groupAt 143 1 := ⟨rfl, e_h_groupAt, w491, w1, by decide, by decide +kernel, by decide, by decide⟩
theorem q_h_run_47 : callOk M_h_run M_h_imageAt y_h_imageAt k_h_imageAt 47 1 := ⟨rfl, e_h_imageAt, w203, w1, by decide, by decide +kernel, by decide, by decide⟩
theorem q_h_run_143 : callOk M_h_run M_h_groupAt y_h_groupAt k_h_groupAt 143 1 := ⟨rfl, e_h_groupAt, w491, w1, by decide, by decide +kernel, by decide, by decide⟩
theorem q_h_run_71 : callOk M_h_run M_h_requireWithin y_h_requireWithin k_h_requireWithin 71 2 := ⟨rfl, e_h_requireWithin, w365, w1, by decide, by decide +kernel, by decide, by decide⟩
theorem q_h_run_165 : callOk M_h_run M_h_requireContainerSlot y_h_requireContainerSlot k_h_requireContainerSlot 165 0 := ⟨rfl, e_h_requireContainerSlot, w520, w1, by decide, by decide +kernel, by decide, by decide⟩
theorem q_h_run_168 : callOk M_h_run M_h_requireRoom y_h_requireRoom k_h_requireRoom 168 3 := ⟨rfl, e_h_requireRoom, w525, w1, by decide, by decide +kernel, by decide, by decide⟩
theorem q_h_run_60 : callOk M_h_run M_l_init y_l_init k_l_init 60 1 := ⟨rfl, e_l_init, w316, w19, by decide, by decide +kernel, by decide, by decide⟩
theorem q_h_run_172 : callOk M_h_run M_h_addContainer y_h_addContainer k_h_addContainer 172 3 := ⟨rfl, e_h_addContainer, w533, w1, by decide, by decide +kernel, by decide, by decide⟩
theorem q_h_run_182 : callOk M_h_run M_c_charge y_c_charge k_c_charge 182 2 := ⟨rfl, e_c_charge, w596, w23, by decide, by decide +kernel, by decide, by decide⟩
theorem q_h_requireContainerSlot_147 : callOk M_h_requireContainerSlot M_al_size y_al_size k_al_size 147 0 := ⟨rfl, e_al_size, w190, w4, by decide, by decide +kernel, by decide, by decide⟩
theorem q_h_requireRoom_349 : callOk M_h_requireRoom M_g_hasRoom y_g_hasRoom k_g_hasRoom 349 2 := ⟨rfl, e_g_hasRoom, w528, w6, by decide, by decide +kernel, by decide, by decide⟩
theorem q_h_addContainer_147 : callOk M_h_addContainer M_al_size y_al_size k_al_size 147 0 := ⟨rfl, e_al_size, w190, w4, by decide, by decide +kernel, by decide, by decide⟩
theorem q_h_addContainer_368 : callOk M_h_addContainer M_c_init y_c_init k_c_init 368 4 := ⟨rfl, e_c_init, w538, w23, by decide, by decide +kernel, by decide, by decide⟩
theorem q_h_addContainer_43 : callOk M_h_addContainer M_al_add_ngObject21 y_al_add_ngObject21 k_al_add_ngObject21 43 1 := ⟨rfl, e_al_add_ngObject21, w106, w4, by decide, by decide +kernel, by decide, by decide⟩
theorem q_c_init_3 : callOk M_c_init M_p_init y_p_init k_p_init 3 1 := ⟨rfl, e_p_init, w541, w5, by decide, by decide +kernel, by decide, by decide⟩
theorem q_h_pause_188 : callOk M_h_pause M_h_runningAt y_h_runningAt k_h_runningAt 188 1 := ⟨rfl, e_h_runningAt, w607, w1, by decide, by decide +kernel, by decide, by decide⟩
theorem q_h_runningAt_127 : callOk M_h_runningAt M_h_containerAt y_h_containerAt k_h_containerAt 127 1 := ⟨rfl, e_h_containerAt, w471, w1, by decide, by decide +kernel, by decide, by decide⟩
theorem q_h_runningAt_203 : callOk M_h_runningAt M_h_requireRunning y_h_requireRunning k_h_requireRunning 203 1 := ⟨rfl, e_h_requireRunning, w611, w1, by decide, by decide +kernel, by decide, by decide⟩
theorem q_h_resume_194 : callOk M_h_resume M_h_pausedAt y_h_pausedAt k_h_pausedAt 194 1 := ⟨rfl, e_h_pausedAt, w622, w1, by decide, by decide +kernel, by decide, by decide⟩
theorem q_h_pausedAt_127 : callOk M_h_pausedAt M_h_containerAt y_h_containerAt k_h_containerAt 127 1 := ⟨rfl, e_h_containerAt, w471, w1, by decide, by decide +kernel, by decide, by decide⟩
theorem q_h_stop_127 : callOk M_h_stop M_h_containerAt y_h_containerAt k_h_containerAt 127 1 := ⟨rfl, e_h_containerAt, w471, w1, by decide, by decide +kernel, by decide, by decide⟩
theorem q_h_stop_199 : callOk M_h_stop M_h_halt y_h_halt k_h_halt 199 1 := ⟨rfl, e_h_halt, w635, w1, by decide, by decide +kernel, by decide, by decide⟩
theorem q_h_halt_182 : callOk M_h_halt M_c_charge y_c_charge k_c_charge 182 2 := ⟨rfl, e_c_charge, w596, w23, by decide, by decide +kernel, by decide, by decide⟩
theorem q_h_halt_271 : callOk M_h_halt M_c_leaveBridge y_c_leaveBridge k_c_leaveBridge 271 0 := ⟨rfl, e_c_leaveBridge, w639, w23, by decide, by decide +kernel, by decide, by decide⟩
theorem q_h_allocate_127 : callOk M_h_allocate M_h_containerAt y_h_containerAt k_h_containerAt 127 1 := ⟨rfl, e_h_containerAt, w471, w1, by decide, by decide +kernel, by decide, by decide⟩
theorem q_h_allocate_71 : callOk M_h_allocate M_h_requireWithin y_h_requireWithin k_h_requireWithin 71 2 := ⟨rfl, e_h_requireWithin, w365, w1, by decide, by decide +kernel, by decide, by decide⟩
theorem q_h_allocate_203 : callOk M_h_allocate M_h_requireRunning y_h_requireRunning k_h_requireRunning 203 1 := ⟨rfl, e_h_requireRunning, w611, w1, by decide, by decide +kernel, by decide, by decide⟩
theorem q_h_allocate_207 : callOk M_h_allocate M_h_killUntilFits y_h_killUntilFits k_h_killUntilFits 207 2 := ⟨rfl, e_h_killUntilFits, w650, w1, by decide, by decide +kernel, by decide, by decide⟩
theorem q_h_allocate_182 : callOk M_h_allocate M_c_charge y_c_charge k_c_charge 182 2 := ⟨rfl, e_c_charge, w596, w23, by decide, by decide +kernel, by decide, by decide⟩
theorem q_h_killUntilFits_147 : callOk M_h_killUntilFits M_al_size y_al_size k_al_size 147 0 := ⟨rfl, e_al_size, w190, w4, by decide, by decide +kernel, by decide, by decide⟩
theorem q_h_killUntilFits_371 : callOk M_h_killUntilFits M_g_firstWithoutMemory y_g_firstWithoutMemory k_g_firstWithoutMemory 371 1 := ⟨rfl, e_g_firstWithoutMemory, w654, w6, by decide, by decide +kernel, by decide, by decide⟩
theorem q_h_killUntilFits_374 : callOk M_h_killUntilFits M_h_largestIn y_h_largestIn k_h_largestIn 374 1 := ⟨rfl, e_h_largestIn, w658, w1, by decide, by decide +kernel, by decide, by decide⟩
theorem q_h_killUntilFits_199 : callOk M_h_killUntilFits M_h_halt y_h_halt k_h_halt 199 1 := ⟨rfl, e_h_halt, w635, w1, by decide, by decide +kernel, by decide, by decide⟩
theorem q_h_largestIn_147 : callOk M_h_largestIn M_al_size y_al_size k_al_size 147 0 := ⟨rfl, e_al_size, w190, w4, by decide, by decide +kernel, by decide, by decide⟩
theorem q_h_largestIn_226 : callOk M_h_largestIn M_al_get y_al_get k_al_get 226 1 := ⟨rfl, e_al_get, w275, w4, by decide, by decide +kernel, by decide, by decide⟩
theorem q_h_largestIn_250 : callOk M_h_largestIn M_g_isWithin y_g_isWithin k_g_isWithin 250 1 := ⟨rfl, e_g_isWithin, w662, w6, by decide, by decide +kernel, by decide, by decide⟩
theorem q_h_free_127 : callOk M_h_free M_h_containerAt y_h_containerAt k_h_containerAt 127 1 := ⟨rfl, e_h_containerAt, w471, w1, by decide, by decide +kernel, by decide, by decide⟩
theorem q_h_free_71 : callOk M_h_free M_h_requireWithin y_h_requireWithin k_h_requireWithin 71 2 := ⟨rfl, e_h_requireWithin, w365, w1, by decide, by decide +kernel, by decide, by decide⟩
theorem q_h_free_203 : callOk M_h_free M_h_requireRunning y_h_requireRunning k_h_requireRunning 203 1 := ⟨rfl, e_h_requireRunning, w611, w1, by decide, by decide +kernel, by decide, by decide⟩
theorem q_h_free_182 : callOk M_h_free M_c_charge y_c_charge k_c_charge 182 2 := ⟨rfl, e_c_charge, w596, w23, by decide, by decide +kernel, by decide, by decide⟩
theorem q_h_fork_188 : callOk M_h_fork M_h_runningAt y_h_runningAt k_h_runningAt 188 1 := ⟨rfl, e_h_runningAt, w607, w1, by decide, by decide +kernel, by decide, by decide⟩
theorem q_h_fork_168 : callOk M_h_fork M_h_requireRoom y_h_requireRoom k_h_requireRoom 168 3 := ⟨rfl, e_h_requireRoom, w525, w1, by decide, by decide +kernel, by decide, by decide⟩
theorem q_h_fork_182 : callOk M_h_fork M_c_charge y_c_charge k_c_charge 182 2 := ⟨rfl, e_c_charge, w596, w23, by decide, by decide +kernel, by decide, by decide⟩
theorem q_h_exit_188 : callOk M_h_exit M_h_runningAt y_h_runningAt k_h_runningAt 188 1 := ⟨rfl, e_h_runningAt, w607, w1, by decide, by decide +kernel, by decide, by decide⟩
theorem q_h_exit_182 : callOk M_h_exit M_c_charge y_c_charge k_c_charge 182 2 := ⟨rfl, e_c_charge, w596, w23, by decide, by decide +kernel, by decide, by decide⟩
theorem q_h_exit_199 : callOk M_h_exit M_h_halt y_h_halt k_h_halt 199 1 := ⟨rfl, e_h_halt, w635, w1, by decide, by decide +kernel, by decide, by decide⟩
theorem q_h_schedule_71 : callOk M_h_schedule M_h_requireWithin y_h_requireWithin k_h_requireWithin 71 2 := ⟨rfl, e_h_requireWithin, w365, w1, by decide, by decide +kernel, by decide, by decide⟩
theorem q_h_schedule_143 : callOk M_h_schedule M_h_groupAt y_h_groupAt k_h_groupAt 143 1 := ⟨rfl, e_h_groupAt, w491, w1, by decide, by decide +kernel, by decide, by decide⟩
theorem q_h_schedule_219 : callOk M_h_schedule M_h_hasRunning y_h_hasRunning k_h_hasRunning 219 1 := ⟨rfl, e_h_hasRunning, w695, w1, by decide, by decide +kernel, by decide, by decide⟩
theorem q_h_schedule_147 : callOk M_h_schedule M_al_size y_al_size k_al_size 147 0 := ⟨rfl, e_al_size, w190, w4, by decide, by decide +kernel, by decide, by decide⟩
theorem q_h_schedule_226 : callOk M_h_schedule M_al_get y_al_get k_al_get 226 1 := ⟨rfl, e_al_get, w275, w4, by decide, by decide +kernel, by decide, by decide⟩
theorem q_h_schedule_230 : callOk M_h_schedule M_h_shareOut y_h_shareOut k_h_shareOut 230 1 := ⟨rfl, e_h_shareOut, w699, w1, by decide, by decide +kernel, by decide, by decide⟩
theorem q_h_hasRunning_147 : callOk M_h_hasRunning M_al_size y_al_size k_al_size 147 0 := ⟨rfl, e_al_size, w190, w4, by decide, by decide +kernel, by decide, by decide⟩
theorem q_h_hasRunning_226 : callOk M_h_hasRunning M_al_get y_al_get k_al_get 226 1 := ⟨rfl, e_al_get, w275, w4, by decide, by decide +kernel, by decide, by decide⟩
theorem q_h_hasRunning_250 : callOk M_h_hasRunning M_g_isWithin y_g_isWithin k_g_isWithin 250 1 := ⟨rfl, e_g_isWithin, w662, w6, by decide, by decide +kernel, by decide, by decide⟩
theorem q_h_shareOut_378 : callOk M_h_shareOut M_h_collectParts y_h_collectParts k_h_collectParts 378 1 := ⟨rfl, e_h_collectParts, w703, w1, by decide, by decide +kernel, by decide, by decide⟩
theorem q_h_shareOut_147 : callOk M_h_shareOut M_al_size y_al_size k_al_size 147 0 := ⟨rfl, e_al_size, w190, w4, by decide, by decide +kernel, by decide, by decide⟩
theorem q_h_shareOut_226 : callOk M_h_shareOut M_al_get y_al_get k_al_get 226 1 := ⟨rfl, e_al_get, w275, w4, by decide, by decide +kernel, by decide, by decide⟩
theorem q_h_shareOut_388 : callOk M_h_shareOut M_h_grantLeft y_h_grantLeft k_h_grantLeft 388 1 := ⟨rfl, e_h_grantLeft, w721, w1, by decide, by decide +kernel, by decide, by decide⟩
theorem q_h_collectParts_391 : callOk M_h_collectParts M_al_clear y_al_clear k_al_clear 391 0 := ⟨rfl, e_al_clear, w707, w4, by decide, by decide +kernel, by decide, by decide⟩
theorem q_h_collectParts_147 : callOk M_h_collectParts M_al_size y_al_size k_al_size 147 0 := ⟨rfl, e_al_size, w190, w4, by decide, by decide +kernel, by decide, by decide⟩
theorem q_h_collectParts_226 : callOk M_h_collectParts M_al_get y_al_get k_al_get 226 1 := ⟨rfl, e_al_get, w275, w4, by decide, by decide +kernel, by decide, by decide⟩
theorem q_h_collectParts_219 : callOk M_h_collectParts M_h_hasRunning y_h_hasRunning k_h_hasRunning 219 1 := ⟨rfl, e_h_hasRunning, w695, w1, by decide, by decide +kernel, by decide, by decide⟩
theorem q_h_collectParts_43 : callOk M_h_collectParts M_al_add_ngObject21 y_al_add_ngObject21 k_al_add_ngObject21 43 1 := ⟨rfl, e_al_add_ngObject21, w106, w4, by decide, by decide +kernel, by decide, by decide⟩
theorem q_h_grantLeft_399 : callOk M_h_grantLeft M_h_greatestRemainder y_h_greatestRemainder k_h_greatestRemainder 399 0 := ⟨rfl, e_h_greatestRemainder, w725, w1, by decide, by decide +kernel, by decide, by decide⟩
theorem q_h_grantLeft_226 : callOk M_h_grantLeft M_al_get y_al_get k_al_get 226 1 := ⟨rfl, e_al_get, w275, w4, by decide, by decide +kernel, by decide, by decide⟩
theorem q_h_greatestRemainder_147 : callOk M_h_greatestRemainder M_al_size y_al_size k_al_size 147 0 := ⟨rfl, e_al_size, w190, w4, by decide, by decide +kernel, by decide, by decide⟩
theorem q_h_writeFile_127 : callOk M_h_writeFile M_h_containerAt y_h_containerAt k_h_containerAt 127 1 := ⟨rfl, e_h_containerAt, w471, w1, by decide, by decide +kernel, by decide, by decide⟩
theorem q_h_writeFile_67 : callOk M_h_writeFile M_h_requireFile y_h_requireFile k_h_requireFile 67 1 := ⟨rfl, e_h_requireFile, w361, w1, by decide, by decide +kernel, by decide, by decide⟩
theorem q_h_writeFile_71 : callOk M_h_writeFile M_h_requireWithin y_h_requireWithin k_h_requireWithin 71 2 := ⟨rfl, e_h_requireWithin, w365, w1, by decide, by decide +kernel, by decide, by decide⟩
theorem q_h_writeFile_234 : callOk M_h_writeFile M_h_requireMayChange y_h_requireMayChange k_h_requireMayChange 234 2 := ⟨rfl, e_h_requireMayChange, w736, w1, by decide, by decide +kernel, by decide, by decide⟩
theorem q_h_writeFile_85 : callOk M_h_writeFile M_l_fileSeen y_l_fileSeen k_l_fileSeen 85 1 := ⟨rfl, e_l_fileSeen, w388, w19, by decide, by decide +kernel, by decide, by decide⟩
theorem q_h_requireMayChange_203 : callOk M_h_requireMayChange M_h_requireRunning y_h_requireRunning k_h_requireRunning 203 1 := ⟨rfl, e_h_requireRunning, w611, w1, by decide, by decide +kernel, by decide, by decide⟩
theorem q_h_requireMayChange_245 : callOk M_h_requireMayChange M_h_requireEffective y_h_requireEffective k_h_requireEffective 245 2 := ⟨rfl, e_h_requireEffective, w739, w1, by decide, by decide +kernel, by decide, by decide⟩
theorem q_h_removeFile_127 : callOk M_h_removeFile M_h_containerAt y_h_containerAt k_h_containerAt 127 1 := ⟨rfl, e_h_containerAt, w471, w1, by decide, by decide +kernel, by decide, by decide⟩
theorem q_h_removeFile_67 : callOk M_h_removeFile M_h_requireFile y_h_requireFile k_h_requireFile 67 1 := ⟨rfl, e_h_requireFile, w361, w1, by decide, by decide +kernel, by decide, by decide⟩
theorem q_h_removeFile_234 : callOk M_h_removeFile M_h_requireMayChange y_h_requireMayChange k_h_requireMayChange 234 2 := ⟨rfl, e_h_requireMayChange, w736, w1, by decide, by decide +kernel, by decide, by decide⟩
theorem q_h_removeFile_92 : callOk M_h_removeFile M_h_whiteOut y_h_whiteOut k_h_whiteOut 92 2 := ⟨rfl, e_h_whiteOut, w407, w1, by decide, by decide +kernel, by decide, by decide⟩
theorem q_h_fileOf_127 : callOk M_h_fileOf M_h_containerAt y_h_containerAt k_h_containerAt 127 1 := ⟨rfl, e_h_containerAt, w471, w1, by decide, by decide +kernel, by decide, by decide⟩
theorem q_h_fileOf_67 : callOk M_h_fileOf M_h_requireFile y_h_requireFile k_h_requireFile 67 1 := ⟨rfl, e_h_requireFile, w361, w1, by decide, by decide +kernel, by decide, by decide⟩
theorem q_h_fileOf_85 : callOk M_h_fileOf M_l_fileSeen y_l_fileSeen k_l_fileSeen 85 1 := ⟨rfl, e_l_fileSeen, w388, w19, by decide, by decide +kernel, by decide, by decide⟩
theorem q_h_plainFileOf_127 : callOk M_h_plainFileOf M_h_containerAt y_h_containerAt k_h_containerAt 127 1 := ⟨rfl, e_h_containerAt, w471, w1, by decide, by decide +kernel, by decide, by decide⟩
theorem q_h_plainFileOf_67 : callOk M_h_plainFileOf M_h_requireFile y_h_requireFile k_h_requireFile 67 1 := ⟨rfl, e_h_requireFile, w361, w1, by decide, by decide +kernel, by decide, by decide⟩
theorem q_h_plainFileOf_237 : callOk M_h_plainFileOf M_l_fileBuiltUp y_l_fileBuiltUp k_l_fileBuiltUp 237 1 := ⟨rfl, e_l_fileBuiltUp, w764, w19, by decide, by decide +kernel, by decide, by decide⟩
theorem q_l_fileBuiltUp_52 : callOk M_l_fileBuiltUp M_l_atHeight y_l_atHeight k_l_atHeight 52 1 := ⟨rfl, e_l_atHeight, w768, w19, by decide, by decide +kernel, by decide, by decide⟩
theorem q_l_fileBuiltUp_45 : callOk M_l_fileBuiltUp M_l_laidOver y_l_laidOver k_l_laidOver 45 2 := ⟨rfl, e_l_laidOver, w396, w19, by decide, by decide +kernel, by decide, by decide⟩
theorem q_h_raise_127 : callOk M_h_raise M_h_containerAt y_h_containerAt k_h_containerAt 127 1 := ⟨rfl, e_h_containerAt, w471, w1, by decide, by decide +kernel, by decide, by decide⟩
theorem q_h_raise_240 : callOk M_h_raise M_h_requireCapability y_h_requireCapability k_h_requireCapability 240 1 := ⟨rfl, e_h_requireCapability, w776, w1, by decide, by decide +kernel, by decide, by decide⟩
theorem q_h_raise_203 : callOk M_h_raise M_h_requireRunning y_h_requireRunning k_h_requireRunning 203 1 := ⟨rfl, e_h_requireRunning, w611, w1, by decide, by decide +kernel, by decide, by decide⟩
theorem q_h_lower_127 : callOk M_h_lower M_h_containerAt y_h_containerAt k_h_containerAt 127 1 := ⟨rfl, e_h_containerAt, w471, w1, by decide, by decide +kernel, by decide, by decide⟩
theorem q_h_lower_240 : callOk M_h_lower M_h_requireCapability y_h_requireCapability k_h_requireCapability 240 1 := ⟨rfl, e_h_requireCapability, w776, w1, by decide, by decide +kernel, by decide, by decide⟩
theorem q_h_lower_203 : callOk M_h_lower M_h_requireRunning y_h_requireRunning k_h_requireRunning 203 1 := ⟨rfl, e_h_requireRunning, w611, w1, by decide, by decide +kernel, by decide, by decide⟩
theorem q_h_drop_127 : callOk M_h_drop M_h_containerAt y_h_containerAt k_h_containerAt 127 1 := ⟨rfl, e_h_containerAt, w471, w1, by decide, by decide +kernel, by decide, by decide⟩
theorem q_h_drop_240 : callOk M_h_drop M_h_requireCapability y_h_requireCapability k_h_requireCapability 240 1 := ⟨rfl, e_h_requireCapability, w776, w1, by decide, by decide +kernel, by decide, by decide⟩
theorem q_h_drop_203 : callOk M_h_drop M_h_requireRunning y_h_requireRunning k_h_requireRunning 203 1 := ⟨rfl, e_h_requireRunning, w611, w1, by decide, by decide +kernel, by decide, by decide⟩
theorem q_h_kill_127 : callOk M_h_kill M_h_containerAt y_h_containerAt k_h_containerAt 127 1 := ⟨rfl, e_h_containerAt, w471, w1, by decide, by decide +kernel, by decide, by decide⟩
theorem q_h_kill_203 : callOk M_h_kill M_h_requireRunning y_h_requireRunning k_h_requireRunning 203 1 := ⟨rfl, e_h_requireRunning, w611, w1, by decide, by decide +kernel, by decide, by decide⟩
theorem q_h_kill_245 : callOk M_h_kill M_h_requireEffective y_h_requireEffective k_h_requireEffective 245 2 := ⟨rfl, e_h_requireEffective, w739, w1, by decide, by decide +kernel, by decide, by decide⟩
theorem q_h_kill_250 : callOk M_h_kill M_g_isWithin y_g_isWithin k_g_isWithin 250 1 := ⟨rfl, e_g_isWithin, w662, w6, by decide, by decide +kernel, by decide, by decide⟩
theorem q_h_kill_199 : callOk M_h_kill M_h_halt y_h_halt k_h_halt 199 1 := ⟨rfl, e_h_halt, w635, w1, by decide, by decide +kernel, by decide, by decide⟩
theorem q_h_attach_127 : callOk M_h_attach M_h_containerAt y_h_containerAt k_h_containerAt 127 1 := ⟨rfl, e_h_containerAt, w471, w1, by decide, by decide +kernel, by decide, by decide⟩
theorem q_h_attach_203 : callOk M_h_attach M_h_requireRunning y_h_requireRunning k_h_requireRunning 203 1 := ⟨rfl, e_h_requireRunning, w611, w1, by decide, by decide +kernel, by decide, by decide⟩
theorem q_h_attach_245 : callOk M_h_attach M_h_requireEffective y_h_requireEffective k_h_requireEffective 245 2 := ⟨rfl, e_h_requireEffective, w739, w1, by decide, by decide +kernel, by decide, by decide⟩
theorem q_h_attach_257 : callOk M_h_attach M_h_leastFreeAddress y_h_leastFreeAddress k_h_leastFreeAddress 257 1 := ⟨rfl, e_h_leastFreeAddress, w812, w1, by decide, by decide +kernel, by decide, by decide⟩
theorem q_h_leastFreeAddress_301 : callOk M_h_leastFreeAddress M_h_attachedAt y_h_attachedAt k_h_attachedAt 301 2 := ⟨rfl, e_h_attachedAt, w816, w1, by decide, by decide +kernel, by decide, by decide⟩
theorem q_h_attachedAt_147 : callOk M_h_attachedAt M_al_size y_al_size k_al_size 147 0 := ⟨rfl, e_al_size, w190, w4, by decide, by decide +kernel, by decide, by decide⟩
theorem q_h_attachedAt_226 : callOk M_h_attachedAt M_al_get y_al_get k_al_get 226 1 := ⟨rfl, e_al_get, w275, w4, by decide, by decide +kernel, by decide, by decide⟩
theorem q_h_detach_188 : callOk M_h_detach M_h_runningAt y_h_runningAt k_h_runningAt 188 1 := ⟨rfl, e_h_runningAt, w607, w1, by decide, by decide +kernel, by decide, by decide⟩
theorem q_h_detach_268 : callOk M_h_detach M_h_requireAttached y_h_requireAttached k_h_requireAttached 268 1 := ⟨rfl, e_h_requireAttached, w828, w1, by decide, by decide +kernel, by decide, by decide⟩
theorem q_h_detach_271 : callOk M_h_detach M_c_leaveBridge y_c_leaveBridge k_c_leaveBridge 271 0 := ⟨rfl, e_c_leaveBridge, w639, w23, by decide, by decide +kernel, by decide, by decide⟩
theorem q_h_listen_127 : callOk M_h_listen M_h_containerAt y_h_containerAt k_h_containerAt 127 1 := ⟨rfl, e_h_containerAt, w471, w1, by decide, by decide +kernel, by decide, by decide⟩
theorem q_h_listen_274 : callOk M_h_listen M_h_requirePort y_h_requirePort k_h_requirePort 274 1 := ⟨rfl, e_h_requirePort, w839, w1, by decide, by decide +kernel, by decide, by decide⟩
theorem q_h_listen_203 : callOk M_h_listen M_h_requireRunning y_h_requireRunning k_h_requireRunning 203 1 := ⟨rfl, e_h_requireRunning, w611, w1, by decide, by decide +kernel, by decide, by decide⟩
theorem q_h_listen_277 : callOk M_h_listen M_c_listensOn y_c_listensOn k_c_listensOn 277 1 := ⟨rfl, e_c_listensOn, w843, w23, by decide, by decide +kernel, by decide, by decide⟩
theorem q_h_listen_245 : callOk M_h_listen M_h_requireEffective y_h_requireEffective k_h_requireEffective 245 2 := ⟨rfl, e_h_requireEffective, w739, w1, by decide, by decide +kernel, by decide, by decide⟩
theorem q_h_listen_286 : callOk M_h_listen M_in_bitCount y_in_bitCount k_in_bitCount 286 1 := ⟨rfl, e_in_bitCount, w848, w22, by decide, by decide +kernel, by decide, by decide⟩
theorem q_h_connect_127 : callOk M_h_connect M_h_containerAt y_h_containerAt k_h_containerAt 127 1 := ⟨rfl, e_h_containerAt, w471, w1, by decide, by decide +kernel, by decide, by decide⟩
theorem q_h_connect_274 : callOk M_h_connect M_h_requirePort y_h_requirePort k_h_requirePort 274 1 := ⟨rfl, e_h_requirePort, w839, w1, by decide, by decide +kernel, by decide, by decide⟩
theorem q_h_connect_71 : callOk M_h_connect M_h_requireWithin y_h_requireWithin k_h_requireWithin 71 2 := ⟨rfl, e_h_requireWithin, w365, w1, by decide, by decide +kernel, by decide, by decide⟩
theorem q_h_connect_203 : callOk M_h_connect M_h_requireRunning y_h_requireRunning k_h_requireRunning 203 1 := ⟨rfl, e_h_requireRunning, w611, w1, by decide, by decide +kernel, by decide, by decide⟩
theorem q_h_connect_268 : callOk M_h_connect M_h_requireAttached y_h_requireAttached k_h_requireAttached 268 1 := ⟨rfl, e_h_requireAttached, w828, w1, by decide, by decide +kernel, by decide, by decide⟩
theorem q_h_connect_301 : callOk M_h_connect M_h_attachedAt y_h_attachedAt k_h_attachedAt 301 2 := ⟨rfl, e_h_attachedAt, w816, w1, by decide, by decide +kernel, by decide, by decide⟩
theorem q_h_connect_277 : callOk M_h_connect M_c_listensOn y_c_listensOn k_c_listensOn 277 1 := ⟨rfl, e_c_listensOn, w843, w23, by decide, by decide +kernel, by decide, by decide⟩
theorem q_h_connectHost_291 : callOk M_h_connectHost M_h_requireHostPort y_h_requireHostPort k_h_requireHostPort 291 1 := ⟨rfl, e_h_requireHostPort, w856, w1, by decide, by decide +kernel, by decide, by decide⟩
theorem q_h_save_194 : callOk M_h_save M_h_pausedAt y_h_pausedAt k_h_pausedAt 194 1 := ⟨rfl, e_h_pausedAt, w622, w1, by decide, by decide +kernel, by decide, by decide⟩
theorem q_h_save_147 : callOk M_h_save M_al_size y_al_size k_al_size 147 0 := ⟨rfl, e_al_size, w190, w4, by decide, by decide +kernel, by decide, by decide⟩
theorem q_h_save_309 : callOk M_h_save M_k_init y_k_init k_k_init 309 1 := ⟨rfl, e_k_init, w890, w24, by decide, by decide +kernel, by decide, by decide⟩
theorem q_h_save_43 : callOk M_h_save M_al_add_ngObject21 y_al_add_ngObject21 k_al_add_ngObject21 43 1 := ⟨rfl, e_al_add_ngObject21, w106, w4, by decide, by decide +kernel, by decide, by decide⟩
theorem q_k_init_13 : callOk M_k_init M_l_copied y_l_copied k_l_copied 13 0 := ⟨rfl, e_l_copied, w894, w19, by decide, by decide +kernel, by decide, by decide⟩
theorem q_h_restore_147 : callOk M_h_restore M_al_size y_al_size k_al_size 147 0 := ⟨rfl, e_al_size, w190, w4, by decide, by decide +kernel, by decide, by decide⟩
theorem q_h_restore_226 : callOk M_h_restore M_al_get y_al_get k_al_get 226 1 := ⟨rfl, e_al_get, w275, w4, by decide, by decide +kernel, by decide, by decide⟩
theorem q_h_restore_143 : callOk M_h_restore M_h_groupAt y_h_groupAt k_h_groupAt 143 1 := ⟨rfl, e_h_groupAt, w491, w1, by decide, by decide +kernel, by decide, by decide⟩
theorem q_h_restore_165 : callOk M_h_restore M_h_requireContainerSlot y_h_requireContainerSlot k_h_requireContainerSlot 165 0 := ⟨rfl, e_h_requireContainerSlot, w520, w1, by decide, by decide +kernel, by decide, by decide⟩
theorem q_h_restore_168 : callOk M_h_restore M_h_requireRoom y_h_requireRoom k_h_requireRoom 168 3 := ⟨rfl, e_h_requireRoom, w525, w1, by decide, by decide +kernel, by decide, by decide⟩
theorem q_h_restore_139 : callOk M_h_restore M_l_copied y_l_copied k_l_copied 139 0 := ⟨rfl, e_l_copied, w477, w19, by decide, by decide +kernel, by decide, by decide⟩
theorem q_h_restore_172 : callOk M_h_restore M_h_addContainer y_h_addContainer k_h_addContainer 172 3 := ⟨rfl, e_h_addContainer, w533, w1, by decide, by decide +kernel, by decide, by decide⟩
theorem q_h_restore_182 : callOk M_h_restore M_c_charge y_c_charge k_c_charge 182 2 := ⟨rfl, e_c_charge, w596, w23, by decide, by decide +kernel, by decide, by decide⟩
theorem q_h_stateOf_127 : callOk M_h_stateOf M_h_containerAt y_h_containerAt k_h_containerAt 127 1 := ⟨rfl, e_h_containerAt, w471, w1, by decide, by decide +kernel, by decide, by decide⟩
theorem q_h_memoryOf_127 : callOk M_h_memoryOf M_h_containerAt y_h_containerAt k_h_containerAt 127 1 := ⟨rfl, e_h_containerAt, w471, w1, by decide, by decide +kernel, by decide, by decide⟩
theorem q_h_timeOf_127 : callOk M_h_timeOf M_h_containerAt y_h_containerAt k_h_containerAt 127 1 := ⟨rfl, e_h_containerAt, w471, w1, by decide, by decide +kernel, by decide, by decide⟩
theorem q_h_capabilitiesOf_127 : callOk M_h_capabilitiesOf M_h_containerAt y_h_containerAt k_h_containerAt 127 1 := ⟨rfl, e_h_containerAt, w471, w1, by decide, by decide +kernel, by decide, by decide⟩
theorem q_h_addressOf_127 : callOk M_h_addressOf M_h_containerAt y_h_containerAt k_h_containerAt 127 1 := ⟨rfl, e_h_containerAt, w471, w1, by decide, by decide +kernel, by decide, by decide⟩
