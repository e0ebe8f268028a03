theorem w25 : Cond.classLink "ContainerHostLaw" (8 : Nat) "ContainerHost" ∈ lw_tbl := mt (i := 25) (by decide +kernel)
theorem w195 : Cond.static ({ cls := "ContainerHostLaw", name := "newImage", desc := "(LContainerHost;I[J)I" } : MethodName) ∈ lw_tbl := mt (i := 195) (by decide +kernel)
theorem w197 : Cond.classLink "ContainerHostLaw" (13 : Nat) "java/lang/IndexOutOfBoundsException" ∈ lw_tbl := mt (i := 197) (by decide +kernel)
theorem w198 : Cond.classLink "ContainerHostLaw" (15 : Nat) "java/lang/IllegalStateException" ∈ lw_tbl := mt (i := 198) (by decide +kernel)
theorem w199 : Cond.methodLink "ContainerHostLaw" (7 : Nat) ({ cls := "ContainerHost", name := "newImage", desc := "(I)I" } : MethodName) ∈ lw_tbl := mt (i := 199) (by decide +kernel)
theorem w209 : Cond.castable "java/lang/IndexOutOfBoundsException" "java/lang/IndexOutOfBoundsException" ∈ lw_tbl := mt (i := 209) (by decide +kernel)
theorem w295 : Cond.castable "java/lang/IllegalStateException" "java/lang/IllegalStateException" ∈ lw_tbl := mt (i := 295) (by decide +kernel)
theorem w354 : Cond.static ({ cls := "ContainerHostLaw", name := "write", desc := "(LContainerHost;III[J)I" } : MethodName) ∈ lw_tbl := mt (i := 354) (by decide +kernel)
theorem w356 : Cond.classLink "ContainerHostLaw" (21 : Nat) "java/lang/IllegalArgumentException" ∈ lw_tbl := mt (i := 356) (by decide +kernel)
theorem w357 : Cond.methodLink "ContainerHostLaw" (17 : Nat) ({ cls := "ContainerHost", name := "write", desc := "(III)I" } : MethodName) ∈ lw_tbl := mt (i := 357) (by decide +kernel)
theorem w370 : Cond.castable "java/lang/IllegalArgumentException" "java/lang/IllegalArgumentException" ∈ lw_tbl := mt (i := 370) (by decide +kernel)
theorem w401 : Cond.static ({ cls := "ContainerHostLaw", name := "remove", desc := "(LContainerHost;II[J)I" } : MethodName) ∈ lw_tbl := mt (i := 401) (by decide +kernel)
theorem w403 : Cond.methodLink "ContainerHostLaw" (23 : Nat) ({ cls := "ContainerHost", name := "remove", desc := "(II)I" } : MethodName) ∈ lw_tbl := mt (i := 403) (by decide +kernel)
theorem w412 : Cond.static ({ cls := "ContainerHostLaw", name := "clear", desc := "(LContainerHost;II[J)I" } : MethodName) ∈ lw_tbl := mt (i := 412) (by decide +kernel)
theorem w414 : Cond.methodLink "ContainerHostLaw" (27 : Nat) ({ cls := "ContainerHost", name := "clear", desc := "(II)I" } : MethodName) ∈ lw_tbl := mt (i := 414) (by decide +kernel)
theorem w429 : Cond.static ({ cls := "ContainerHostLaw", name := "seal", desc := "(LContainerHost;I[J)I" } : MethodName) ∈ lw_tbl := mt (i := 429) (by decide +kernel)
theorem w431 : Cond.methodLink "ContainerHostLaw" (30 : Nat) ({ cls := "ContainerHost", name := "seal", desc := "(I)I" } : MethodName) ∈ lw_tbl := mt (i := 431) (by decide +kernel)
theorem w436 : Cond.static ({ cls := "ContainerHostLaw", name := "shown", desc := "(LContainerHost;II[J)I" } : MethodName) ∈ lw_tbl := mt (i := 436) (by decide +kernel)
theorem w438 : Cond.methodLink "ContainerHostLaw" (33 : Nat) ({ cls := "ContainerHost", name := "shown", desc := "(II)I" } : MethodName) ∈ lw_tbl := mt (i := 438) (by decide +kernel)
theorem w443 : Cond.static ({ cls := "ContainerHostLaw", name := "entries", desc := "(LContainerHost;II[J)I" } : MethodName) ∈ lw_tbl := mt (i := 443) (by decide +kernel)
theorem w445 : Cond.methodLink "ContainerHostLaw" (36 : Nat) ({ cls := "ContainerHost", name := "entries", desc := "(II)I" } : MethodName) ∈ lw_tbl := mt (i := 445) (by decide +kernel)
theorem w465 : Cond.static ({ cls := "ContainerHostLaw", name := "commit", desc := "(LContainerHost;I[J)I" } : MethodName) ∈ lw_tbl := mt (i := 465) (by decide +kernel)
theorem w467 : Cond.methodLink "ContainerHostLaw" (39 : Nat) ({ cls := "ContainerHost", name := "commit", desc := "(I)I" } : MethodName) ∈ lw_tbl := mt (i := 467) (by decide +kernel)
theorem w485 : Cond.static ({ cls := "ContainerHostLaw", name := "newGroup", desc := "(LContainerHost;IIII[J)I" } : MethodName) ∈ lw_tbl := mt (i := 485) (by decide +kernel)
theorem w487 : Cond.methodLink "ContainerHostLaw" (42 : Nat) ({ cls := "ContainerHost", name := "newGroup", desc := "(IIII)I" } : MethodName) ∈ lw_tbl := mt (i := 487) (by decide +kernel)
theorem w498 : Cond.static ({ cls := "ContainerHostLaw", name := "groupMemory", desc := "(LContainerHost;I[J)I" } : MethodName) ∈ lw_tbl := mt (i := 498) (by decide +kernel)
theorem w500 : Cond.methodLink "ContainerHostLaw" (46 : Nat) ({ cls := "ContainerHost", name := "groupMemory", desc := "(I)I" } : MethodName) ∈ lw_tbl := mt (i := 500) (by decide +kernel)
theorem w505 : Cond.static ({ cls := "ContainerHostLaw", name := "groupProcesses", desc := "(LContainerHost;I[J)I" } : MethodName) ∈ lw_tbl := mt (i := 505) (by decide +kernel)
theorem w507 : Cond.methodLink "ContainerHostLaw" (49 : Nat) ({ cls := "ContainerHost", name := "groupProcesses", desc := "(I)I" } : MethodName) ∈ lw_tbl := mt (i := 507) (by decide +kernel)
theorem w512 : Cond.static ({ cls := "ContainerHostLaw", name := "run", desc := "(LContainerHost;IIII[J)I" } : MethodName) ∈ lw_tbl := mt (i := 512) (by decide +kernel)
theorem w514 : Cond.methodLink "ContainerHostLaw" (52 : Nat) ({ cls := "ContainerHost", name := "run", desc := "(IIII)I" } : MethodName) ∈ lw_tbl := mt (i := 514) (by decide +kernel)
theorem w601 : Cond.static ({ cls := "ContainerHostLaw", name := "pause", desc := "(LContainerHost;I)I" } : MethodName) ∈ lw_tbl := mt (i := 601) (by decide +kernel)
theorem w603 : Cond.methodLink "ContainerHostLaw" (55 : Nat) ({ cls := "ContainerHost", name := "pause", desc := "(I)V" } : MethodName) ∈ lw_tbl := mt (i := 603) (by decide +kernel)
theorem w616 : Cond.static ({ cls := "ContainerHostLaw", name := "resume", desc := "(LContainerHost;I)I" } : MethodName) ∈ lw_tbl := mt (i := 616) (by decide +kernel)
theorem w618 : Cond.methodLink "ContainerHostLaw" (59 : Nat) ({ cls := "ContainerHost", name := "resume", desc := "(I)V" } : MethodName) ∈ lw_tbl := mt (i := 618) (by decide +kernel)
theorem w628 : Cond.static ({ cls := "ContainerHostLaw", name := "stop", desc := "(LContainerHost;I[J)I" } : MethodName) ∈ lw_tbl := mt (i := 628) (by decide +kernel)
theorem w630 : Cond.methodLink "ContainerHostLaw" (62 : Nat) ({ cls := "ContainerHost", name := "stop", desc := "(I)I" } : MethodName) ∈ lw_tbl := mt (i := 630) (by decide +kernel)
theorem w644 : Cond.static ({ cls := "ContainerHostLaw", name := "allocate", desc := "(LContainerHost;II[J)I" } : MethodName) ∈ lw_tbl := mt (i := 644) (by decide +kernel)
theorem w646 : Cond.methodLink "ContainerHostLaw" (65 : Nat) ({ cls := "ContainerHost", name := "allocate", desc := "(II)I" } : MethodName) ∈ lw_tbl := mt (i := 646) (by decide +kernel)
theorem w667 : Cond.static ({ cls := "ContainerHostLaw", name := "free", desc := "(LContainerHost;II[J)I" } : MethodName) ∈ lw_tbl := mt (i := 667) (by decide +kernel)
theorem w669 : Cond.methodLink "ContainerHostLaw" (68 : Nat) ({ cls := "ContainerHost", name := "free", desc := "(II)I" } : MethodName) ∈ lw_tbl := mt (i := 669) (by decide +kernel)
theorem w675 : Cond.static ({ cls := "ContainerHostLaw", name := "fork", desc := "(LContainerHost;I[J)I" } : MethodName) ∈ lw_tbl := mt (i := 675) (by decide +kernel)
theorem w677 : Cond.methodLink "ContainerHostLaw" (71 : Nat) ({ cls := "ContainerHost", name := "fork", desc := "(I)I" } : MethodName) ∈ lw_tbl := mt (i := 677) (by decide +kernel)
theorem w682 : Cond.static ({ cls := "ContainerHostLaw", name := "exit", desc := "(LContainerHost;I[J)I" } : MethodName) ∈ lw_tbl := mt (i := 682) (by decide +kernel)
theorem w684 : Cond.methodLink "ContainerHostLaw" (74 : Nat) ({ cls := "ContainerHost", name := "exit", desc := "(I)I" } : MethodName) ∈ lw_tbl := mt (i := 684) (by decide +kernel)
theorem w689 : Cond.static ({ cls := "ContainerHostLaw", name := "schedule", desc := "(LContainerHost;I[J)I" } : MethodName) ∈ lw_tbl := mt (i := 689) (by decide +kernel)
theorem w691 : Cond.methodLink "ContainerHostLaw" (77 : Nat) ({ cls := "ContainerHost", name := "schedule", desc := "(I)I" } : MethodName) ∈ lw_tbl := mt (i := 691) (by decide +kernel)
theorem w730 : Cond.static ({ cls := "ContainerHostLaw", name := "writeFile", desc := "(LContainerHost;III[J)I" } : MethodName) ∈ lw_tbl := mt (i := 730) (by decide +kernel)
theorem w732 : Cond.methodLink "ContainerHostLaw" (80 : Nat) ({ cls := "ContainerHost", name := "writeFile", desc := "(III)I" } : MethodName) ∈ lw_tbl := mt (i := 732) (by decide +kernel)
theorem w744 : Cond.static ({ cls := "ContainerHostLaw", name := "removeFile", desc := "(LContainerHost;II[J)I" } : MethodName) ∈ lw_tbl := mt (i := 744) (by decide +kernel)
theorem w746 : Cond.methodLink "ContainerHostLaw" (83 : Nat) ({ cls := "ContainerHost", name := "removeFile", desc := "(II)I" } : MethodName) ∈ lw_tbl := mt (i := 746) (by decide +kernel)
theorem w751 : Cond.static ({ cls := "ContainerHostLaw", name := "fileOf", desc := "(LContainerHost;II[J)I" } : MethodName) ∈ lw_tbl := mt (i := 751) (by decide +kernel)
theorem w753 : Cond.methodLink "ContainerHostLaw" (86 : Nat) ({ cls := "ContainerHost", name := "fileOf", desc := "(II)I" } : MethodName) ∈ lw_tbl := mt (i := 753) (by decide +kernel)
theorem w758 : Cond.static ({ cls := "ContainerHostLaw", name := "plainFileOf", desc := "(LContainerHost;II[J)I" } : MethodName) ∈ lw_tbl := mt (i := 758) (by decide +kernel)
theorem w760 : Cond.methodLink "ContainerHostLaw" (89 : Nat) ({ cls := "ContainerHost", name := "plainFileOf", desc := "(II)I" } : MethodName) ∈ lw_tbl := mt (i := 760) (by decide +kernel)
theorem w770 : Cond.static ({ cls := "ContainerHostLaw", name := "raise", desc := "(LContainerHost;II[J)I" } : MethodName) ∈ lw_tbl := mt (i := 770) (by decide +kernel)
theorem w772 : Cond.methodLink "ContainerHostLaw" (92 : Nat) ({ cls := "ContainerHost", name := "raise", desc := "(II)I" } : MethodName) ∈ lw_tbl := mt (i := 772) (by decide +kernel)
theorem w782 : Cond.static ({ cls := "ContainerHostLaw", name := "lower", desc := "(LContainerHost;II[J)I" } : MethodName) ∈ lw_tbl := mt (i := 782) (by decide +kernel)
theorem w784 : Cond.methodLink "ContainerHostLaw" (95 : Nat) ({ cls := "ContainerHost", name := "lower", desc := "(II)I" } : MethodName) ∈ lw_tbl := mt (i := 784) (by decide +kernel)
theorem w789 : Cond.static ({ cls := "ContainerHostLaw", name := "drop", desc := "(LContainerHost;II[J)I" } : MethodName) ∈ lw_tbl := mt (i := 789) (by decide +kernel)
theorem w791 : Cond.methodLink "ContainerHostLaw" (98 : Nat) ({ cls := "ContainerHost", name := "drop", desc := "(II)I" } : MethodName) ∈ lw_tbl := mt (i := 791) (by decide +kernel)
theorem w796 : Cond.static ({ cls := "ContainerHostLaw", name := "kill", desc := "(LContainerHost;II[J)I" } : MethodName) ∈ lw_tbl := mt (i := 796) (by decide +kernel)
theorem w798 : Cond.methodLink "ContainerHostLaw" (101 : Nat) ({ cls := "ContainerHost", name := "kill", desc := "(II)I" } : MethodName) ∈ lw_tbl := mt (i := 798) (by decide +kernel)
theorem w805 : Cond.static ({ cls := "ContainerHostLaw", name := "attach", desc := "(LContainerHost;II[J)I" } : MethodName) ∈ lw_tbl := mt (i := 805) (by decide +kernel)
theorem w807 : Cond.methodLink "ContainerHostLaw" (104 : Nat) ({ cls := "ContainerHost", name := "attach", desc := "(II)I" } : MethodName) ∈ lw_tbl := mt (i := 807) (by decide +kernel)
theorem w822 : Cond.static ({ cls := "ContainerHostLaw", name := "detach", desc := "(LContainerHost;I[J)I" } : MethodName) ∈ lw_tbl := mt (i := 822) (by decide +kernel)
theorem w824 : Cond.methodLink "ContainerHostLaw" (107 : Nat) ({ cls := "ContainerHost", name := "detach", desc := "(I)I" } : MethodName) ∈ lw_tbl := mt (i := 824) (by decide +kernel)
theorem w833 : Cond.static ({ cls := "ContainerHostLaw", name := "listen", desc := "(LContainerHost;II[J)I" } : MethodName) ∈ lw_tbl := mt (i := 833) (by decide +kernel)
theorem w835 : Cond.methodLink "ContainerHostLaw" (110 : Nat) ({ cls := "ContainerHost", name := "listen", desc := "(II)I" } : MethodName) ∈ lw_tbl := mt (i := 835) (by decide +kernel)
theorem w850 : Cond.static ({ cls := "ContainerHostLaw", name := "publish", desc := "(LContainerHost;III[J)I" } : MethodName) ∈ lw_tbl := mt (i := 850) (by decide +kernel)
theorem w852 : Cond.methodLink "ContainerHostLaw" (113 : Nat) ({ cls := "ContainerHost", name := "publish", desc := "(III)I" } : MethodName) ∈ lw_tbl := mt (i := 852) (by decide +kernel)
theorem w867 : Cond.static ({ cls := "ContainerHostLaw", name := "connect", desc := "(LContainerHost;III[J)I" } : MethodName) ∈ lw_tbl := mt (i := 867) (by decide +kernel)
theorem w869 : Cond.methodLink "ContainerHostLaw" (116 : Nat) ({ cls := "ContainerHost", name := "connect", desc := "(III)I" } : MethodName) ∈ lw_tbl := mt (i := 869) (by decide +kernel)
theorem w874 : Cond.static ({ cls := "ContainerHostLaw", name := "connectHost", desc := "(LContainerHost;I[J)I" } : MethodName) ∈ lw_tbl := mt (i := 874) (by decide +kernel)
theorem w876 : Cond.methodLink "ContainerHostLaw" (119 : Nat) ({ cls := "ContainerHost", name := "connectHost", desc := "(I)I" } : MethodName) ∈ lw_tbl := mt (i := 876) (by decide +kernel)
theorem w881 : Cond.static ({ cls := "ContainerHostLaw", name := "save", desc := "(LContainerHost;I[J)I" } : MethodName) ∈ lw_tbl := mt (i := 881) (by decide +kernel)
theorem w883 : Cond.methodLink "ContainerHostLaw" (122 : Nat) ({ cls := "ContainerHost", name := "save", desc := "(I)I" } : MethodName) ∈ lw_tbl := mt (i := 883) (by decide +kernel)
theorem w925 : Cond.static ({ cls := "ContainerHostLaw", name := "restore", desc := "(LContainerHost;II[J)I" } : MethodName) ∈ lw_tbl := mt (i := 925) (by decide +kernel)
theorem w927 : Cond.methodLink "ContainerHostLaw" (125 : Nat) ({ cls := "ContainerHost", name := "restore", desc := "(II)I" } : MethodName) ∈ lw_tbl := mt (i := 927) (by decide +kernel)
theorem w933 : Cond.static ({ cls := "ContainerHostLaw", name := "stateOf", desc := "(LContainerHost;I[J)I" } : MethodName) ∈ lw_tbl := mt (i := 933) (by decide +kernel)
theorem w935 : Cond.methodLink "ContainerHostLaw" (128 : Nat) ({ cls := "ContainerHost", name := "stateOf", desc := "(I)I" } : MethodName) ∈ lw_tbl := mt (i := 935) (by decide +kernel)
theorem w940 : Cond.static ({ cls := "ContainerHostLaw", name := "memoryOf", desc := "(LContainerHost;I[J)I" } : MethodName) ∈ lw_tbl := mt (i := 940) (by decide +kernel)
theorem w942 : Cond.methodLink "ContainerHostLaw" (131 : Nat) ({ cls := "ContainerHost", name := "memoryOf", desc := "(I)I" } : MethodName) ∈ lw_tbl := mt (i := 942) (by decide +kernel)
theorem w947 : Cond.static ({ cls := "ContainerHostLaw", name := "timeOf", desc := "(LContainerHost;I[J)I" } : MethodName) ∈ lw_tbl := mt (i := 947) (by decide +kernel)
theorem w949 : Cond.methodLink "ContainerHostLaw" (134 : Nat) ({ cls := "ContainerHost", name := "timeOf", desc := "(I)I" } : MethodName) ∈ lw_tbl := mt (i := 949) (by decide +kernel)
theorem w954 : Cond.static ({ cls := "ContainerHostLaw", name := "capabilitiesOf", desc := "(LContainerHost;I[J)I" } : MethodName) ∈ lw_tbl := mt (i := 954) (by decide +kernel)
theorem w956 : Cond.methodLink "ContainerHostLaw" (137 : Nat) ({ cls := "ContainerHost", name := "capabilitiesOf", desc := "(I)I" } : MethodName) ∈ lw_tbl := mt (i := 956) (by decide +kernel)
theorem w961 : Cond.static ({ cls := "ContainerHostLaw", name := "addressOf", desc := "(LContainerHost;I[J)I" } : MethodName) ∈ lw_tbl := mt (i := 961) (by decide +kernel)
theorem w963 : Cond.methodLink "ContainerHostLaw" (140 : Nat) ({ cls := "ContainerHost", name := "addressOf", desc := "(I)I" } : MethodName) ∈ lw_tbl := mt (i := 963) (by decide +kernel)
theorem w967 : Cond.classLink "ContainerHostLaw" (144 : Nat) "ContainerHostModel" ∈ lw_tbl := mt (i := 967) (by decide +kernel)
abbrev c_L_newImage : ByteArray := method_3_code
abbrev y_L_newImage : MethodName := { cls := "ContainerHostLaw", name := "newImage", desc := "(LContainerHost;I[J)I" }
abbrev k_L_newImage : Cond := .codeWith y_L_newImage c_L_newImage 4 (Option.some FieldType.int) [(0, 9, 12, 13), (0, 9, 15, 15)]
abbrev M_L_newImage : xMeth := ("ContainerHostLaw", c_L_newImage, 4, (Option.some FieldType.int), "newImage", [(0, 9, 12, 13), (0, 9, 15, 15)], ({ frames := 10, cells := 7, slots := 97, locals := 235 } : Room))
theorem e_L_newImage : k_L_newImage ∈ lw_tbl := mt (i := 196) (by decide +kernel)
theorem d_L_newImage_0 : decode c_L_newImage 0 = .ok (.aload_n 2, 1) := by decide +kernel
theorem d_L_newImage_1 : decode c_L_newImage 1 = .ok (.iconst 0, 1) := by decide +kernel
theorem d_L_newImage_2 : decode c_L_newImage 2 = .ok (.aload_n 0, 1) := by decide +kernel
theorem d_L_newImage_3 : decode c_L_newImage 3 = .ok (.iload_n 1, 1) := by decide +kernel
theorem d_L_newImage_4 : decode c_L_newImage 4 = .ok (.invokevirtual 7, 3) := by decide +kernel
theorem d_L_newImage_7 : decode c_L_newImage 7 = .ok (.i2l, 1) := by decide +kernel
theorem d_L_newImage_8 : decode c_L_newImage 8 = .ok (.lastore, 1) := by decide +kernel
theorem d_L_newImage_9 : decode c_L_newImage 9 = .ok (.goto 9, 3) := by decide +kernel
theorem d_L_newImage_12 : decode c_L_newImage 12 = .ok (.astore_n 3, 1) := by decide +kernel
theorem d_L_newImage_13 : decode c_L_newImage 13 = .ok (.iconst 1, 1) := by decide +kernel
theorem d_L_newImage_14 : decode c_L_newImage 14 = .ok (.ireturn, 1) := by decide +kernel
theorem d_L_newImage_15 : decode c_L_newImage 15 = .ok (.astore_n 3, 1) := by decide +kernel
theorem d_L_newImage_16 : decode c_L_newImage 16 = .ok (.iconst 2, 1) := by decide +kernel
theorem d_L_newImage_17 : decode c_L_newImage 17 = .ok (.ireturn, 1) := by decide +kernel
theorem d_L_newImage_18 : decode c_L_newImage 18 = .ok (.iconst 0, 1) := by decide +kernel
theorem d_L_newImage_19 : decode c_L_newImage 19 = .ok (.ireturn, 1) := by decide +kernel
abbrev c_L_write : ByteArray := method_4_code
abbrev y_L_write : MethodName := { cls := "ContainerHostLaw", name := "write", desc := "(LContainerHost;III[J)I" }
abbrev k_L_write : Cond := .codeWith y_L_write c_L_write 6 (Option.some FieldType.int) [(0, 12, 15, 13), (0, 12, 19, 21), (0, 12, 23, 15)]
abbrev M_L_write : xMeth := ("ContainerHostLaw", c_L_write, 6, (Option.some FieldType.int), "write", [(0, 12, 15, 13), (0, 12, 19, 21), (0, 12, 23, 15)], ({ frames := 8, cells := 4, slots := 24, locals := 138 } : Room))
theorem e_L_write : k_L_write ∈ lw_tbl := mt (i := 355) (by decide +kernel)
theorem d_L_write_0 : decode c_L_write 0 = .ok (.aload 4, 2) := by decide +kernel
theorem d_L_write_2 : decode c_L_write 2 = .ok (.iconst 0, 1) := by decide +kernel
theorem d_L_write_3 : decode c_L_write 3 = .ok (.aload_n 0, 1) := by decide +kernel
theorem d_L_write_4 : decode c_L_write 4 = .ok (.iload_n 1, 1) := by decide +kernel
theorem d_L_write_5 : decode c_L_write 5 = .ok (.iload_n 2, 1) := by decide +kernel
theorem d_L_write_6 : decode c_L_write 6 = .ok (.iload_n 3, 1) := by decide +kernel
theorem d_L_write_7 : decode c_L_write 7 = .ok (.invokevirtual 17, 3) := by decide +kernel
theorem d_L_write_10 : decode c_L_write 10 = .ok (.i2l, 1) := by decide +kernel
theorem d_L_write_11 : decode c_L_write 11 = .ok (.lastore, 1) := by decide +kernel
theorem d_L_write_12 : decode c_L_write 12 = .ok (.goto 15, 3) := by decide +kernel
theorem d_L_write_15 : decode c_L_write 15 = .ok (.astore 5, 2) := by decide +kernel
theorem d_L_write_17 : decode c_L_write 17 = .ok (.iconst 1, 1) := by decide +kernel
theorem d_L_write_18 : decode c_L_write 18 = .ok (.ireturn, 1) := by decide +kernel
theorem d_L_write_19 : decode c_L_write 19 = .ok (.astore 5, 2) := by decide +kernel
theorem d_L_write_21 : decode c_L_write 21 = .ok (.iconst 2, 1) := by decide +kernel
theorem d_L_write_22 : decode c_L_write 22 = .ok (.ireturn, 1) := by decide +kernel
theorem d_L_write_23 : decode c_L_write 23 = .ok (.astore 5, 2) := by decide +kernel
theorem d_L_write_25 : decode c_L_write 25 = .ok (.iconst 3, 1) := by decide +kernel
theorem d_L_write_26 : decode c_L_write 26 = .ok (.ireturn, 1) := by decide +kernel
theorem d_L_write_27 : decode c_L_write 27 = .ok (.iconst 0, 1) := by decide +kernel
theorem d_L_write_28 : decode c_L_write 28 = .ok (.ireturn, 1) := by decide +kernel
abbrev c_L_remove : ByteArray := method_5_code
abbrev y_L_remove : MethodName := { cls := "ContainerHostLaw", name := "remove", desc := "(LContainerHost;II[J)I" }
abbrev k_L_remove : Cond := .codeWith y_L_remove c_L_remove 5 (Option.some FieldType.int) [(0, 10, 13, 13), (0, 10, 17, 15)]
abbrev M_L_remove : xMeth := ("ContainerHostLaw", c_L_remove, 5, (Option.some FieldType.int), "remove", [(0, 10, 13, 13), (0, 10, 17, 15)], ({ frames := 8, cells := 4, slots := 24, locals := 137 } : Room))
theorem e_L_remove : k_L_remove ∈ lw_tbl := mt (i := 402) (by decide +kernel)
theorem d_L_remove_0 : decode c_L_remove 0 = .ok (.aload_n 3, 1) := by decide +kernel
theorem d_L_remove_1 : decode c_L_remove 1 = .ok (.iconst 0, 1) := by decide +kernel
theorem d_L_remove_2 : decode c_L_remove 2 = .ok (.aload_n 0, 1) := by decide +kernel
theorem d_L_remove_3 : decode c_L_remove 3 = .ok (.iload_n 1, 1) := by decide +kernel
theorem d_L_remove_4 : decode c_L_remove 4 = .ok (.iload_n 2, 1) := by decide +kernel
theorem d_L_remove_5 : decode c_L_remove 5 = .ok (.invokevirtual 23, 3) := by decide +kernel
theorem d_L_remove_8 : decode c_L_remove 8 = .ok (.i2l, 1) := by decide +kernel
theorem d_L_remove_9 : decode c_L_remove 9 = .ok (.lastore, 1) := by decide +kernel
theorem d_L_remove_10 : decode c_L_remove 10 = .ok (.goto 11, 3) := by decide +kernel
theorem d_L_remove_13 : decode c_L_remove 13 = .ok (.astore 4, 2) := by decide +kernel
theorem d_L_remove_15 : decode c_L_remove 15 = .ok (.iconst 1, 1) := by decide +kernel
theorem d_L_remove_16 : decode c_L_remove 16 = .ok (.ireturn, 1) := by decide +kernel
theorem d_L_remove_17 : decode c_L_remove 17 = .ok (.astore 4, 2) := by decide +kernel
theorem d_L_remove_19 : decode c_L_remove 19 = .ok (.iconst 2, 1) := by decide +kernel
theorem d_L_remove_20 : decode c_L_remove 20 = .ok (.ireturn, 1) := by decide +kernel
theorem d_L_remove_21 : decode c_L_remove 21 = .ok (.iconst 0, 1) := by decide +kernel
theorem d_L_remove_22 : decode c_L_remove 22 = .ok (.ireturn, 1) := by decide +kernel
abbrev c_L_clear : ByteArray := method_6_code
abbrev y_L_clear : MethodName := { cls := "ContainerHostLaw", name := "clear", desc := "(LContainerHost;II[J)I" }
abbrev k_L_clear : Cond := .codeWith y_L_clear c_L_clear 5 (Option.some FieldType.int) [(0, 10, 13, 13), (0, 10, 17, 15)]
abbrev M_L_clear : xMeth := ("ContainerHostLaw", c_L_clear, 5, (Option.some FieldType.int), "clear", [(0, 10, 13, 13), (0, 10, 17, 15)], ({ frames := 8, cells := 3, slots := 18, locals := 137 } : Room))
theorem e_L_clear : k_L_clear ∈ lw_tbl := mt (i := 413) (by decide +kernel)
theorem d_L_clear_0 : decode c_L_clear 0 = .ok (.aload_n 3, 1) := by decide +kernel
theorem d_L_clear_1 : decode c_L_clear 1 = .ok (.iconst 0, 1) := by decide +kernel
theorem d_L_clear_2 : decode c_L_clear 2 = .ok (.aload_n 0, 1) := by decide +kernel
theorem d_L_clear_3 : decode c_L_clear 3 = .ok (.iload_n 1, 1) := by decide +kernel
theorem d_L_clear_4 : decode c_L_clear 4 = .ok (.iload_n 2, 1) := by decide +kernel
theorem d_L_clear_5 : decode c_L_clear 5 = .ok (.invokevirtual 27, 3) := by decide +kernel
theorem d_L_clear_8 : decode c_L_clear 8 = .ok (.i2l, 1) := by decide +kernel
theorem d_L_clear_9 : decode c_L_clear 9 = .ok (.lastore, 1) := by decide +kernel
theorem d_L_clear_10 : decode c_L_clear 10 = .ok (.goto 11, 3) := by decide +kernel
theorem d_L_clear_13 : decode c_L_clear 13 = .ok (.astore 4, 2) := by decide +kernel
theorem d_L_clear_15 : decode c_L_clear 15 = .ok (.iconst 1, 1) := by decide +kernel
theorem d_L_clear_16 : decode c_L_clear 16 = .ok (.ireturn, 1) := by decide +kernel
theorem d_L_clear_17 : decode c_L_clear 17 = .ok (.astore 4, 2) := by decide +kernel
theorem d_L_clear_19 : decode c_L_clear 19 = .ok (.iconst 2, 1) := by decide +kernel
theorem d_L_clear_20 : decode c_L_clear 20 = .ok (.ireturn, 1) := by decide +kernel
theorem d_L_clear_21 : decode c_L_clear 21 = .ok (.iconst 0, 1) := by decide +kernel
theorem d_L_clear_22 : decode c_L_clear 22 = .ok (.ireturn, 1) := by decide +kernel
abbrev c_L_seal : ByteArray := method_7_code
abbrev y_L_seal : MethodName := { cls := "ContainerHostLaw", name := "seal", desc := "(LContainerHost;I[J)I" }
abbrev k_L_seal : Cond := .codeWith y_L_seal c_L_seal 4 (Option.some FieldType.int) [(0, 9, 12, 13), (0, 9, 15, 15)]
abbrev M_L_seal : xMeth := ("ContainerHostLaw", c_L_seal, 4, (Option.some FieldType.int), "seal", [(0, 9, 12, 13), (0, 9, 15, 15)], ({ frames := 8, cells := 2, slots := 12, locals := 135 } : Room))
theorem e_L_seal : k_L_seal ∈ lw_tbl := mt (i := 430) (by decide +kernel)
theorem d_L_seal_0 : decode c_L_seal 0 = .ok (.aload_n 2, 1) := by decide +kernel
theorem d_L_seal_1 : decode c_L_seal 1 = .ok (.iconst 0, 1) := by decide +kernel
theorem d_L_seal_2 : decode c_L_seal 2 = .ok (.aload_n 0, 1) := by decide +kernel
theorem d_L_seal_3 : decode c_L_seal 3 = .ok (.iload_n 1, 1) := by decide +kernel
theorem d_L_seal_4 : decode c_L_seal 4 = .ok (.invokevirtual 30, 3) := by decide +kernel
theorem d_L_seal_7 : decode c_L_seal 7 = .ok (.i2l, 1) := by decide +kernel
theorem d_L_seal_8 : decode c_L_seal 8 = .ok (.lastore, 1) := by decide +kernel
theorem d_L_seal_9 : decode c_L_seal 9 = .ok (.goto 9, 3) := by decide +kernel
theorem d_L_seal_12 : decode c_L_seal 12 = .ok (.astore_n 3, 1) := by decide +kernel
theorem d_L_seal_13 : decode c_L_seal 13 = .ok (.iconst 1, 1) := by decide +kernel
theorem d_L_seal_14 : decode c_L_seal 14 = .ok (.ireturn, 1) := by decide +kernel
theorem d_L_seal_15 : decode c_L_seal 15 = .ok (.astore_n 3, 1) := by decide +kernel
theorem d_L_seal_16 : decode c_L_seal 16 = .ok (.iconst 2, 1) := by decide +kernel
theorem d_L_seal_17 : decode c_L_seal 17 = .ok (.ireturn, 1) := by decide +kernel
theorem d_L_seal_18 : decode c_L_seal 18 = .ok (.iconst 0, 1) := by decide +kernel
theorem d_L_seal_19 : decode c_L_seal 19 = .ok (.ireturn, 1) := by decide +kernel
abbrev c_L_shown : ByteArray := method_8_code
abbrev y_L_shown : MethodName := { cls := "ContainerHostLaw", name := "shown", desc := "(LContainerHost;II[J)I" }
abbrev k_L_shown : Cond := .codeWith y_L_shown c_L_shown 5 (Option.some FieldType.int) [(0, 10, 13, 13)]
abbrev M_L_shown : xMeth := ("ContainerHostLaw", c_L_shown, 5, (Option.some FieldType.int), "shown", [(0, 10, 13, 13)], ({ frames := 8, cells := 2, slots := 12, locals := 136 } : Room))
theorem e_L_shown : k_L_shown ∈ lw_tbl := mt (i := 437) (by decide +kernel)
theorem d_L_shown_0 : decode c_L_shown 0 = .ok (.aload_n 3, 1) := by decide +kernel
theorem d_L_shown_1 : decode c_L_shown 1 = .ok (.iconst 0, 1) := by decide +kernel
theorem d_L_shown_2 : decode c_L_shown 2 = .ok (.aload_n 0, 1) := by decide +kernel
theorem d_L_shown_3 : decode c_L_shown 3 = .ok (.iload_n 1, 1) := by decide +kernel
theorem d_L_shown_4 : decode c_L_shown 4 = .ok (.iload_n 2, 1) := by decide +kernel
theorem d_L_shown_5 : decode c_L_shown 5 = .ok (.invokevirtual 33, 3) := by decide +kernel
theorem d_L_shown_8 : decode c_L_shown 8 = .ok (.i2l, 1) := by decide +kernel
theorem d_L_shown_9 : decode c_L_shown 9 = .ok (.lastore, 1) := by decide +kernel
theorem d_L_shown_10 : decode c_L_shown 10 = .ok (.goto 7, 3) := by decide +kernel
theorem d_L_shown_13 : decode c_L_shown 13 = .ok (.astore 4, 2) := by decide +kernel
theorem d_L_shown_15 : decode c_L_shown 15 = .ok (.iconst 1, 1) := by decide +kernel
theorem d_L_shown_16 : decode c_L_shown 16 = .ok (.ireturn, 1) := by decide +kernel
theorem d_L_shown_17 : decode c_L_shown 17 = .ok (.iconst 0, 1) := by decide +kernel
theorem d_L_shown_18 : decode c_L_shown 18 = .ok (.ireturn, 1) := by decide +kernel
abbrev c_L_entries : ByteArray := method_9_code
abbrev y_L_entries : MethodName := { cls := "ContainerHostLaw", name := "entries", desc := "(LContainerHost;II[J)I" }
abbrev k_L_entries : Cond := .codeWith y_L_entries c_L_entries 5 (Option.some FieldType.int) [(0, 10, 13, 13)]
abbrev M_L_entries : xMeth := ("ContainerHostLaw", c_L_entries, 5, (Option.some FieldType.int), "entries", [(0, 10, 13, 13)], ({ frames := 8, cells := 2, slots := 12, locals := 137 } : Room))
theorem e_L_entries : k_L_entries ∈ lw_tbl := mt (i := 444) (by decide +kernel)
theorem d_L_entries_0 : decode c_L_entries 0 = .ok (.aload_n 3, 1) := by decide +kernel
theorem d_L_entries_1 : decode c_L_entries 1 = .ok (.iconst 0, 1) := by decide +kernel
theorem d_L_entries_2 : decode c_L_entries 2 = .ok (.aload_n 0, 1) := by decide +kernel
theorem d_L_entries_3 : decode c_L_entries 3 = .ok (.iload_n 1, 1) := by decide +kernel
theorem d_L_entries_4 : decode c_L_entries 4 = .ok (.iload_n 2, 1) := by decide +kernel
theorem d_L_entries_5 : decode c_L_entries 5 = .ok (.invokevirtual 36, 3) := by decide +kernel
theorem d_L_entries_8 : decode c_L_entries 8 = .ok (.i2l, 1) := by decide +kernel
theorem d_L_entries_9 : decode c_L_entries 9 = .ok (.lastore, 1) := by decide +kernel
theorem d_L_entries_10 : decode c_L_entries 10 = .ok (.goto 7, 3) := by decide +kernel
theorem d_L_entries_13 : decode c_L_entries 13 = .ok (.astore 4, 2) := by decide +kernel
theorem d_L_entries_15 : decode c_L_entries 15 = .ok (.iconst 1, 1) := by decide +kernel
theorem d_L_entries_16 : decode c_L_entries 16 = .ok (.ireturn, 1) := by decide +kernel
theorem d_L_entries_17 : decode c_L_entries 17 = .ok (.iconst 0, 1) := by decide +kernel
theorem d_L_entries_18 : decode c_L_entries 18 = .ok (.ireturn, 1) := by decide +kernel
abbrev c_L_commit : ByteArray := method_10_code
abbrev y_L_commit : MethodName := { cls := "ContainerHostLaw", name := "commit", desc := "(LContainerHost;I[J)I" }
abbrev k_L_commit : Cond := .codeWith y_L_commit c_L_commit 4 (Option.some FieldType.int) [(0, 9, 12, 13), (0, 9, 15, 15)]
abbrev M_L_commit : xMeth := ("ContainerHostLaw", c_L_commit, 4, (Option.some FieldType.int), "commit", [(0, 9, 12, 13), (0, 9, 15, 15)], ({ frames := 10, cells := 7, slots := 97, locals := 235 } : Room))
theorem e_L_commit : k_L_commit ∈ lw_tbl := mt (i := 466) (by decide +kernel)
theorem d_L_commit_0 : decode c_L_commit 0 = .ok (.aload_n 2, 1) := by decide +kernel
theorem d_L_commit_1 : decode c_L_commit 1 = .ok (.iconst 0, 1) := by decide +kernel
theorem d_L_commit_2 : decode c_L_commit 2 = .ok (.aload_n 0, 1) := by decide +kernel
theorem d_L_commit_3 : decode c_L_commit 3 = .ok (.iload_n 1, 1) := by decide +kernel
theorem d_L_commit_4 : decode c_L_commit 4 = .ok (.invokevirtual 39, 3) := by decide +kernel
theorem d_L_commit_7 : decode c_L_commit 7 = .ok (.i2l, 1) := by decide +kernel
theorem d_L_commit_8 : decode c_L_commit 8 = .ok (.lastore, 1) := by decide +kernel
theorem d_L_commit_9 : decode c_L_commit 9 = .ok (.goto 9, 3) := by decide +kernel
theorem d_L_commit_12 : decode c_L_commit 12 = .ok (.astore_n 3, 1) := by decide +kernel
theorem d_L_commit_13 : decode c_L_commit 13 = .ok (.iconst 1, 1) := by decide +kernel
theorem d_L_commit_14 : decode c_L_commit 14 = .ok (.ireturn, 1) := by decide +kernel
theorem d_L_commit_15 : decode c_L_commit 15 = .ok (.astore_n 3, 1) := by decide +kernel
theorem d_L_commit_16 : decode c_L_commit 16 = .ok (.iconst 2, 1) := by decide +kernel
theorem d_L_commit_17 : decode c_L_commit 17 = .ok (.ireturn, 1) := by decide +kernel
theorem d_L_commit_18 : decode c_L_commit 18 = .ok (.iconst 0, 1) := by decide +kernel
theorem d_L_commit_19 : decode c_L_commit 19 = .ok (.ireturn, 1) := by decide +kernel
abbrev c_L_newGroup : ByteArray := method_11_code
abbrev y_L_newGroup : MethodName := { cls := "ContainerHostLaw", name := "newGroup", desc := "(LContainerHost;IIII[J)I" }
abbrev k_L_newGroup : Cond := .codeWith y_L_newGroup c_L_newGroup 7 (Option.some FieldType.int) [(0, 14, 17, 13), (0, 14, 21, 21), (0, 14, 25, 15)]
abbrev M_L_newGroup : xMeth := ("ContainerHostLaw", c_L_newGroup, 7, (Option.some FieldType.int), "newGroup", [(0, 14, 17, 13), (0, 14, 21, 21), (0, 14, 25, 15)], ({ frames := 9, cells := 7, slots := 70, locals := 216 } : Room))
theorem e_L_newGroup : k_L_newGroup ∈ lw_tbl := mt (i := 486) (by decide +kernel)
theorem d_L_newGroup_0 : decode c_L_newGroup 0 = .ok (.aload 5, 2) := by decide +kernel
theorem d_L_newGroup_2 : decode c_L_newGroup 2 = .ok (.iconst 0, 1) := by decide +kernel
theorem d_L_newGroup_3 : decode c_L_newGroup 3 = .ok (.aload_n 0, 1) := by decide +kernel
theorem d_L_newGroup_4 : decode c_L_newGroup 4 = .ok (.iload_n 1, 1) := by decide +kernel
theorem d_L_newGroup_5 : decode c_L_newGroup 5 = .ok (.iload_n 2, 1) := by decide +kernel
theorem d_L_newGroup_6 : decode c_L_newGroup 6 = .ok (.iload_n 3, 1) := by decide +kernel
theorem d_L_newGroup_7 : decode c_L_newGroup 7 = .ok (.iload 4, 2) := by decide +kernel
theorem d_L_newGroup_9 : decode c_L_newGroup 9 = .ok (.invokevirtual 42, 3) := by decide +kernel
theorem d_L_newGroup_12 : decode c_L_newGroup 12 = .ok (.i2l, 1) := by decide +kernel
theorem d_L_newGroup_13 : decode c_L_newGroup 13 = .ok (.lastore, 1) := by decide +kernel
theorem d_L_newGroup_14 : decode c_L_newGroup 14 = .ok (.goto 15, 3) := by decide +kernel
theorem d_L_newGroup_17 : decode c_L_newGroup 17 = .ok (.astore 6, 2) := by decide +kernel
theorem d_L_newGroup_19 : decode c_L_newGroup 19 = .ok (.iconst 1, 1) := by decide +kernel
theorem d_L_newGroup_20 : decode c_L_newGroup 20 = .ok (.ireturn, 1) := by decide +kernel
theorem d_L_newGroup_21 : decode c_L_newGroup 21 = .ok (.astore 6, 2) := by decide +kernel
theorem d_L_newGroup_23 : decode c_L_newGroup 23 = .ok (.iconst 2, 1) := by decide +kernel
theorem d_L_newGroup_24 : decode c_L_newGroup 24 = .ok (.ireturn, 1) := by decide +kernel
theorem d_L_newGroup_25 : decode c_L_newGroup 25 = .ok (.astore 6, 2) := by decide +kernel
theorem d_L_newGroup_27 : decode c_L_newGroup 27 = .ok (.iconst 3, 1) := by decide +kernel
theorem d_L_newGroup_28 : decode c_L_newGroup 28 = .ok (.ireturn, 1) := by decide +kernel
theorem d_L_newGroup_29 : decode c_L_newGroup 29 = .ok (.iconst 0, 1) := by decide +kernel
theorem d_L_newGroup_30 : decode c_L_newGroup 30 = .ok (.ireturn, 1) := by decide +kernel
abbrev c_L_groupMemory : ByteArray := method_12_code
abbrev y_L_groupMemory : MethodName := { cls := "ContainerHostLaw", name := "groupMemory", desc := "(LContainerHost;I[J)I" }
abbrev k_L_groupMemory : Cond := .codeWith y_L_groupMemory c_L_groupMemory 4 (Option.some FieldType.int) [(0, 9, 12, 13)]
abbrev M_L_groupMemory : xMeth := ("ContainerHostLaw", c_L_groupMemory, 4, (Option.some FieldType.int), "groupMemory", [(0, 9, 12, 13)], ({ frames := 8, cells := 1, slots := 6, locals := 134 } : Room))
theorem e_L_groupMemory : k_L_groupMemory ∈ lw_tbl := mt (i := 499) (by decide +kernel)
theorem d_L_groupMemory_0 : decode c_L_groupMemory 0 = .ok (.aload_n 2, 1) := by decide +kernel
theorem d_L_groupMemory_1 : decode c_L_groupMemory 1 = .ok (.iconst 0, 1) := by decide +kernel
theorem d_L_groupMemory_2 : decode c_L_groupMemory 2 = .ok (.aload_n 0, 1) := by decide +kernel
theorem d_L_groupMemory_3 : decode c_L_groupMemory 3 = .ok (.iload_n 1, 1) := by decide +kernel
theorem d_L_groupMemory_4 : decode c_L_groupMemory 4 = .ok (.invokevirtual 46, 3) := by decide +kernel
theorem d_L_groupMemory_7 : decode c_L_groupMemory 7 = .ok (.i2l, 1) := by decide +kernel
theorem d_L_groupMemory_8 : decode c_L_groupMemory 8 = .ok (.lastore, 1) := by decide +kernel
theorem d_L_groupMemory_9 : decode c_L_groupMemory 9 = .ok (.goto 6, 3) := by decide +kernel
theorem d_L_groupMemory_12 : decode c_L_groupMemory 12 = .ok (.astore_n 3, 1) := by decide +kernel
theorem d_L_groupMemory_13 : decode c_L_groupMemory 13 = .ok (.iconst 1, 1) := by decide +kernel
theorem d_L_groupMemory_14 : decode c_L_groupMemory 14 = .ok (.ireturn, 1) := by decide +kernel
theorem d_L_groupMemory_15 : decode c_L_groupMemory 15 = .ok (.iconst 0, 1) := by decide +kernel
theorem d_L_groupMemory_16 : decode c_L_groupMemory 16 = .ok (.ireturn, 1) := by decide +kernel
abbrev c_L_groupProcesses : ByteArray := method_13_code
abbrev y_L_groupProcesses : MethodName := { cls := "ContainerHostLaw", name := "groupProcesses", desc := "(LContainerHost;I[J)I" }
abbrev k_L_groupProcesses : Cond := .codeWith y_L_groupProcesses c_L_groupProcesses 4 (Option.some FieldType.int) [(0, 9, 12, 13)]
abbrev M_L_groupProcesses : xMeth := ("ContainerHostLaw", c_L_groupProcesses, 4, (Option.some FieldType.int), "groupProcesses", [(0, 9, 12, 13)], ({ frames := 8, cells := 1, slots := 6, locals := 134 } : Room))
theorem e_L_groupProcesses : k_L_groupProcesses ∈ lw_tbl := mt (i := 506) (by decide +kernel)
theorem d_L_groupProcesses_0 : decode c_L_groupProcesses 0 = .ok (.aload_n 2, 1) := by decide +kernel
theorem d_L_groupProcesses_1 : decode c_L_groupProcesses 1 = .ok (.iconst 0, 1) := by decide +kernel
theorem d_L_groupProcesses_2 : decode c_L_groupProcesses 2 = .ok (.aload_n 0, 1) := by decide +kernel
theorem d_L_groupProcesses_3 : decode c_L_groupProcesses 3 = .ok (.iload_n 1, 1) := by decide +kernel
theorem d_L_groupProcesses_4 : decode c_L_groupProcesses 4 = .ok (.invokevirtual 49, 3) := by decide +kernel
theorem d_L_groupProcesses_7 : decode c_L_groupProcesses 7 = .ok (.i2l, 1) := by decide +kernel
theorem d_L_groupProcesses_8 : decode c_L_groupProcesses 8 = .ok (.lastore, 1) := by decide +kernel
theorem d_L_groupProcesses_9 : decode c_L_groupProcesses 9 = .ok (.goto 6, 3) := by decide +kernel
theorem d_L_groupProcesses_12 : decode c_L_groupProcesses 12 = .ok (.astore_n 3, 1) := by decide +kernel
theorem d_L_groupProcesses_13 : decode c_L_groupProcesses 13 = .ok (.iconst 1, 1) := by decide +kernel
theorem d_L_groupProcesses_14 : decode c_L_groupProcesses 14 = .ok (.ireturn, 1) := by decide +kernel
theorem d_L_groupProcesses_15 : decode c_L_groupProcesses 15 = .ok (.iconst 0, 1) := by decide +kernel
theorem d_L_groupProcesses_16 : decode c_L_groupProcesses 16 = .ok (.ireturn, 1) := by decide +kernel
abbrev c_L_run : ByteArray := method_14_code
abbrev y_L_run : MethodName := { cls := "ContainerHostLaw", name := "run", desc := "(LContainerHost;IIII[J)I" }
abbrev k_L_run : Cond := .codeWith y_L_run c_L_run 7 (Option.some FieldType.int) [(0, 14, 17, 13), (0, 14, 21, 21), (0, 14, 25, 15)]
abbrev M_L_run : xMeth := ("ContainerHostLaw", c_L_run, 7, (Option.some FieldType.int), "run", [(0, 14, 17, 13), (0, 14, 21, 21), (0, 14, 25, 15)], ({ frames := 10, cells := 11, slots := 132, locals := 242 } : Room))
theorem e_L_run : k_L_run ∈ lw_tbl := mt (i := 513) (by decide +kernel)
theorem d_L_run_0 : decode c_L_run 0 = .ok (.aload 5, 2) := by decide +kernel
theorem d_L_run_2 : decode c_L_run 2 = .ok (.iconst 0, 1) := by decide +kernel
theorem d_L_run_3 : decode c_L_run 3 = .ok (.aload_n 0, 1) := by decide +kernel
theorem d_L_run_4 : decode c_L_run 4 = .ok (.iload_n 1, 1) := by decide +kernel
theorem d_L_run_5 : decode c_L_run 5 = .ok (.iload_n 2, 1) := by decide +kernel
theorem d_L_run_6 : decode c_L_run 6 = .ok (.iload_n 3, 1) := by decide +kernel
theorem d_L_run_7 : decode c_L_run 7 = .ok (.iload 4, 2) := by decide +kernel
theorem d_L_run_9 : decode c_L_run 9 = .ok (.invokevirtual 52, 3) := by decide +kernel
theorem d_L_run_12 : decode c_L_run 12 = .ok (.i2l, 1) := by decide +kernel
theorem d_L_run_13 : decode c_L_run 13 = .ok (.lastore, 1) := by decide +kernel
theorem d_L_run_14 : decode c_L_run 14 = .ok (.goto 15, 3) := by decide +kernel
theorem d_L_run_17 : decode c_L_run 17 = .ok (.astore 6, 2) := by decide +kernel
theorem d_L_run_19 : decode c_L_run 19 = .ok (.iconst 1, 1) := by decide +kernel
theorem d_L_run_20 : decode c_L_run 20 = .ok (.ireturn, 1) := by decide +kernel
theorem d_L_run_21 : decode c_L_run 21 = .ok (.astore 6, 2) := by decide +kernel
theorem d_L_run_23 : decode c_L_run 23 = .ok (.iconst 2, 1) := by decide +kernel
theorem d_L_run_24 : decode c_L_run 24 = .ok (.ireturn, 1) := by decide +kernel
theorem d_L_run_25 : decode c_L_run 25 = .ok (.astore 6, 2) := by decide +kernel
theorem d_L_run_27 : decode c_L_run 27 = .ok (.iconst 3, 1) := by decide +kernel
theorem d_L_run_28 : decode c_L_run 28 = .ok (.ireturn, 1) := by decide +kernel
theorem d_L_run_29 : decode c_L_run 29 = .ok (.iconst 0, 1) := by decide +kernel
theorem d_L_run_30 : decode c_L_run 30 = .ok (.ireturn, 1) := by decide +kernel
abbrev c_L_pause : ByteArray := method_15_code
abbrev y_L_pause : MethodName := { cls := "ContainerHostLaw", name := "pause", desc := "(LContainerHost;I)I" }
abbrev k_L_pause : Cond := .codeWith y_L_pause c_L_pause 3 (Option.some FieldType.int) [(0, 5, 8, 13), (0, 5, 11, 15)]
abbrev M_L_pause : xMeth := ("ContainerHostLaw", c_L_pause, 3, (Option.some FieldType.int), "pause", [(0, 5, 8, 13), (0, 5, 11, 15)], ({ frames := 9, cells := 2, slots := 12, locals := 156 } : Room))
theorem e_L_pause : k_L_pause ∈ lw_tbl := mt (i := 602) (by decide +kernel)
theorem d_L_pause_0 : decode c_L_pause 0 = .ok (.aload_n 0, 1) := by decide +kernel
theorem d_L_pause_1 : decode c_L_pause 1 = .ok (.iload_n 1, 1) := by decide +kernel
theorem d_L_pause_2 : decode c_L_pause 2 = .ok (.invokevirtual 55, 3) := by decide +kernel
theorem d_L_pause_5 : decode c_L_pause 5 = .ok (.goto 9, 3) := by decide +kernel
theorem d_L_pause_8 : decode c_L_pause 8 = .ok (.astore_n 2, 1) := by decide +kernel
theorem d_L_pause_9 : decode c_L_pause 9 = .ok (.iconst 1, 1) := by decide +kernel
theorem d_L_pause_10 : decode c_L_pause 10 = .ok (.ireturn, 1) := by decide +kernel
theorem d_L_pause_11 : decode c_L_pause 11 = .ok (.astore_n 2, 1) := by decide +kernel
theorem d_L_pause_12 : decode c_L_pause 12 = .ok (.iconst 2, 1) := by decide +kernel
theorem d_L_pause_13 : decode c_L_pause 13 = .ok (.ireturn, 1) := by decide +kernel
theorem d_L_pause_14 : decode c_L_pause 14 = .ok (.iconst 0, 1) := by decide +kernel
theorem d_L_pause_15 : decode c_L_pause 15 = .ok (.ireturn, 1) := by decide +kernel
abbrev c_L_resume : ByteArray := method_16_code
abbrev y_L_resume : MethodName := { cls := "ContainerHostLaw", name := "resume", desc := "(LContainerHost;I)I" }
abbrev k_L_resume : Cond := .codeWith y_L_resume c_L_resume 3 (Option.some FieldType.int) [(0, 5, 8, 13), (0, 5, 11, 15)]
abbrev M_L_resume : xMeth := ("ContainerHostLaw", c_L_resume, 3, (Option.some FieldType.int), "resume", [(0, 5, 8, 13), (0, 5, 11, 15)], ({ frames := 9, cells := 2, slots := 12, locals := 156 } : Room))
theorem e_L_resume : k_L_resume ∈ lw_tbl := mt (i := 617) (by decide +kernel)
theorem d_L_resume_0 : decode c_L_resume 0 = .ok (.aload_n 0, 1) := by decide +kernel
theorem d_L_resume_1 : decode c_L_resume 1 = .ok (.iload_n 1, 1) := by decide +kernel
theorem d_L_resume_2 : decode c_L_resume 2 = .ok (.invokevirtual 59, 3) := by decide +kernel
theorem d_L_resume_5 : decode c_L_resume 5 = .ok (.goto 9, 3) := by decide +kernel
theorem d_L_resume_8 : decode c_L_resume 8 = .ok (.astore_n 2, 1) := by decide +kernel
theorem d_L_resume_9 : decode c_L_resume 9 = .ok (.iconst 1, 1) := by decide +kernel
theorem d_L_resume_10 : decode c_L_resume 10 = .ok (.ireturn, 1) := by decide +kernel
theorem d_L_resume_11 : decode c_L_resume 11 = .ok (.astore_n 2, 1) := by decide +kernel
theorem d_L_resume_12 : decode c_L_resume 12 = .ok (.iconst 2, 1) := by decide +kernel
theorem d_L_resume_13 : decode c_L_resume 13 = .ok (.ireturn, 1) := by decide +kernel
theorem d_L_resume_14 : decode c_L_resume 14 = .ok (.iconst 0, 1) := by decide +kernel
theorem d_L_resume_15 : decode c_L_resume 15 = .ok (.ireturn, 1) := by decide +kernel
abbrev c_L_stop : ByteArray := method_17_code
abbrev y_L_stop : MethodName := { cls := "ContainerHostLaw", name := "stop", desc := "(LContainerHost;I[J)I" }
abbrev k_L_stop : Cond := .codeWith y_L_stop c_L_stop 4 (Option.some FieldType.int) [(0, 9, 12, 13), (0, 9, 15, 15)]
abbrev M_L_stop : xMeth := ("ContainerHostLaw", c_L_stop, 4, (Option.some FieldType.int), "stop", [(0, 9, 12, 13), (0, 9, 15, 15)], ({ frames := 8, cells := 2, slots := 12, locals := 135 } : Room))
theorem e_L_stop : k_L_stop ∈ lw_tbl := mt (i := 629) (by decide +kernel)
theorem d_L_stop_0 : decode c_L_stop 0 = .ok (.aload_n 2, 1) := by decide +kernel
theorem d_L_stop_1 : decode c_L_stop 1 = .ok (.iconst 0, 1) := by decide +kernel
theorem d_L_stop_2 : decode c_L_stop 2 = .ok (.aload_n 0, 1) := by decide +kernel
theorem d_L_stop_3 : decode c_L_stop 3 = .ok (.iload_n 1, 1) := by decide +kernel
theorem d_L_stop_4 : decode c_L_stop 4 = .ok (.invokevirtual 62, 3) := by decide +kernel
theorem d_L_stop_7 : decode c_L_stop 7 = .ok (.i2l, 1) := by decide +kernel
theorem d_L_stop_8 : decode c_L_stop 8 = .ok (.lastore, 1) := by decide +kernel
theorem d_L_stop_9 : decode c_L_stop 9 = .ok (.goto 9, 3) := by decide +kernel
theorem d_L_stop_12 : decode c_L_stop 12 = .ok (.astore_n 3, 1) := by decide +kernel
theorem d_L_stop_13 : decode c_L_stop 13 = .ok (.iconst 1, 1) := by decide +kernel
theorem d_L_stop_14 : decode c_L_stop 14 = .ok (.ireturn, 1) := by decide +kernel
theorem d_L_stop_15 : decode c_L_stop 15 = .ok (.astore_n 3, 1) := by decide +kernel
theorem d_L_stop_16 : decode c_L_stop 16 = .ok (.iconst 2, 1) := by decide +kernel
theorem d_L_stop_17 : decode c_L_stop 17 = .ok (.ireturn, 1) := by decide +kernel
theorem d_L_stop_18 : decode c_L_stop 18 = .ok (.iconst 0, 1) := by decide +kernel
theorem d_L_stop_19 : decode c_L_stop 19 = .ok (.ireturn, 1) := by decide +kernel
abbrev c_L_allocate : ByteArray := method_18_code
abbrev y_L_allocate : MethodName := { cls := "ContainerHostLaw", name := "allocate", desc := "(LContainerHost;II[J)I" }
abbrev k_L_allocate : Cond := .codeWith y_L_allocate c_L_allocate 5 (Option.some FieldType.int) [(0, 10, 13, 13), (0, 10, 17, 21), (0, 10, 21, 15)]
abbrev M_L_allocate : xMeth := ("ContainerHostLaw", c_L_allocate, 5, (Option.some FieldType.int), "allocate", [(0, 10, 13, 13), (0, 10, 17, 21), (0, 10, 21, 15)], ({ frames := 8, cells := 3, slots := 18, locals := 137 } : Room))
theorem e_L_allocate : k_L_allocate ∈ lw_tbl := mt (i := 645) (by decide +kernel)
theorem d_L_allocate_0 : decode c_L_allocate 0 = .ok (.aload_n 3, 1) := by decide +kernel
theorem d_L_allocate_1 : decode c_L_allocate 1 = .ok (.iconst 0, 1) := by decide +kernel
theorem d_L_allocate_2 : decode c_L_allocate 2 = .ok (.aload_n 0, 1) := by decide +kernel
theorem d_L_allocate_3 : decode c_L_allocate 3 = .ok (.iload_n 1, 1) := by decide +kernel
theorem d_L_allocate_4 : decode c_L_allocate 4 = .ok (.iload_n 2, 1) := by decide +kernel
theorem d_L_allocate_5 : decode c_L_allocate 5 = .ok (.invokevirtual 65, 3) := by decide +kernel
theorem d_L_allocate_8 : decode c_L_allocate 8 = .ok (.i2l, 1) := by decide +kernel
theorem d_L_allocate_9 : decode c_L_allocate 9 = .ok (.lastore, 1) := by decide +kernel
theorem d_L_allocate_10 : decode c_L_allocate 10 = .ok (.goto 15, 3) := by decide +kernel
theorem d_L_allocate_13 : decode c_L_allocate 13 = .ok (.astore 4, 2) := by decide +kernel
theorem d_L_allocate_15 : decode c_L_allocate 15 = .ok (.iconst 1, 1) := by decide +kernel
theorem d_L_allocate_16 : decode c_L_allocate 16 = .ok (.ireturn, 1) := by decide +kernel
theorem d_L_allocate_17 : decode c_L_allocate 17 = .ok (.astore 4, 2) := by decide +kernel
theorem d_L_allocate_19 : decode c_L_allocate 19 = .ok (.iconst 2, 1) := by decide +kernel
theorem d_L_allocate_20 : decode c_L_allocate 20 = .ok (.ireturn, 1) := by decide +kernel
theorem d_L_allocate_21 : decode c_L_allocate 21 = .ok (.astore 4, 2) := by decide +kernel
theorem d_L_allocate_23 : decode c_L_allocate 23 = .ok (.iconst 3, 1) := by decide +kernel
theorem d_L_allocate_24 : decode c_L_allocate 24 = .ok (.ireturn, 1) := by decide +kernel
theorem d_L_allocate_25 : decode c_L_allocate 25 = .ok (.iconst 0, 1) := by decide +kernel
theorem d_L_allocate_26 : decode c_L_allocate 26 = .ok (.ireturn, 1) := by decide +kernel
abbrev c_L_free : ByteArray := method_19_code
abbrev y_L_free : MethodName := { cls := "ContainerHostLaw", name := "free", desc := "(LContainerHost;II[J)I" }
abbrev k_L_free : Cond := .codeWith y_L_free c_L_free 5 (Option.some FieldType.int) [(0, 10, 13, 13), (0, 10, 17, 21), (0, 10, 21, 15)]
abbrev M_L_free : xMeth := ("ContainerHostLaw", c_L_free, 5, (Option.some FieldType.int), "free", [(0, 10, 13, 13), (0, 10, 17, 21), (0, 10, 21, 15)], ({ frames := 8, cells := 4, slots := 24, locals := 136 } : Room))
theorem e_L_free : k_L_free ∈ lw_tbl := mt (i := 668) (by decide +kernel)
theorem d_L_free_0 : decode c_L_free 0 = .ok (.aload_n 3, 1) := by decide +kernel
theorem d_L_free_1 : decode c_L_free 1 = .ok (.iconst 0, 1) := by decide +kernel
theorem d_L_free_2 : decode c_L_free 2 = .ok (.aload_n 0, 1) := by decide +kernel
theorem d_L_free_3 : decode c_L_free 3 = .ok (.iload_n 1, 1) := by decide +kernel
theorem d_L_free_4 : decode c_L_free 4 = .ok (.iload_n 2, 1) := by decide +kernel
theorem d_L_free_5 : decode c_L_free 5 = .ok (.invokevirtual 68, 3) := by decide +kernel
theorem d_L_free_8 : decode c_L_free 8 = .ok (.i2l, 1) := by decide +kernel
theorem d_L_free_9 : decode c_L_free 9 = .ok (.lastore, 1) := by decide +kernel
theorem d_L_free_10 : decode c_L_free 10 = .ok (.goto 15, 3) := by decide +kernel
theorem d_L_free_13 : decode c_L_free 13 = .ok (.astore 4, 2) := by decide +kernel
theorem d_L_free_15 : decode c_L_free 15 = .ok (.iconst 1, 1) := by decide +kernel
theorem d_L_free_16 : decode c_L_free 16 = .ok (.ireturn, 1) := by decide +kernel
theorem d_L_free_17 : decode c_L_free 17 = .ok (.astore 4, 2) := by decide +kernel
theorem d_L_free_19 : decode c_L_free 19 = .ok (.iconst 2, 1) := by decide +kernel
theorem d_L_free_20 : decode c_L_free 20 = .ok (.ireturn, 1) := by decide +kernel
theorem d_L_free_21 : decode c_L_free 21 = .ok (.astore 4, 2) := by decide +kernel
theorem d_L_free_23 : decode c_L_free 23 = .ok (.iconst 3, 1) := by decide +kernel
theorem d_L_free_24 : decode c_L_free 24 = .ok (.ireturn, 1) := by decide +kernel
theorem d_L_free_25 : decode c_L_free 25 = .ok (.iconst 0, 1) := by decide +kernel
theorem d_L_free_26 : decode c_L_free 26 = .ok (.ireturn, 1) := by decide +kernel
abbrev c_L_fork : ByteArray := method_20_code
abbrev y_L_fork : MethodName := { cls := "ContainerHostLaw", name := "fork", desc := "(LContainerHost;I[J)I" }
abbrev k_L_fork : Cond := .codeWith y_L_fork c_L_fork 4 (Option.some FieldType.int) [(0, 9, 12, 13), (0, 9, 15, 15)]
abbrev M_L_fork : xMeth := ("ContainerHostLaw", c_L_fork, 4, (Option.some FieldType.int), "fork", [(0, 9, 12, 13), (0, 9, 15, 15)], ({ frames := 9, cells := 3, slots := 18, locals := 157 } : Room))
theorem e_L_fork : k_L_fork ∈ lw_tbl := mt (i := 676) (by decide +kernel)
theorem d_L_fork_0 : decode c_L_fork 0 = .ok (.aload_n 2, 1) := by decide +kernel
theorem d_L_fork_1 : decode c_L_fork 1 = .ok (.iconst 0, 1) := by decide +kernel
theorem d_L_fork_2 : decode c_L_fork 2 = .ok (.aload_n 0, 1) := by decide +kernel
theorem d_L_fork_3 : decode c_L_fork 3 = .ok (.iload_n 1, 1) := by decide +kernel
theorem d_L_fork_4 : decode c_L_fork 4 = .ok (.invokevirtual 71, 3) := by decide +kernel
theorem d_L_fork_7 : decode c_L_fork 7 = .ok (.i2l, 1) := by decide +kernel
theorem d_L_fork_8 : decode c_L_fork 8 = .ok (.lastore, 1) := by decide +kernel
theorem d_L_fork_9 : decode c_L_fork 9 = .ok (.goto 9, 3) := by decide +kernel
theorem d_L_fork_12 : decode c_L_fork 12 = .ok (.astore_n 3, 1) := by decide +kernel
theorem d_L_fork_13 : decode c_L_fork 13 = .ok (.iconst 1, 1) := by decide +kernel
theorem d_L_fork_14 : decode c_L_fork 14 = .ok (.ireturn, 1) := by decide +kernel
theorem d_L_fork_15 : decode c_L_fork 15 = .ok (.astore_n 3, 1) := by decide +kernel
theorem d_L_fork_16 : decode c_L_fork 16 = .ok (.iconst 2, 1) := by decide +kernel
theorem d_L_fork_17 : decode c_L_fork 17 = .ok (.ireturn, 1) := by decide +kernel
theorem d_L_fork_18 : decode c_L_fork 18 = .ok (.iconst 0, 1) := by decide +kernel
theorem d_L_fork_19 : decode c_L_fork 19 = .ok (.ireturn, 1) := by decide +kernel
abbrev c_L_exit : ByteArray := method_21_code
abbrev y_L_exit : MethodName := { cls := "ContainerHostLaw", name := "exit", desc := "(LContainerHost;I[J)I" }
abbrev k_L_exit : Cond := .codeWith y_L_exit c_L_exit 4 (Option.some FieldType.int) [(0, 9, 12, 13), (0, 9, 15, 15)]
abbrev M_L_exit : xMeth := ("ContainerHostLaw", c_L_exit, 4, (Option.some FieldType.int), "exit", [(0, 9, 12, 13), (0, 9, 15, 15)], ({ frames := 9, cells := 2, slots := 12, locals := 157 } : Room))
theorem e_L_exit : k_L_exit ∈ lw_tbl := mt (i := 683) (by decide +kernel)
theorem d_L_exit_0 : decode c_L_exit 0 = .ok (.aload_n 2, 1) := by decide +kernel
theorem d_L_exit_1 : decode c_L_exit 1 = .ok (.iconst 0, 1) := by decide +kernel
theorem d_L_exit_2 : decode c_L_exit 2 = .ok (.aload_n 0, 1) := by decide +kernel
theorem d_L_exit_3 : decode c_L_exit 3 = .ok (.iload_n 1, 1) := by decide +kernel
theorem d_L_exit_4 : decode c_L_exit 4 = .ok (.invokevirtual 74, 3) := by decide +kernel
theorem d_L_exit_7 : decode c_L_exit 7 = .ok (.i2l, 1) := by decide +kernel
theorem d_L_exit_8 : decode c_L_exit 8 = .ok (.lastore, 1) := by decide +kernel
theorem d_L_exit_9 : decode c_L_exit 9 = .ok (.goto 9, 3) := by decide +kernel
theorem d_L_exit_12 : decode c_L_exit 12 = .ok (.astore_n 3, 1) := by decide +kernel
theorem d_L_exit_13 : decode c_L_exit 13 = .ok (.iconst 1, 1) := by decide +kernel
theorem d_L_exit_14 : decode c_L_exit 14 = .ok (.ireturn, 1) := by decide +kernel
theorem d_L_exit_15 : decode c_L_exit 15 = .ok (.astore_n 3, 1) := by decide +kernel
theorem d_L_exit_16 : decode c_L_exit 16 = .ok (.iconst 2, 1) := by decide +kernel
theorem d_L_exit_17 : decode c_L_exit 17 = .ok (.ireturn, 1) := by decide +kernel
theorem d_L_exit_18 : decode c_L_exit 18 = .ok (.iconst 0, 1) := by decide +kernel
theorem d_L_exit_19 : decode c_L_exit 19 = .ok (.ireturn, 1) := by decide +kernel
abbrev c_L_schedule : ByteArray := method_22_code
abbrev y_L_schedule : MethodName := { cls := "ContainerHostLaw", name := "schedule", desc := "(LContainerHost;I[J)I" }
abbrev k_L_schedule : Cond := .codeWith y_L_schedule c_L_schedule 4 (Option.some FieldType.int) [(0, 9, 12, 21)]
abbrev M_L_schedule : xMeth := ("ContainerHostLaw", c_L_schedule, 4, (Option.some FieldType.int), "schedule", [(0, 9, 12, 21)], ({ frames := 11, cells := 226, slots := 7404, locals := 265 } : Room))
theorem e_L_schedule : k_L_schedule ∈ lw_tbl := mt (i := 690) (by decide +kernel)
theorem d_L_schedule_0 : decode c_L_schedule 0 = .ok (.aload_n 2, 1) := by decide +kernel
theorem d_L_schedule_1 : decode c_L_schedule 1 = .ok (.iconst 0, 1) := by decide +kernel
theorem d_L_schedule_2 : decode c_L_schedule 2 = .ok (.aload_n 0, 1) := by decide +kernel
theorem d_L_schedule_3 : decode c_L_schedule 3 = .ok (.iload_n 1, 1) := by decide +kernel
theorem d_L_schedule_4 : decode c_L_schedule 4 = .ok (.invokevirtual 77, 3) := by decide +kernel
theorem d_L_schedule_7 : decode c_L_schedule 7 = .ok (.i2l, 1) := by decide +kernel
theorem d_L_schedule_8 : decode c_L_schedule 8 = .ok (.lastore, 1) := by decide +kernel
theorem d_L_schedule_9 : decode c_L_schedule 9 = .ok (.goto 6, 3) := by decide +kernel
theorem d_L_schedule_12 : decode c_L_schedule 12 = .ok (.astore_n 3, 1) := by decide +kernel
theorem d_L_schedule_13 : decode c_L_schedule 13 = .ok (.iconst 1, 1) := by decide +kernel
theorem d_L_schedule_14 : decode c_L_schedule 14 = .ok (.ireturn, 1) := by decide +kernel
theorem d_L_schedule_15 : decode c_L_schedule 15 = .ok (.iconst 0, 1) := by decide +kernel
theorem d_L_schedule_16 : decode c_L_schedule 16 = .ok (.ireturn, 1) := by decide +kernel
abbrev c_L_writeFile : ByteArray := method_23_code
abbrev y_L_writeFile : MethodName := { cls := "ContainerHostLaw", name := "writeFile", desc := "(LContainerHost;III[J)I" }
abbrev k_L_writeFile : Cond := .codeWith y_L_writeFile c_L_writeFile 6 (Option.some FieldType.int) [(0, 12, 15, 13), (0, 12, 19, 21), (0, 12, 23, 15)]
abbrev M_L_writeFile : xMeth := ("ContainerHostLaw", c_L_writeFile, 6, (Option.some FieldType.int), "writeFile", [(0, 12, 15, 13), (0, 12, 19, 21), (0, 12, 23, 15)], ({ frames := 9, cells := 5, slots := 30, locals := 159 } : Room))
theorem e_L_writeFile : k_L_writeFile ∈ lw_tbl := mt (i := 731) (by decide +kernel)
theorem d_L_writeFile_0 : decode c_L_writeFile 0 = .ok (.aload 4, 2) := by decide +kernel
theorem d_L_writeFile_2 : decode c_L_writeFile 2 = .ok (.iconst 0, 1) := by decide +kernel
theorem d_L_writeFile_3 : decode c_L_writeFile 3 = .ok (.aload_n 0, 1) := by decide +kernel
theorem d_L_writeFile_4 : decode c_L_writeFile 4 = .ok (.iload_n 1, 1) := by decide +kernel
theorem d_L_writeFile_5 : decode c_L_writeFile 5 = .ok (.iload_n 2, 1) := by decide +kernel
theorem d_L_writeFile_6 : decode c_L_writeFile 6 = .ok (.iload_n 3, 1) := by decide +kernel
theorem d_L_writeFile_7 : decode c_L_writeFile 7 = .ok (.invokevirtual 80, 3) := by decide +kernel
theorem d_L_writeFile_10 : decode c_L_writeFile 10 = .ok (.i2l, 1) := by decide +kernel
theorem d_L_writeFile_11 : decode c_L_writeFile 11 = .ok (.lastore, 1) := by decide +kernel
theorem d_L_writeFile_12 : decode c_L_writeFile 12 = .ok (.goto 15, 3) := by decide +kernel
theorem d_L_writeFile_15 : decode c_L_writeFile 15 = .ok (.astore 5, 2) := by decide +kernel
theorem d_L_writeFile_17 : decode c_L_writeFile 17 = .ok (.iconst 1, 1) := by decide +kernel
theorem d_L_writeFile_18 : decode c_L_writeFile 18 = .ok (.ireturn, 1) := by decide +kernel
theorem d_L_writeFile_19 : decode c_L_writeFile 19 = .ok (.astore 5, 2) := by decide +kernel
theorem d_L_writeFile_21 : decode c_L_writeFile 21 = .ok (.iconst 2, 1) := by decide +kernel
theorem d_L_writeFile_22 : decode c_L_writeFile 22 = .ok (.ireturn, 1) := by decide +kernel
theorem d_L_writeFile_23 : decode c_L_writeFile 23 = .ok (.astore 5, 2) := by decide +kernel
theorem d_L_writeFile_25 : decode c_L_writeFile 25 = .ok (.iconst 3, 1) := by decide +kernel
theorem d_L_writeFile_26 : decode c_L_writeFile 26 = .ok (.ireturn, 1) := by decide +kernel
theorem d_L_writeFile_27 : decode c_L_writeFile 27 = .ok (.iconst 0, 1) := by decide +kernel
theorem d_L_writeFile_28 : decode c_L_writeFile 28 = .ok (.ireturn, 1) := by decide +kernel
abbrev c_L_removeFile : ByteArray := method_24_code
abbrev y_L_removeFile : MethodName := { cls := "ContainerHostLaw", name := "removeFile", desc := "(LContainerHost;II[J)I" }
abbrev k_L_removeFile : Cond := .codeWith y_L_removeFile c_L_removeFile 5 (Option.some FieldType.int) [(0, 10, 13, 13), (0, 10, 17, 15)]
abbrev M_L_removeFile : xMeth := ("ContainerHostLaw", c_L_removeFile, 5, (Option.some FieldType.int), "removeFile", [(0, 10, 13, 13), (0, 10, 17, 15)], ({ frames := 9, cells := 5, slots := 30, locals := 157 } : Room))
theorem e_L_removeFile : k_L_removeFile ∈ lw_tbl := mt (i := 745) (by decide +kernel)
theorem d_L_removeFile_0 : decode c_L_removeFile 0 = .ok (.aload_n 3, 1) := by decide +kernel
theorem d_L_removeFile_1 : decode c_L_removeFile 1 = .ok (.iconst 0, 1) := by decide +kernel
theorem d_L_removeFile_2 : decode c_L_removeFile 2 = .ok (.aload_n 0, 1) := by decide +kernel
theorem d_L_removeFile_3 : decode c_L_removeFile 3 = .ok (.iload_n 1, 1) := by decide +kernel
theorem d_L_removeFile_4 : decode c_L_removeFile 4 = .ok (.iload_n 2, 1) := by decide +kernel
theorem d_L_removeFile_5 : decode c_L_removeFile 5 = .ok (.invokevirtual 83, 3) := by decide +kernel
theorem d_L_removeFile_8 : decode c_L_removeFile 8 = .ok (.i2l, 1) := by decide +kernel
theorem d_L_removeFile_9 : decode c_L_removeFile 9 = .ok (.lastore, 1) := by decide +kernel
theorem d_L_removeFile_10 : decode c_L_removeFile 10 = .ok (.goto 11, 3) := by decide +kernel
theorem d_L_removeFile_13 : decode c_L_removeFile 13 = .ok (.astore 4, 2) := by decide +kernel
theorem d_L_removeFile_15 : decode c_L_removeFile 15 = .ok (.iconst 1, 1) := by decide +kernel
theorem d_L_removeFile_16 : decode c_L_removeFile 16 = .ok (.ireturn, 1) := by decide +kernel
theorem d_L_removeFile_17 : decode c_L_removeFile 17 = .ok (.astore 4, 2) := by decide +kernel
theorem d_L_removeFile_19 : decode c_L_removeFile 19 = .ok (.iconst 2, 1) := by decide +kernel
theorem d_L_removeFile_20 : decode c_L_removeFile 20 = .ok (.ireturn, 1) := by decide +kernel
theorem d_L_removeFile_21 : decode c_L_removeFile 21 = .ok (.iconst 0, 1) := by decide +kernel
theorem d_L_removeFile_22 : decode c_L_removeFile 22 = .ok (.ireturn, 1) := by decide +kernel
abbrev c_L_fileOf : ByteArray := method_25_code
abbrev y_L_fileOf : MethodName := { cls := "ContainerHostLaw", name := "fileOf", desc := "(LContainerHost;II[J)I" }
abbrev k_L_fileOf : Cond := .codeWith y_L_fileOf c_L_fileOf 5 (Option.some FieldType.int) [(0, 10, 13, 13)]
abbrev M_L_fileOf : xMeth := ("ContainerHostLaw", c_L_fileOf, 5, (Option.some FieldType.int), "fileOf", [(0, 10, 13, 13)], ({ frames := 8, cells := 2, slots := 12, locals := 136 } : Room))
theorem e_L_fileOf : k_L_fileOf ∈ lw_tbl := mt (i := 752) (by decide +kernel)
theorem d_L_fileOf_0 : decode c_L_fileOf 0 = .ok (.aload_n 3, 1) := by decide +kernel
theorem d_L_fileOf_1 : decode c_L_fileOf 1 = .ok (.iconst 0, 1) := by decide +kernel
theorem d_L_fileOf_2 : decode c_L_fileOf 2 = .ok (.aload_n 0, 1) := by decide +kernel
theorem d_L_fileOf_3 : decode c_L_fileOf 3 = .ok (.iload_n 1, 1) := by decide +kernel
theorem d_L_fileOf_4 : decode c_L_fileOf 4 = .ok (.iload_n 2, 1) := by decide +kernel
theorem d_L_fileOf_5 : decode c_L_fileOf 5 = .ok (.invokevirtual 86, 3) := by decide +kernel
theorem d_L_fileOf_8 : decode c_L_fileOf 8 = .ok (.i2l, 1) := by decide +kernel
theorem d_L_fileOf_9 : decode c_L_fileOf 9 = .ok (.lastore, 1) := by decide +kernel
theorem d_L_fileOf_10 : decode c_L_fileOf 10 = .ok (.goto 7, 3) := by decide +kernel
theorem d_L_fileOf_13 : decode c_L_fileOf 13 = .ok (.astore 4, 2) := by decide +kernel
theorem d_L_fileOf_15 : decode c_L_fileOf 15 = .ok (.iconst 1, 1) := by decide +kernel
theorem d_L_fileOf_16 : decode c_L_fileOf 16 = .ok (.ireturn, 1) := by decide +kernel
theorem d_L_fileOf_17 : decode c_L_fileOf 17 = .ok (.iconst 0, 1) := by decide +kernel
theorem d_L_fileOf_18 : decode c_L_fileOf 18 = .ok (.ireturn, 1) := by decide +kernel
abbrev c_L_plainFileOf : ByteArray := method_26_code
abbrev y_L_plainFileOf : MethodName := { cls := "ContainerHostLaw", name := "plainFileOf", desc := "(LContainerHost;II[J)I" }
abbrev k_L_plainFileOf : Cond := .codeWith y_L_plainFileOf c_L_plainFileOf 5 (Option.some FieldType.int) [(0, 10, 13, 13)]
abbrev M_L_plainFileOf : xMeth := ("ContainerHostLaw", c_L_plainFileOf, 5, (Option.some FieldType.int), "plainFileOf", [(0, 10, 13, 13)], ({ frames := 8, cells := 2, slots := 12, locals := 136 } : Room))
theorem e_L_plainFileOf : k_L_plainFileOf ∈ lw_tbl := mt (i := 759) (by decide +kernel)
theorem d_L_plainFileOf_0 : decode c_L_plainFileOf 0 = .ok (.aload_n 3, 1) := by decide +kernel
theorem d_L_plainFileOf_1 : decode c_L_plainFileOf 1 = .ok (.iconst 0, 1) := by decide +kernel
theorem d_L_plainFileOf_2 : decode c_L_plainFileOf 2 = .ok (.aload_n 0, 1) := by decide +kernel
theorem d_L_plainFileOf_3 : decode c_L_plainFileOf 3 = .ok (.iload_n 1, 1) := by decide +kernel
theorem d_L_plainFileOf_4 : decode c_L_plainFileOf 4 = .ok (.iload_n 2, 1) := by decide +kernel
theorem d_L_plainFileOf_5 : decode c_L_plainFileOf 5 = .ok (.invokevirtual 89, 3) := by decide +kernel
theorem d_L_plainFileOf_8 : decode c_L_plainFileOf 8 = .ok (.i2l, 1) := by decide +kernel
theorem d_L_plainFileOf_9 : decode c_L_plainFileOf 9 = .ok (.lastore, 1) := by decide +kernel
theorem d_L_plainFileOf_10 : decode c_L_plainFileOf 10 = .ok (.goto 7, 3) := by decide +kernel
theorem d_L_plainFileOf_13 : decode c_L_plainFileOf 13 = .ok (.astore 4, 2) := by decide +kernel
theorem d_L_plainFileOf_15 : decode c_L_plainFileOf 15 = .ok (.iconst 1, 1) := by decide +kernel
theorem d_L_plainFileOf_16 : decode c_L_plainFileOf 16 = .ok (.ireturn, 1) := by decide +kernel
theorem d_L_plainFileOf_17 : decode c_L_plainFileOf 17 = .ok (.iconst 0, 1) := by decide +kernel
theorem d_L_plainFileOf_18 : decode c_L_plainFileOf 18 = .ok (.ireturn, 1) := by decide +kernel
abbrev c_L_raise : ByteArray := method_27_code
abbrev y_L_raise : MethodName := { cls := "ContainerHostLaw", name := "raise", desc := "(LContainerHost;II[J)I" }
abbrev k_L_raise : Cond := .codeWith y_L_raise c_L_raise 5 (Option.some FieldType.int) [(0, 10, 13, 13), (0, 10, 17, 15)]
abbrev M_L_raise : xMeth := ("ContainerHostLaw", c_L_raise, 5, (Option.some FieldType.int), "raise", [(0, 10, 13, 13), (0, 10, 17, 15)], ({ frames := 8, cells := 4, slots := 24, locals := 137 } : Room))
theorem e_L_raise : k_L_raise ∈ lw_tbl := mt (i := 771) (by decide +kernel)
theorem d_L_raise_0 : decode c_L_raise 0 = .ok (.aload_n 3, 1) := by decide +kernel
theorem d_L_raise_1 : decode c_L_raise 1 = .ok (.iconst 0, 1) := by decide +kernel
theorem d_L_raise_2 : decode c_L_raise 2 = .ok (.aload_n 0, 1) := by decide +kernel
theorem d_L_raise_3 : decode c_L_raise 3 = .ok (.iload_n 1, 1) := by decide +kernel
theorem d_L_raise_4 : decode c_L_raise 4 = .ok (.iload_n 2, 1) := by decide +kernel
theorem d_L_raise_5 : decode c_L_raise 5 = .ok (.invokevirtual 92, 3) := by decide +kernel
theorem d_L_raise_8 : decode c_L_raise 8 = .ok (.i2l, 1) := by decide +kernel
theorem d_L_raise_9 : decode c_L_raise 9 = .ok (.lastore, 1) := by decide +kernel
theorem d_L_raise_10 : decode c_L_raise 10 = .ok (.goto 11, 3) := by decide +kernel
theorem d_L_raise_13 : decode c_L_raise 13 = .ok (.astore 4, 2) := by decide +kernel
theorem d_L_raise_15 : decode c_L_raise 15 = .ok (.iconst 1, 1) := by decide +kernel
theorem d_L_raise_16 : decode c_L_raise 16 = .ok (.ireturn, 1) := by decide +kernel
theorem d_L_raise_17 : decode c_L_raise 17 = .ok (.astore 4, 2) := by decide +kernel
theorem d_L_raise_19 : decode c_L_raise 19 = .ok (.iconst 2, 1) := by decide +kernel
theorem d_L_raise_20 : decode c_L_raise 20 = .ok (.ireturn, 1) := by decide +kernel
theorem d_L_raise_21 : decode c_L_raise 21 = .ok (.iconst 0, 1) := by decide +kernel
theorem d_L_raise_22 : decode c_L_raise 22 = .ok (.ireturn, 1) := by decide +kernel
abbrev c_L_lower : ByteArray := method_28_code
abbrev y_L_lower : MethodName := { cls := "ContainerHostLaw", name := "lower", desc := "(LContainerHost;II[J)I" }
abbrev k_L_lower : Cond := .codeWith y_L_lower c_L_lower 5 (Option.some FieldType.int) [(0, 10, 13, 13), (0, 10, 17, 15)]
abbrev M_L_lower : xMeth := ("ContainerHostLaw", c_L_lower, 5, (Option.some FieldType.int), "lower", [(0, 10, 13, 13), (0, 10, 17, 15)], ({ frames := 8, cells := 3, slots := 18, locals := 136 } : Room))
theorem e_L_lower : k_L_lower ∈ lw_tbl := mt (i := 783) (by decide +kernel)
theorem d_L_lower_0 : decode c_L_lower 0 = .ok (.aload_n 3, 1) := by decide +kernel
theorem d_L_lower_1 : decode c_L_lower 1 = .ok (.iconst 0, 1) := by decide +kernel
theorem d_L_lower_2 : decode c_L_lower 2 = .ok (.aload_n 0, 1) := by decide +kernel
theorem d_L_lower_3 : decode c_L_lower 3 = .ok (.iload_n 1, 1) := by decide +kernel
theorem d_L_lower_4 : decode c_L_lower 4 = .ok (.iload_n 2, 1) := by decide +kernel
theorem d_L_lower_5 : decode c_L_lower 5 = .ok (.invokevirtual 95, 3) := by decide +kernel
theorem d_L_lower_8 : decode c_L_lower 8 = .ok (.i2l, 1) := by decide +kernel
theorem d_L_lower_9 : decode c_L_lower 9 = .ok (.lastore, 1) := by decide +kernel
theorem d_L_lower_10 : decode c_L_lower 10 = .ok (.goto 11, 3) := by decide +kernel
theorem d_L_lower_13 : decode c_L_lower 13 = .ok (.astore 4, 2) := by decide +kernel
theorem d_L_lower_15 : decode c_L_lower 15 = .ok (.iconst 1, 1) := by decide +kernel
theorem d_L_lower_16 : decode c_L_lower 16 = .ok (.ireturn, 1) := by decide +kernel
theorem d_L_lower_17 : decode c_L_lower 17 = .ok (.astore 4, 2) := by decide +kernel
theorem d_L_lower_19 : decode c_L_lower 19 = .ok (.iconst 2, 1) := by decide +kernel
theorem d_L_lower_20 : decode c_L_lower 20 = .ok (.ireturn, 1) := by decide +kernel
theorem d_L_lower_21 : decode c_L_lower 21 = .ok (.iconst 0, 1) := by decide +kernel
theorem d_L_lower_22 : decode c_L_lower 22 = .ok (.ireturn, 1) := by decide +kernel
abbrev c_L_drop : ByteArray := method_29_code
abbrev y_L_drop : MethodName := { cls := "ContainerHostLaw", name := "drop", desc := "(LContainerHost;II[J)I" }
abbrev k_L_drop : Cond := .codeWith y_L_drop c_L_drop 5 (Option.some FieldType.int) [(0, 10, 13, 13), (0, 10, 17, 15)]
abbrev M_L_drop : xMeth := ("ContainerHostLaw", c_L_drop, 5, (Option.some FieldType.int), "drop", [(0, 10, 13, 13), (0, 10, 17, 15)], ({ frames := 8, cells := 3, slots := 18, locals := 136 } : Room))
theorem e_L_drop : k_L_drop ∈ lw_tbl := mt (i := 790) (by decide +kernel)
theorem d_L_drop_0 : decode c_L_drop 0 = .ok (.aload_n 3, 1) := by decide +kernel
theorem d_L_drop_1 : decode c_L_drop 1 = .ok (.iconst 0, 1) := by decide +kernel
theorem d_L_drop_2 : decode c_L_drop 2 = .ok (.aload_n 0, 1) := by decide +kernel
theorem d_L_drop_3 : decode c_L_drop 3 = .ok (.iload_n 1, 1) := by decide +kernel
theorem d_L_drop_4 : decode c_L_drop 4 = .ok (.iload_n 2, 1) := by decide +kernel
theorem d_L_drop_5 : decode c_L_drop 5 = .ok (.invokevirtual 98, 3) := by decide +kernel
theorem d_L_drop_8 : decode c_L_drop 8 = .ok (.i2l, 1) := by decide +kernel
theorem d_L_drop_9 : decode c_L_drop 9 = .ok (.lastore, 1) := by decide +kernel
theorem d_L_drop_10 : decode c_L_drop 10 = .ok (.goto 11, 3) := by decide +kernel
theorem d_L_drop_13 : decode c_L_drop 13 = .ok (.astore 4, 2) := by decide +kernel
theorem d_L_drop_15 : decode c_L_drop 15 = .ok (.iconst 1, 1) := by decide +kernel
theorem d_L_drop_16 : decode c_L_drop 16 = .ok (.ireturn, 1) := by decide +kernel
theorem d_L_drop_17 : decode c_L_drop 17 = .ok (.astore 4, 2) := by decide +kernel
theorem d_L_drop_19 : decode c_L_drop 19 = .ok (.iconst 2, 1) := by decide +kernel
theorem d_L_drop_20 : decode c_L_drop 20 = .ok (.ireturn, 1) := by decide +kernel
theorem d_L_drop_21 : decode c_L_drop 21 = .ok (.iconst 0, 1) := by decide +kernel
theorem d_L_drop_22 : decode c_L_drop 22 = .ok (.ireturn, 1) := by decide +kernel
abbrev c_L_kill : ByteArray := method_30_code
abbrev y_L_kill : MethodName := { cls := "ContainerHostLaw", name := "kill", desc := "(LContainerHost;II[J)I" }
abbrev k_L_kill : Cond := .codeWith y_L_kill c_L_kill 5 (Option.some FieldType.int) [(0, 10, 13, 13), (0, 10, 17, 15)]
abbrev M_L_kill : xMeth := ("ContainerHostLaw", c_L_kill, 5, (Option.some FieldType.int), "kill", [(0, 10, 13, 13), (0, 10, 17, 15)], ({ frames := 8, cells := 6, slots := 36, locals := 137 } : Room))
theorem e_L_kill : k_L_kill ∈ lw_tbl := mt (i := 797) (by decide +kernel)
theorem d_L_kill_0 : decode c_L_kill 0 = .ok (.aload_n 3, 1) := by decide +kernel
theorem d_L_kill_1 : decode c_L_kill 1 = .ok (.iconst 0, 1) := by decide +kernel
theorem d_L_kill_2 : decode c_L_kill 2 = .ok (.aload_n 0, 1) := by decide +kernel
theorem d_L_kill_3 : decode c_L_kill 3 = .ok (.iload_n 1, 1) := by decide +kernel
theorem d_L_kill_4 : decode c_L_kill 4 = .ok (.iload_n 2, 1) := by decide +kernel
theorem d_L_kill_5 : decode c_L_kill 5 = .ok (.invokevirtual 101, 3) := by decide +kernel
theorem d_L_kill_8 : decode c_L_kill 8 = .ok (.i2l, 1) := by decide +kernel
theorem d_L_kill_9 : decode c_L_kill 9 = .ok (.lastore, 1) := by decide +kernel
theorem d_L_kill_10 : decode c_L_kill 10 = .ok (.goto 11, 3) := by decide +kernel
theorem d_L_kill_13 : decode c_L_kill 13 = .ok (.astore 4, 2) := by decide +kernel
theorem d_L_kill_15 : decode c_L_kill 15 = .ok (.iconst 1, 1) := by decide +kernel
theorem d_L_kill_16 : decode c_L_kill 16 = .ok (.ireturn, 1) := by decide +kernel
theorem d_L_kill_17 : decode c_L_kill 17 = .ok (.astore 4, 2) := by decide +kernel
theorem d_L_kill_19 : decode c_L_kill 19 = .ok (.iconst 2, 1) := by decide +kernel
theorem d_L_kill_20 : decode c_L_kill 20 = .ok (.ireturn, 1) := by decide +kernel
theorem d_L_kill_21 : decode c_L_kill 21 = .ok (.iconst 0, 1) := by decide +kernel
theorem d_L_kill_22 : decode c_L_kill 22 = .ok (.ireturn, 1) := by decide +kernel
abbrev c_L_attach : ByteArray := method_31_code
abbrev y_L_attach : MethodName := { cls := "ContainerHostLaw", name := "attach", desc := "(LContainerHost;II[J)I" }
abbrev k_L_attach : Cond := .codeWith y_L_attach c_L_attach 5 (Option.some FieldType.int) [(0, 10, 13, 13), (0, 10, 17, 15)]
abbrev M_L_attach : xMeth := ("ContainerHostLaw", c_L_attach, 5, (Option.some FieldType.int), "attach", [(0, 10, 13, 13), (0, 10, 17, 15)], ({ frames := 8, cells := 5, slots := 30, locals := 137 } : Room))
theorem e_L_attach : k_L_attach ∈ lw_tbl := mt (i := 806) (by decide +kernel)
theorem d_L_attach_0 : decode c_L_attach 0 = .ok (.aload_n 3, 1) := by decide +kernel
theorem d_L_attach_1 : decode c_L_attach 1 = .ok (.iconst 0, 1) := by decide +kernel
theorem d_L_attach_2 : decode c_L_attach 2 = .ok (.aload_n 0, 1) := by decide +kernel
theorem d_L_attach_3 : decode c_L_attach 3 = .ok (.iload_n 1, 1) := by decide +kernel
theorem d_L_attach_4 : decode c_L_attach 4 = .ok (.iload_n 2, 1) := by decide +kernel
theorem d_L_attach_5 : decode c_L_attach 5 = .ok (.invokevirtual 104, 3) := by decide +kernel
theorem d_L_attach_8 : decode c_L_attach 8 = .ok (.i2l, 1) := by decide +kernel
theorem d_L_attach_9 : decode c_L_attach 9 = .ok (.lastore, 1) := by decide +kernel
theorem d_L_attach_10 : decode c_L_attach 10 = .ok (.goto 11, 3) := by decide +kernel
theorem d_L_attach_13 : decode c_L_attach 13 = .ok (.astore 4, 2) := by decide +kernel
theorem d_L_attach_15 : decode c_L_attach 15 = .ok (.iconst 1, 1) := by decide +kernel
theorem d_L_attach_16 : decode c_L_attach 16 = .ok (.ireturn, 1) := by decide +kernel
theorem d_L_attach_17 : decode c_L_attach 17 = .ok (.astore 4, 2) := by decide +kernel
theorem d_L_attach_19 : decode c_L_attach 19 = .ok (.iconst 2, 1) := by decide +kernel
theorem d_L_attach_20 : decode c_L_attach 20 = .ok (.ireturn, 1) := by decide +kernel
theorem d_L_attach_21 : decode c_L_attach 21 = .ok (.iconst 0, 1) := by decide +kernel
theorem d_L_attach_22 : decode c_L_attach 22 = .ok (.ireturn, 1) := by decide +kernel
abbrev c_L_detach : ByteArray := method_32_code
abbrev y_L_detach : MethodName := { cls := "ContainerHostLaw", name := "detach", desc := "(LContainerHost;I[J)I" }
abbrev k_L_detach : Cond := .codeWith y_L_detach c_L_detach 4 (Option.some FieldType.int) [(0, 9, 12, 13), (0, 9, 15, 15)]
abbrev M_L_detach : xMeth := ("ContainerHostLaw", c_L_detach, 4, (Option.some FieldType.int), "detach", [(0, 9, 12, 13), (0, 9, 15, 15)], ({ frames := 9, cells := 3, slots := 18, locals := 158 } : Room))
theorem e_L_detach : k_L_detach ∈ lw_tbl := mt (i := 823) (by decide +kernel)
theorem d_L_detach_0 : decode c_L_detach 0 = .ok (.aload_n 2, 1) := by decide +kernel
theorem d_L_detach_1 : decode c_L_detach 1 = .ok (.iconst 0, 1) := by decide +kernel
theorem d_L_detach_2 : decode c_L_detach 2 = .ok (.aload_n 0, 1) := by decide +kernel
theorem d_L_detach_3 : decode c_L_detach 3 = .ok (.iload_n 1, 1) := by decide +kernel
theorem d_L_detach_4 : decode c_L_detach 4 = .ok (.invokevirtual 107, 3) := by decide +kernel
theorem d_L_detach_7 : decode c_L_detach 7 = .ok (.i2l, 1) := by decide +kernel
theorem d_L_detach_8 : decode c_L_detach 8 = .ok (.lastore, 1) := by decide +kernel
theorem d_L_detach_9 : decode c_L_detach 9 = .ok (.goto 9, 3) := by decide +kernel
theorem d_L_detach_12 : decode c_L_detach 12 = .ok (.astore_n 3, 1) := by decide +kernel
theorem d_L_detach_13 : decode c_L_detach 13 = .ok (.iconst 1, 1) := by decide +kernel
theorem d_L_detach_14 : decode c_L_detach 14 = .ok (.ireturn, 1) := by decide +kernel
theorem d_L_detach_15 : decode c_L_detach 15 = .ok (.astore_n 3, 1) := by decide +kernel
theorem d_L_detach_16 : decode c_L_detach 16 = .ok (.iconst 2, 1) := by decide +kernel
theorem d_L_detach_17 : decode c_L_detach 17 = .ok (.ireturn, 1) := by decide +kernel
theorem d_L_detach_18 : decode c_L_detach 18 = .ok (.iconst 0, 1) := by decide +kernel
theorem d_L_detach_19 : decode c_L_detach 19 = .ok (.ireturn, 1) := by decide +kernel
abbrev c_L_listen : ByteArray := method_33_code
abbrev y_L_listen : MethodName := { cls := "ContainerHostLaw", name := "listen", desc := "(LContainerHost;II[J)I" }
abbrev k_L_listen : Cond := .codeWith y_L_listen c_L_listen 5 (Option.some FieldType.int) [(0, 10, 13, 13), (0, 10, 17, 15)]
abbrev M_L_listen : xMeth := ("ContainerHostLaw", c_L_listen, 5, (Option.some FieldType.int), "listen", [(0, 10, 13, 13), (0, 10, 17, 15)], ({ frames := 8, cells := 5, slots := 30, locals := 136 } : Room))
theorem e_L_listen : k_L_listen ∈ lw_tbl := mt (i := 834) (by decide +kernel)
theorem d_L_listen_0 : decode c_L_listen 0 = .ok (.aload_n 3, 1) := by decide +kernel
theorem d_L_listen_1 : decode c_L_listen 1 = .ok (.iconst 0, 1) := by decide +kernel
theorem d_L_listen_2 : decode c_L_listen 2 = .ok (.aload_n 0, 1) := by decide +kernel
theorem d_L_listen_3 : decode c_L_listen 3 = .ok (.iload_n 1, 1) := by decide +kernel
theorem d_L_listen_4 : decode c_L_listen 4 = .ok (.iload_n 2, 1) := by decide +kernel
theorem d_L_listen_5 : decode c_L_listen 5 = .ok (.invokevirtual 110, 3) := by decide +kernel
theorem d_L_listen_8 : decode c_L_listen 8 = .ok (.i2l, 1) := by decide +kernel
theorem d_L_listen_9 : decode c_L_listen 9 = .ok (.lastore, 1) := by decide +kernel
theorem d_L_listen_10 : decode c_L_listen 10 = .ok (.goto 11, 3) := by decide +kernel
theorem d_L_listen_13 : decode c_L_listen 13 = .ok (.astore 4, 2) := by decide +kernel
theorem d_L_listen_15 : decode c_L_listen 15 = .ok (.iconst 1, 1) := by decide +kernel
theorem d_L_listen_16 : decode c_L_listen 16 = .ok (.ireturn, 1) := by decide +kernel
theorem d_L_listen_17 : decode c_L_listen 17 = .ok (.astore 4, 2) := by decide +kernel
theorem d_L_listen_19 : decode c_L_listen 19 = .ok (.iconst 2, 1) := by decide +kernel
theorem d_L_listen_20 : decode c_L_listen 20 = .ok (.ireturn, 1) := by decide +kernel
theorem d_L_listen_21 : decode c_L_listen 21 = .ok (.iconst 0, 1) := by decide +kernel
theorem d_L_listen_22 : decode c_L_listen 22 = .ok (.ireturn, 1) := by decide +kernel
abbrev c_L_publish : ByteArray := method_34_code
abbrev y_L_publish : MethodName := { cls := "ContainerHostLaw", name := "publish", desc := "(LContainerHost;III[J)I" }
abbrev k_L_publish : Cond := .codeWith y_L_publish c_L_publish 6 (Option.some FieldType.int) [(0, 12, 15, 13), (0, 12, 19, 15)]
abbrev M_L_publish : xMeth := ("ContainerHostLaw", c_L_publish, 6, (Option.some FieldType.int), "publish", [(0, 12, 15, 13), (0, 12, 19, 15)], ({ frames := 8, cells := 5, slots := 30, locals := 137 } : Room))
theorem e_L_publish : k_L_publish ∈ lw_tbl := mt (i := 851) (by decide +kernel)
theorem d_L_publish_0 : decode c_L_publish 0 = .ok (.aload 4, 2) := by decide +kernel
theorem d_L_publish_2 : decode c_L_publish 2 = .ok (.iconst 0, 1) := by decide +kernel
theorem d_L_publish_3 : decode c_L_publish 3 = .ok (.aload_n 0, 1) := by decide +kernel
theorem d_L_publish_4 : decode c_L_publish 4 = .ok (.iload_n 1, 1) := by decide +kernel
theorem d_L_publish_5 : decode c_L_publish 5 = .ok (.iload_n 2, 1) := by decide +kernel
theorem d_L_publish_6 : decode c_L_publish 6 = .ok (.iload_n 3, 1) := by decide +kernel
theorem d_L_publish_7 : decode c_L_publish 7 = .ok (.invokevirtual 113, 3) := by decide +kernel
theorem d_L_publish_10 : decode c_L_publish 10 = .ok (.i2l, 1) := by decide +kernel
theorem d_L_publish_11 : decode c_L_publish 11 = .ok (.lastore, 1) := by decide +kernel
theorem d_L_publish_12 : decode c_L_publish 12 = .ok (.goto 11, 3) := by decide +kernel
theorem d_L_publish_15 : decode c_L_publish 15 = .ok (.astore 5, 2) := by decide +kernel
theorem d_L_publish_17 : decode c_L_publish 17 = .ok (.iconst 1, 1) := by decide +kernel
theorem d_L_publish_18 : decode c_L_publish 18 = .ok (.ireturn, 1) := by decide +kernel
theorem d_L_publish_19 : decode c_L_publish 19 = .ok (.astore 5, 2) := by decide +kernel
theorem d_L_publish_21 : decode c_L_publish 21 = .ok (.iconst 2, 1) := by decide +kernel
theorem d_L_publish_22 : decode c_L_publish 22 = .ok (.ireturn, 1) := by decide +kernel
theorem d_L_publish_23 : decode c_L_publish 23 = .ok (.iconst 0, 1) := by decide +kernel
theorem d_L_publish_24 : decode c_L_publish 24 = .ok (.ireturn, 1) := by decide +kernel
abbrev c_L_connect : ByteArray := method_35_code
abbrev y_L_connect : MethodName := { cls := "ContainerHostLaw", name := "connect", desc := "(LContainerHost;III[J)I" }
abbrev k_L_connect : Cond := .codeWith y_L_connect c_L_connect 6 (Option.some FieldType.int) [(0, 12, 15, 13), (0, 12, 19, 21), (0, 12, 23, 15)]
abbrev M_L_connect : xMeth := ("ContainerHostLaw", c_L_connect, 6, (Option.some FieldType.int), "connect", [(0, 12, 15, 13), (0, 12, 19, 21), (0, 12, 23, 15)], ({ frames := 8, cells := 5, slots := 30, locals := 138 } : Room))
theorem e_L_connect : k_L_connect ∈ lw_tbl := mt (i := 868) (by decide +kernel)
theorem d_L_connect_0 : decode c_L_connect 0 = .ok (.aload 4, 2) := by decide +kernel
theorem d_L_connect_2 : decode c_L_connect 2 = .ok (.iconst 0, 1) := by decide +kernel
theorem d_L_connect_3 : decode c_L_connect 3 = .ok (.aload_n 0, 1) := by decide +kernel
theorem d_L_connect_4 : decode c_L_connect 4 = .ok (.iload_n 1, 1) := by decide +kernel
theorem d_L_connect_5 : decode c_L_connect 5 = .ok (.iload_n 2, 1) := by decide +kernel
theorem d_L_connect_6 : decode c_L_connect 6 = .ok (.iload_n 3, 1) := by decide +kernel
theorem d_L_connect_7 : decode c_L_connect 7 = .ok (.invokevirtual 116, 3) := by decide +kernel
theorem d_L_connect_10 : decode c_L_connect 10 = .ok (.i2l, 1) := by decide +kernel
theorem d_L_connect_11 : decode c_L_connect 11 = .ok (.lastore, 1) := by decide +kernel
theorem d_L_connect_12 : decode c_L_connect 12 = .ok (.goto 15, 3) := by decide +kernel
theorem d_L_connect_15 : decode c_L_connect 15 = .ok (.astore 5, 2) := by decide +kernel
theorem d_L_connect_17 : decode c_L_connect 17 = .ok (.iconst 1, 1) := by decide +kernel
theorem d_L_connect_18 : decode c_L_connect 18 = .ok (.ireturn, 1) := by decide +kernel
theorem d_L_connect_19 : decode c_L_connect 19 = .ok (.astore 5, 2) := by decide +kernel
theorem d_L_connect_21 : decode c_L_connect 21 = .ok (.iconst 2, 1) := by decide +kernel
theorem d_L_connect_22 : decode c_L_connect 22 = .ok (.ireturn, 1) := by decide +kernel
theorem d_L_connect_23 : decode c_L_connect 23 = .ok (.astore 5, 2) := by decide +kernel
theorem d_L_connect_25 : decode c_L_connect 25 = .ok (.iconst 3, 1) := by decide +kernel
theorem d_L_connect_26 : decode c_L_connect 26 = .ok (.ireturn, 1) := by decide +kernel
theorem d_L_connect_27 : decode c_L_connect 27 = .ok (.iconst 0, 1) := by decide +kernel
theorem d_L_connect_28 : decode c_L_connect 28 = .ok (.ireturn, 1) := by decide +kernel
abbrev c_L_connectHost : ByteArray := method_36_code
abbrev y_L_connectHost : MethodName := { cls := "ContainerHostLaw", name := "connectHost", desc := "(LContainerHost;I[J)I" }
abbrev k_L_connectHost : Cond := .codeWith y_L_connectHost c_L_connectHost 4 (Option.some FieldType.int) [(0, 9, 12, 13)]
abbrev M_L_connectHost : xMeth := ("ContainerHostLaw", c_L_connectHost, 4, (Option.some FieldType.int), "connectHost", [(0, 9, 12, 13)], ({ frames := 8, cells := 1, slots := 6, locals := 134 } : Room))
theorem e_L_connectHost : k_L_connectHost ∈ lw_tbl := mt (i := 875) (by decide +kernel)
theorem d_L_connectHost_0 : decode c_L_connectHost 0 = .ok (.aload_n 2, 1) := by decide +kernel
theorem d_L_connectHost_1 : decode c_L_connectHost 1 = .ok (.iconst 0, 1) := by decide +kernel
theorem d_L_connectHost_2 : decode c_L_connectHost 2 = .ok (.aload_n 0, 1) := by decide +kernel
theorem d_L_connectHost_3 : decode c_L_connectHost 3 = .ok (.iload_n 1, 1) := by decide +kernel
theorem d_L_connectHost_4 : decode c_L_connectHost 4 = .ok (.invokevirtual 119, 3) := by decide +kernel
theorem d_L_connectHost_7 : decode c_L_connectHost 7 = .ok (.i2l, 1) := by decide +kernel
theorem d_L_connectHost_8 : decode c_L_connectHost 8 = .ok (.lastore, 1) := by decide +kernel
theorem d_L_connectHost_9 : decode c_L_connectHost 9 = .ok (.goto 6, 3) := by decide +kernel
theorem d_L_connectHost_12 : decode c_L_connectHost 12 = .ok (.astore_n 3, 1) := by decide +kernel
theorem d_L_connectHost_13 : decode c_L_connectHost 13 = .ok (.iconst 1, 1) := by decide +kernel
theorem d_L_connectHost_14 : decode c_L_connectHost 14 = .ok (.ireturn, 1) := by decide +kernel
theorem d_L_connectHost_15 : decode c_L_connectHost 15 = .ok (.iconst 0, 1) := by decide +kernel
theorem d_L_connectHost_16 : decode c_L_connectHost 16 = .ok (.ireturn, 1) := by decide +kernel
abbrev c_L_save : ByteArray := method_37_code
abbrev y_L_save : MethodName := { cls := "ContainerHostLaw", name := "save", desc := "(LContainerHost;I[J)I" }
abbrev k_L_save : Cond := .codeWith y_L_save c_L_save 4 (Option.some FieldType.int) [(0, 9, 12, 13), (0, 9, 15, 15)]
abbrev M_L_save : xMeth := ("ContainerHostLaw", c_L_save, 4, (Option.some FieldType.int), "save", [(0, 9, 12, 13), (0, 9, 15, 15)], ({ frames := 9, cells := 7, slots := 102, locals := 213 } : Room))
theorem e_L_save : k_L_save ∈ lw_tbl := mt (i := 882) (by decide +kernel)
theorem d_L_save_0 : decode c_L_save 0 = .ok (.aload_n 2, 1) := by decide +kernel
theorem d_L_save_1 : decode c_L_save 1 = .ok (.iconst 0, 1) := by decide +kernel
theorem d_L_save_2 : decode c_L_save 2 = .ok (.aload_n 0, 1) := by decide +kernel
theorem d_L_save_3 : decode c_L_save 3 = .ok (.iload_n 1, 1) := by decide +kernel
theorem d_L_save_4 : decode c_L_save 4 = .ok (.invokevirtual 122, 3) := by decide +kernel
theorem d_L_save_7 : decode c_L_save 7 = .ok (.i2l, 1) := by decide +kernel
theorem d_L_save_8 : decode c_L_save 8 = .ok (.lastore, 1) := by decide +kernel
theorem d_L_save_9 : decode c_L_save 9 = .ok (.goto 9, 3) := by decide +kernel
theorem d_L_save_12 : decode c_L_save 12 = .ok (.astore_n 3, 1) := by decide +kernel
theorem d_L_save_13 : decode c_L_save 13 = .ok (.iconst 1, 1) := by decide +kernel
theorem d_L_save_14 : decode c_L_save 14 = .ok (.ireturn, 1) := by decide +kernel
theorem d_L_save_15 : decode c_L_save 15 = .ok (.astore_n 3, 1) := by decide +kernel
theorem d_L_save_16 : decode c_L_save 16 = .ok (.iconst 2, 1) := by decide +kernel
theorem d_L_save_17 : decode c_L_save 17 = .ok (.ireturn, 1) := by decide +kernel
theorem d_L_save_18 : decode c_L_save 18 = .ok (.iconst 0, 1) := by decide +kernel
theorem d_L_save_19 : decode c_L_save 19 = .ok (.ireturn, 1) := by decide +kernel
abbrev c_L_restore : ByteArray := method_38_code
abbrev y_L_restore : MethodName := { cls := "ContainerHostLaw", name := "restore", desc := "(LContainerHost;II[J)I" }
abbrev k_L_restore : Cond := .codeWith y_L_restore c_L_restore 5 (Option.some FieldType.int) [(0, 10, 13, 13), (0, 10, 17, 15)]
abbrev M_L_restore : xMeth := ("ContainerHostLaw", c_L_restore, 5, (Option.some FieldType.int), "restore", [(0, 10, 13, 13), (0, 10, 17, 15)], ({ frames := 10, cells := 8, slots := 114, locals := 240 } : Room))
theorem e_L_restore : k_L_restore ∈ lw_tbl := mt (i := 926) (by decide +kernel)
theorem d_L_restore_0 : decode c_L_restore 0 = .ok (.aload_n 3, 1) := by decide +kernel
theorem d_L_restore_1 : decode c_L_restore 1 = .ok (.iconst 0, 1) := by decide +kernel
theorem d_L_restore_2 : decode c_L_restore 2 = .ok (.aload_n 0, 1) := by decide +kernel
theorem d_L_restore_3 : decode c_L_restore 3 = .ok (.iload_n 1, 1) := by decide +kernel
theorem d_L_restore_4 : decode c_L_restore 4 = .ok (.iload_n 2, 1) := by decide +kernel
theorem d_L_restore_5 : decode c_L_restore 5 = .ok (.invokevirtual 125, 3) := by decide +kernel
theorem d_L_restore_8 : decode c_L_restore 8 = .ok (.i2l, 1) := by decide +kernel
theorem d_L_restore_9 : decode c_L_restore 9 = .ok (.lastore, 1) := by decide +kernel
theorem d_L_restore_10 : decode c_L_restore 10 = .ok (.goto 11, 3) := by decide +kernel
theorem d_L_restore_13 : decode c_L_restore 13 = .ok (.astore 4, 2) := by decide +kernel
theorem d_L_restore_15 : decode c_L_restore 15 = .ok (.iconst 1, 1) := by decide +kernel
theorem d_L_restore_16 : decode c_L_restore 16 = .ok (.ireturn, 1) := by decide +kernel
theorem d_L_restore_17 : decode c_L_restore 17 = .ok (.astore 4, 2) := by decide +kernel
theorem d_L_restore_19 : decode c_L_restore 19 = .ok (.iconst 2, 1) := by decide +kernel
theorem d_L_restore_20 : decode c_L_restore 20 = .ok (.ireturn, 1) := by decide +kernel
theorem d_L_restore_21 : decode c_L_restore 21 = .ok (.iconst 0, 1) := by decide +kernel
theorem d_L_restore_22 : decode c_L_restore 22 = .ok (.ireturn, 1) := by decide +kernel
abbrev c_L_stateOf : ByteArray := method_39_code
abbrev y_L_stateOf : MethodName := { cls := "ContainerHostLaw", name := "stateOf", desc := "(LContainerHost;I[J)I" }
abbrev k_L_stateOf : Cond := .codeWith y_L_stateOf c_L_stateOf 4 (Option.some FieldType.int) [(0, 9, 12, 13)]
abbrev M_L_stateOf : xMeth := ("ContainerHostLaw", c_L_stateOf, 4, (Option.some FieldType.int), "stateOf", [(0, 9, 12, 13)], ({ frames := 8, cells := 1, slots := 6, locals := 134 } : Room))
theorem e_L_stateOf : k_L_stateOf ∈ lw_tbl := mt (i := 934) (by decide +kernel)
theorem d_L_stateOf_0 : decode c_L_stateOf 0 = .ok (.aload_n 2, 1) := by decide +kernel
theorem d_L_stateOf_1 : decode c_L_stateOf 1 = .ok (.iconst 0, 1) := by decide +kernel
theorem d_L_stateOf_2 : decode c_L_stateOf 2 = .ok (.aload_n 0, 1) := by decide +kernel
theorem d_L_stateOf_3 : decode c_L_stateOf 3 = .ok (.iload_n 1, 1) := by decide +kernel
theorem d_L_stateOf_4 : decode c_L_stateOf 4 = .ok (.invokevirtual 128, 3) := by decide +kernel
theorem d_L_stateOf_7 : decode c_L_stateOf 7 = .ok (.i2l, 1) := by decide +kernel
theorem d_L_stateOf_8 : decode c_L_stateOf 8 = .ok (.lastore, 1) := by decide +kernel
theorem d_L_stateOf_9 : decode c_L_stateOf 9 = .ok (.goto 6, 3) := by decide +kernel
theorem d_L_stateOf_12 : decode c_L_stateOf 12 = .ok (.astore_n 3, 1) := by decide +kernel
theorem d_L_stateOf_13 : decode c_L_stateOf 13 = .ok (.iconst 1, 1) := by decide +kernel
theorem d_L_stateOf_14 : decode c_L_stateOf 14 = .ok (.ireturn, 1) := by decide +kernel
theorem d_L_stateOf_15 : decode c_L_stateOf 15 = .ok (.iconst 0, 1) := by decide +kernel
theorem d_L_stateOf_16 : decode c_L_stateOf 16 = .ok (.ireturn, 1) := by decide +kernel
abbrev c_L_memoryOf : ByteArray := method_40_code
abbrev y_L_memoryOf : MethodName := { cls := "ContainerHostLaw", name := "memoryOf", desc := "(LContainerHost;I[J)I" }
abbrev k_L_memoryOf : Cond := .codeWith y_L_memoryOf c_L_memoryOf 4 (Option.some FieldType.int) [(0, 9, 12, 13)]
abbrev M_L_memoryOf : xMeth := ("ContainerHostLaw", c_L_memoryOf, 4, (Option.some FieldType.int), "memoryOf", [(0, 9, 12, 13)], ({ frames := 8, cells := 1, slots := 6, locals := 134 } : Room))
theorem e_L_memoryOf : k_L_memoryOf ∈ lw_tbl := mt (i := 941) (by decide +kernel)
theorem d_L_memoryOf_0 : decode c_L_memoryOf 0 = .ok (.aload_n 2, 1) := by decide +kernel
theorem d_L_memoryOf_1 : decode c_L_memoryOf 1 = .ok (.iconst 0, 1) := by decide +kernel
theorem d_L_memoryOf_2 : decode c_L_memoryOf 2 = .ok (.aload_n 0, 1) := by decide +kernel
theorem d_L_memoryOf_3 : decode c_L_memoryOf 3 = .ok (.iload_n 1, 1) := by decide +kernel
theorem d_L_memoryOf_4 : decode c_L_memoryOf 4 = .ok (.invokevirtual 131, 3) := by decide +kernel
theorem d_L_memoryOf_7 : decode c_L_memoryOf 7 = .ok (.i2l, 1) := by decide +kernel
theorem d_L_memoryOf_8 : decode c_L_memoryOf 8 = .ok (.lastore, 1) := by decide +kernel
theorem d_L_memoryOf_9 : decode c_L_memoryOf 9 = .ok (.goto 6, 3) := by decide +kernel
theorem d_L_memoryOf_12 : decode c_L_memoryOf 12 = .ok (.astore_n 3, 1) := by decide +kernel
theorem d_L_memoryOf_13 : decode c_L_memoryOf 13 = .ok (.iconst 1, 1) := by decide +kernel
theorem d_L_memoryOf_14 : decode c_L_memoryOf 14 = .ok (.ireturn, 1) := by decide +kernel
theorem d_L_memoryOf_15 : decode c_L_memoryOf 15 = .ok (.iconst 0, 1) := by decide +kernel
theorem d_L_memoryOf_16 : decode c_L_memoryOf 16 = .ok (.ireturn, 1) := by decide +kernel
abbrev c_L_timeOf : ByteArray := method_41_code
abbrev y_L_timeOf : MethodName := { cls := "ContainerHostLaw", name := "timeOf", desc := "(LContainerHost;I[J)I" }
abbrev k_L_timeOf : Cond := .codeWith y_L_timeOf c_L_timeOf 4 (Option.some FieldType.int) [(0, 9, 12, 13)]
abbrev M_L_timeOf : xMeth := ("ContainerHostLaw", c_L_timeOf, 4, (Option.some FieldType.int), "timeOf", [(0, 9, 12, 13)], ({ frames := 8, cells := 1, slots := 6, locals := 134 } : Room))
theorem e_L_timeOf : k_L_timeOf ∈ lw_tbl := mt (i := 948) (by decide +kernel)
theorem d_L_timeOf_0 : decode c_L_timeOf 0 = .ok (.aload_n 2, 1) := by decide +kernel
theorem d_L_timeOf_1 : decode c_L_timeOf 1 = .ok (.iconst 0, 1) := by decide +kernel
theorem d_L_timeOf_2 : decode c_L_timeOf 2 = .ok (.aload_n 0, 1) := by decide +kernel
theorem d_L_timeOf_3 : decode c_L_timeOf 3 = .ok (.iload_n 1, 1) := by decide +kernel
theorem d_L_timeOf_4 : decode c_L_timeOf 4 = .ok (.invokevirtual 134, 3) := by decide +kernel
theorem d_L_timeOf_7 : decode c_L_timeOf 7 = .ok (.i2l, 1) := by decide +kernel
theorem d_L_timeOf_8 : decode c_L_timeOf 8 = .ok (.lastore, 1) := by decide +kernel
theorem d_L_timeOf_9 : decode c_L_timeOf 9 = .ok (.goto 6, 3) := by decide +kernel
theorem d_L_timeOf_12 : decode c_L_timeOf 12 = .ok (.astore_n 3, 1) := by decide +kernel
theorem d_L_timeOf_13 : decode c_L_timeOf 13 = .ok (.iconst 1, 1) := by decide +kernel
theorem d_L_timeOf_14 : decode c_L_timeOf 14 = .ok (.ireturn, 1) := by decide +kernel
theorem d_L_timeOf_15 : decode c_L_timeOf 15 = .ok (.iconst 0, 1) := by decide +kernel
theorem d_L_timeOf_16 : decode c_L_timeOf 16 = .ok (.ireturn, 1) := by decide +kernel
abbrev c_L_capabilitiesOf : ByteArray := method_42_code
abbrev y_L_capabilitiesOf : MethodName := { cls := "ContainerHostLaw", name := "capabilitiesOf", desc := "(LContainerHost;I[J)I" }
abbrev k_L_capabilitiesOf : Cond := .codeWith y_L_capabilitiesOf c_L_capabilitiesOf 4 (Option.some FieldType.int) [(0, 9, 12, 13)]
abbrev M_L_capabilitiesOf : xMeth := ("ContainerHostLaw", c_L_capabilitiesOf, 4, (Option.some FieldType.int), "capabilitiesOf", [(0, 9, 12, 13)], ({ frames := 8, cells := 1, slots := 6, locals := 135 } : Room))
theorem e_L_capabilitiesOf : k_L_capabilitiesOf ∈ lw_tbl := mt (i := 955) (by decide +kernel)
theorem d_L_capabilitiesOf_0 : decode c_L_capabilitiesOf 0 = .ok (.aload_n 2, 1) := by decide +kernel
theorem d_L_capabilitiesOf_1 : decode c_L_capabilitiesOf 1 = .ok (.iconst 0, 1) := by decide +kernel
theorem d_L_capabilitiesOf_2 : decode c_L_capabilitiesOf 2 = .ok (.aload_n 0, 1) := by decide +kernel
theorem d_L_capabilitiesOf_3 : decode c_L_capabilitiesOf 3 = .ok (.iload_n 1, 1) := by decide +kernel
theorem d_L_capabilitiesOf_4 : decode c_L_capabilitiesOf 4 = .ok (.invokevirtual 137, 3) := by decide +kernel
theorem d_L_capabilitiesOf_7 : decode c_L_capabilitiesOf 7 = .ok (.i2l, 1) := by decide +kernel
theorem d_L_capabilitiesOf_8 : decode c_L_capabilitiesOf 8 = .ok (.lastore, 1) := by decide +kernel
theorem d_L_capabilitiesOf_9 : decode c_L_capabilitiesOf 9 = .ok (.goto 6, 3) := by decide +kernel
theorem d_L_capabilitiesOf_12 : decode c_L_capabilitiesOf 12 = .ok (.astore_n 3, 1) := by decide +kernel
theorem d_L_capabilitiesOf_13 : decode c_L_capabilitiesOf 13 = .ok (.iconst 1, 1) := by decide +kernel
theorem d_L_capabilitiesOf_14 : decode c_L_capabilitiesOf 14 = .ok (.ireturn, 1) := by decide +kernel
theorem d_L_capabilitiesOf_15 : decode c_L_capabilitiesOf 15 = .ok (.iconst 0, 1) := by decide +kernel
theorem d_L_capabilitiesOf_16 : decode c_L_capabilitiesOf 16 = .ok (.ireturn, 1) := by decide +kernel
abbrev c_L_addressOf : ByteArray := method_43_code
abbrev y_L_addressOf : MethodName := { cls := "ContainerHostLaw", name := "addressOf", desc := "(LContainerHost;I[J)I" }
abbrev k_L_addressOf : Cond := .codeWith y_L_addressOf c_L_addressOf 4 (Option.some FieldType.int) [(0, 9, 12, 13)]
abbrev M_L_addressOf : xMeth := ("ContainerHostLaw", c_L_addressOf, 4, (Option.some FieldType.int), "addressOf", [(0, 9, 12, 13)], ({ frames := 8, cells := 1, slots := 6, locals := 135 } : Room))
theorem e_L_addressOf : k_L_addressOf ∈ lw_tbl := mt (i := 962) (by decide +kernel)
theorem d_L_addressOf_0 : decode c_L_addressOf 0 = .ok (.aload_n 2, 1) := by decide +kernel
theorem d_L_addressOf_1 : decode c_L_addressOf 1 = .ok (.iconst 0, 1) := by decide +kernel
theorem d_L_addressOf_2 : decode c_L_addressOf 2 = .ok (.aload_n 0, 1) := by decide +kernel
theorem d_L_addressOf_3 : decode c_L_addressOf 3 = .ok (.iload_n 1, 1) := by decide +kernel
theorem d_L_addressOf_4 : decode c_L_addressOf 4 = .ok (.invokevirtual 140, 3) := by decide +kernel
theorem d_L_addressOf_7 : decode c_L_addressOf 7 = .ok (.i2l, 1) := by decide +kernel
theorem d_L_addressOf_8 : decode c_L_addressOf 8 = .ok (.lastore, 1) := by decide +kernel
theorem d_L_addressOf_9 : decode c_L_addressOf 9 = .ok (.goto 6, 3) := by decide +kernel
theorem d_L_addressOf_12 : decode c_L_addressOf 12 = .ok (.astore_n 3, 1) := by decide +kernel
theorem d_L_addressOf_13 : decode c_L_addressOf 13 = .ok (.iconst 1, 1) := by decide +kernel
theorem d_L_addressOf_14 : decode c_L_addressOf 14 = .ok (.ireturn, 1) := by decide +kernel
theorem d_L_addressOf_15 : decode c_L_addressOf 15 = .ok (.iconst 0, 1) := by decide +kernel
theorem d_L_addressOf_16 : decode c_L_addressOf 16 = .ok (.ireturn, 1) := by decide +kernel
theorem q_L_newImage_7 : callOk M_L_newImage M_h_newImage y_h_newImage k_h_newImage 7 1 := ⟨rfl, e_h_newImage, w199, w1, by decide, by decide +kernel, by decide, by decide⟩
theorem q_L_write_17 : callOk M_L_write M_h_write y_h_write k_h_write 17 3 := ⟨rfl, e_h_write, w357, w1, by decide, by decide +kernel, by decide, by decide⟩
theorem q_L_remove_23 : callOk M_L_remove M_h_remove y_h_remove k_h_remove 23 2 := ⟨rfl, e_h_remove, w403, w1, by decide, by decide +kernel, by decide, by decide⟩
theorem q_L_clear_27 : callOk M_L_clear M_h_clear y_h_clear k_h_clear 27 2 := ⟨rfl, e_h_clear, w414, w1, by decide, by decide +kernel, by decide, by decide⟩
theorem q_L_seal_30 : callOk M_L_seal M_h_seal y_h_seal k_h_seal 30 1 := ⟨rfl, e_h_seal, w431, w1, by decide, by decide +kernel, by decide, by decide⟩
theorem q_L_shown_33 : callOk M_L_shown M_h_shown y_h_shown k_h_shown 33 2 := ⟨rfl, e_h_shown, w438, w1, by decide, by decide +kernel, by decide, by decide⟩
theorem q_L_entries_36 : callOk M_L_entries M_h_entries y_h_entries k_h_entries 36 2 := ⟨rfl, e_h_entries, w445, w1, by decide, by decide +kernel, by decide, by decide⟩
theorem q_L_commit_39 : callOk M_L_commit M_h_commit y_h_commit k_h_commit 39 1 := ⟨rfl, e_h_commit, w467, w1, by decide, by decide +kernel, by decide, by decide⟩
theorem q_L_newGroup_42 : callOk M_L_newGroup M_h_newGroup y_h_newGroup k_h_newGroup 42 4 := ⟨rfl, e_h_newGroup, w487, w1, by decide, by decide +kernel, by decide, by decide⟩
theorem q_L_groupMemory_46 : callOk M_L_groupMemory M_h_groupMemory y_h_groupMemory k_h_groupMemory 46 1 := ⟨rfl, e_h_groupMemory, w500, w1, by decide, by decide +kernel, by decide, by decide⟩
theorem q_L_groupProcesses_49 : callOk M_L_groupProcesses M_h_groupProcesses y_h_groupProcesses k_h_groupProcesses 49 1 := ⟨rfl, e_h_groupProcesses, w507, w1, by decide, by decide +kernel, by decide, by decide⟩
theorem q_L_run_52 : callOk M_L_run M_h_run y_h_run k_h_run 52 4 := ⟨rfl, e_h_run, w514, w1, by decide, by decide +kernel, by decide, by decide⟩
theorem q_L_pause_55 : callOk M_L_pause M_h_pause y_h_pause k_h_pause 55 1 := ⟨rfl, e_h_pause, w603, w1, by decide, by decide +kernel, by decide, by decide⟩
theorem q_L_resume_59 : callOk M_L_resume M_h_resume y_h_resume k_h_resume 59 1 := ⟨rfl, e_h_resume, w618, w1, by decide, by decide +kernel, by decide, by decide⟩
theorem q_L_stop_62 : callOk M_L_stop M_h_stop y_h_stop k_h_stop 62 1 := ⟨rfl, e_h_stop, w630, w1, by decide, by decide +kernel, by decide, by decide⟩
theorem q_L_allocate_65 : callOk M_L_allocate M_h_allocate y_h_allocate k_h_allocate 65 2 := ⟨rfl, e_h_allocate, w646, w1, by decide, by decide +kernel, by decide, by decide⟩
theorem q_L_free_68 : callOk M_L_free M_h_free y_h_free k_h_free 68 2 := ⟨rfl, e_h_free, w669, w1, by decide, by decide +kernel, by decide, by decide⟩
theorem q_L_fork_71 : callOk M_L_fork M_h_fork y_h_fork k_h_fork 71 1 := ⟨rfl, e_h_fork, w677, w1, by decide, by decide +kernel, by decide, by decide⟩
theorem q_L_exit_74 : callOk M_L_exit M_h_exit y_h_exit k_h_exit 74 1 := ⟨rfl, e_h_exit, w684, w1, by decide, by decide +kernel, by decide, by decide⟩
theorem q_L_schedule_77 : callOk M_L_schedule M_h_schedule y_h_schedule k_h_schedule 77 1 := ⟨rfl, e_h_schedule, w691, w1, by decide, by decide +kernel, by decide, by decide⟩
theorem q_L_writeFile_80 : callOk M_L_writeFile M_h_writeFile y_h_writeFile k_h_writeFile 80 3 := ⟨rfl, e_h_writeFile, w732, w1, by decide, by decide +kernel, by decide, by decide⟩
theorem q_L_removeFile_83 : callOk M_L_removeFile M_h_removeFile y_h_removeFile k_h_removeFile 83 2 := ⟨rfl, e_h_removeFile, w746, w1, by decide, by decide +kernel, by decide, by decide⟩
theorem q_L_fileOf_86 : callOk M_L_fileOf M_h_fileOf y_h_fileOf k_h_fileOf 86 2 := ⟨rfl, e_h_fileOf, w753, w1, by decide, by decide +kernel, by decide, by decide⟩
theorem q_L_plainFileOf_89 : callOk M_L_plainFileOf M_h_plainFileOf y_h_plainFileOf k_h_plainFileOf 89 2 := ⟨rfl, e_h_plainFileOf, w760, w1, by decide, by decide +kernel, by decide, by decide⟩
theorem q_L_raise_92 : callOk M_L_raise M_h_raise y_h_raise k_h_raise 92 2 := ⟨rfl, e_h_raise, w772, w1, by decide, by decide +kernel, by decide, by decide⟩
theorem q_L_lower_95 : callOk M_L_lower M_h_lower y_h_lower k_h_lower 95 2 := ⟨rfl, e_h_lower, w784, w1, by decide, by decide +kernel, by decide, by decide⟩
theorem q_L_drop_98 : callOk M_L_drop M_h_drop y_h_drop k_h_drop 98 2 := ⟨rfl, e_h_drop, w791, w1, by decide, by decide +kernel, by decide, by decide⟩
theorem q_L_kill_101 : callOk M_L_kill M_h_kill y_h_kill k_h_kill 101 2 := ⟨rfl, e_h_kill, w798, w1, by decide, by decide +kernel, by decide, by decide⟩
theorem q_L_attach_104 : callOk M_L_attach M_h_attach y_h_attach k_h_attach 104 2 := ⟨rfl, e_h_attach, w807, w1, by decide, by decide +kernel, by decide, by decide⟩
theorem q_L_detach_107 : callOk M_L_detach M_h_detach y_h_detach k_h_detach 107 1 := ⟨rfl, e_h_detach, w824, w1, by decide, by decide +kernel, by decide, by decide⟩
theorem q_L_listen_110 : callOk M_L_listen M_h_listen y_h_listen k_h_listen 110 2 := ⟨rfl, e_h_listen, w835, w1, by decide, by decide +kernel, by decide, by decide⟩
theorem q_L_publish_113 : callOk M_L_publish M_h_publish y_h_publish k_h_publish 113 3 := ⟨rfl, e_h_publish, w852, w1, by decide, by decide +kernel, by decide, by decide⟩
theorem q_L_connect_116 : callOk M_L_connect M_h_connect y_h_connect k_h_connect 116 3 := ⟨rfl, e_h_connect, w869, w1, by decide, by decide +kernel, by decide, by decide⟩
theorem q_L_connectHost_119 : callOk M_L_connectHost M_h_connectHost y_h_connectHost k_h_connectHost 119 1 := ⟨rfl, e_h_connectHost, w876, w1, by decide, by decide +kernel, by decide, by decide⟩
theorem q_L_save_122 : callOk M_L_save M_h_save y_h_save k_h_save 122 1 := ⟨rfl, e_h_save, w883, w1, by decide, by decide +kernel, by decide, by decide⟩
theorem q_L_restore_125 : callOk M_L_restore M_h_restore y_h_restore k_h_restore 125 2 := ⟨rfl, e_h_restore, w927, w1, by decide, by decide +kernel, by decide, by decide⟩
theorem q_L_stateOf_128 : callOk M_L_stateOf M_h_stateOf y_h_stateOf k_h_stateOf 128 1 := ⟨rfl, e_h_stateOf, w935, w1, by decide, by decide +kernel, by decide, by decide⟩
theorem q_L_memoryOf_131 : callOk M_L_memoryOf M_h_memoryOf y_h_memoryOf k_h_memoryOf 131 1 := ⟨rfl, e_h_memoryOf, w942, w1, by decide, by decide +kernel, by decide, by decide⟩
theorem q_L_timeOf_134 : callOk M_L_timeOf M_h_timeOf y_h_timeOf k_h_timeOf 134 1 := ⟨rfl, e_h_timeOf, w949, w1, by decide, by decide +kernel, by decide, by decide⟩
theorem q_L_capabilitiesOf_137 : callOk M_L_capabilitiesOf M_h_capabilitiesOf y_h_capabilitiesOf k_h_capabilitiesOf 137 1 := ⟨rfl, e_h_capabilitiesOf, w956, w1, by decide, by decide +kernel, by decide, by decide⟩
theorem q_L_addressOf_140 : callOk M_L_addressOf M_h_addressOf y_h_addressOf k_h_addressOf 140 1 := ⟨rfl, e_h_addressOf, w963, w1, by decide, by decide +kernel, by decide, by decide⟩
theorem s_L_newImage : Cond.static y_L_newImage ∈ lw_tbl := w195
theorem s_L_write : Cond.static y_L_write ∈ lw_tbl := w354
theorem s_L_remove : Cond.static y_L_remove ∈ lw_tbl := w401
theorem s_L_clear : Cond.static y_L_clear ∈ lw_tbl := w412
theorem s_L_seal : Cond.static y_L_seal ∈ lw_tbl := w429
theorem s_L_shown : Cond.static y_L_shown ∈ lw_tbl := w436
theorem s_L_entries : Cond.static y_L_entries ∈ lw_tbl := w443
theorem s_L_commit : Cond.static y_L_commit ∈ lw_tbl := w465
theorem s_L_newGroup : Cond.static y_L_newGroup ∈ lw_tbl := w485
theorem s_L_groupMemory : Cond.static y_L_groupMemory ∈ lw_tbl := w498
theorem s_L_groupProcesses : Cond.static y_L_groupProcesses ∈ lw_tbl := w505
theorem s_L_run : Cond.static y_L_run ∈ lw_tbl := w512
theorem s_L_pause : Cond.static y_L_pause ∈ lw_tbl := w601
theorem s_L_resume : Cond.static y_L_resume ∈ lw_tbl := w616
theorem s_L_stop : Cond.static y_L_stop ∈ lw_tbl := w628
theorem s_L_allocate : Cond.static y_L_allocate ∈ lw_tbl := w644
theorem s_L_free : Cond.static y_L_free ∈ lw_tbl := w667
theorem s_L_fork : Cond.static y_L_fork ∈ lw_tbl := w675
theorem s_L_exit : Cond.static y_L_exit ∈ lw_tbl := w682
theorem s_L_schedule : Cond.static y_L_schedule ∈ lw_tbl := w689
theorem s_L_writeFile : Cond.static y_L_writeFile ∈ lw_tbl := w730
theorem s_L_removeFile : Cond.static y_L_removeFile ∈ lw_tbl := w744
theorem s_L_fileOf : Cond.static y_L_fileOf ∈ lw_tbl := w751
theorem s_L_plainFileOf : Cond.static y_L_plainFileOf ∈ lw_tbl := w758
theorem s_L_raise : Cond.static y_L_raise ∈ lw_tbl := w770
theorem s_L_lower : Cond.static y_L_lower ∈ lw_tbl := w782
theorem s_L_drop : Cond.static y_L_drop ∈ lw_tbl := w789
theorem s_L_kill : Cond.static y_L_kill ∈ lw_tbl := w796
theorem s_L_attach : Cond.static y_L_attach ∈ lw_tbl := w805
theorem s_L_detach : Cond.static y_L_detach ∈ lw_tbl := w822
theorem s_L_listen : Cond.static y_L_listen ∈ lw_tbl := w833
theorem s_L_publish : Cond.static y_L_publish ∈ lw_tbl := w850
theorem s_L_connect : Cond.static y_L_connect ∈ lw_tbl := w867
theorem s_L_connectHost : Cond.static y_L_connectHost ∈ lw_tbl := w874
theorem s_L_save : Cond.static y_L_save ∈ lw_tbl := w881
theorem s_L_restore : Cond.static y_L_restore ∈ lw_tbl := w925
theorem s_L_stateOf : Cond.static y_L_stateOf ∈ lw_tbl := w933
theorem s_L_memoryOf : Cond.static y_L_memoryOf ∈ lw_tbl := w940
theorem s_L_timeOf : Cond.static y_L_timeOf ∈ lw_tbl := w947
theorem s_L_capabilitiesOf : Cond.static y_L_capabilitiesOf ∈ lw_tbl := w954
theorem s_L_addressOf : Cond.static y_L_addressOf ∈ lw_tbl := w961
abbrev M_law : xMeth := ("ContainerHostLaw", code, 7, ret, "law", [], room_1)
def callOkW (M N : xMeth) (y : MethodName) (wc : Cond) (index n : Nat) : Prop := wc = Cond.codeWith y N.2.1 N.2.2.1 N.2.2.2.1 N.2.2.2.2.2.1 ∧ wc ∈ lw_tbl ∧ Cond.methodLink M.1 index y ∈ lw_tbl ∧ Cond.initialized y.cls ∈ lw_tbl ∧ (y.cls ≠ "java/lang/invoke/MethodHandle" ∧ y.cls ≠ "java/lang/invoke/VarHandle") ∧ (parseMethodDescriptor y.desc).map (fun d => d.parameters.length) = some n ∧ N.2.2.2.2.2.2.frames + 1 ≤ M.2.2.2.2.2.2.frames ∧ 8 + (N.2.2.1 + 11) + N.2.2.2.2.2.2.locals ≤ M.2.2.2.2.2.2.locals
