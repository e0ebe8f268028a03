theorem w0 : Cond.initialized "ContainerHostLaw" ∈ lw_tbl := mt (i := 0) (by decide +kernel)
theorem w25 : Cond.classLink "ContainerHostLaw" (8 : Nat) "ContainerHost" ∈ lw_tbl := mt (i := 25) (by decide +kernel)
theorem w26 : Cond.instantiable "ContainerHost" (7 : Nat) ∈ lw_tbl := mt (i := 26) (by decide +kernel)
theorem w27 : Cond.methodLink "ContainerHostLaw" (143 : Nat) ({ cls := "ContainerHost", name := "<init>", desc := "()V" } : MethodName) ∈ lw_tbl := mt (i := 27) (by decide +kernel)
theorem w186 : Cond.methodLink "ContainerHostLaw" (266 : Nat) ({ cls := "ContainerHost", name := "containers", desc := "()I" } : MethodName) ∈ lw_tbl := mt (i := 186) (by decide +kernel)
theorem w194 : Cond.methodLink "ContainerHostLaw" (147 : Nat) ({ cls := "ContainerHostLaw", name := "newImage", desc := "(LContainerHost;I[J)I" } : MethodName) ∈ lw_tbl := mt (i := 194) (by decide +kernel)
theorem w195 : Cond.static ({ cls := "ContainerHostLaw", name := "newImage", desc := "(LContainerHost;I[J)I" } : MethodName) ∈ lw_tbl := mt (i := 195) (by decide +kernel)
theorem w197 : Cond.classLink "ContainerHostLaw" (13 : Nat) "java/lang/IndexOutOfBoundsException" ∈ lw_tbl := mt (i := 197) (by decide +kernel)
theorem w198 : Cond.classLink "ContainerHostLaw" (15 : Nat) "java/lang/IllegalStateException" ∈ lw_tbl := mt (i := 198) (by decide +kernel)
theorem w199 : Cond.methodLink "ContainerHostLaw" (7 : Nat) ({ cls := "ContainerHost", name := "newImage", desc := "(I)I" } : MethodName) ∈ lw_tbl := mt (i := 199) (by decide +kernel)
theorem w209 : Cond.castable "java/lang/IndexOutOfBoundsException" "java/lang/IndexOutOfBoundsException" ∈ lw_tbl := mt (i := 209) (by decide +kernel)
theorem w295 : Cond.castable "java/lang/IllegalStateException" "java/lang/IllegalStateException" ∈ lw_tbl := mt (i := 295) (by decide +kernel)
theorem w353 : Cond.methodLink "ContainerHostLaw" (157 : Nat) ({ cls := "ContainerHostLaw", name := "write", desc := "(LContainerHost;III[J)I" } : MethodName) ∈ lw_tbl := mt (i := 353) (by decide +kernel)
theorem w354 : Cond.static ({ cls := "ContainerHostLaw", name := "write", desc := "(LContainerHost;III[J)I" } : MethodName) ∈ lw_tbl := mt (i := 354) (by decide +kernel)
theorem w356 : Cond.classLink "ContainerHostLaw" (21 : Nat) "java/lang/IllegalArgumentException" ∈ lw_tbl := mt (i := 356) (by decide +kernel)
theorem w357 : Cond.methodLink "ContainerHostLaw" (17 : Nat) ({ cls := "ContainerHost", name := "write", desc := "(III)I" } : MethodName) ∈ lw_tbl := mt (i := 357) (by decide +kernel)
theorem w370 : Cond.castable "java/lang/IllegalArgumentException" "java/lang/IllegalArgumentException" ∈ lw_tbl := mt (i := 370) (by decide +kernel)
theorem w400 : Cond.methodLink "ContainerHostLaw" (161 : Nat) ({ cls := "ContainerHostLaw", name := "remove", desc := "(LContainerHost;II[J)I" } : MethodName) ∈ lw_tbl := mt (i := 400) (by decide +kernel)
theorem w401 : Cond.static ({ cls := "ContainerHostLaw", name := "remove", desc := "(LContainerHost;II[J)I" } : MethodName) ∈ lw_tbl := mt (i := 401) (by decide +kernel)
theorem w403 : Cond.methodLink "ContainerHostLaw" (23 : Nat) ({ cls := "ContainerHost", name := "remove", desc := "(II)I" } : MethodName) ∈ lw_tbl := mt (i := 403) (by decide +kernel)
theorem w411 : Cond.methodLink "ContainerHostLaw" (165 : Nat) ({ cls := "ContainerHostLaw", name := "clear", desc := "(LContainerHost;II[J)I" } : MethodName) ∈ lw_tbl := mt (i := 411) (by decide +kernel)
theorem w412 : Cond.static ({ cls := "ContainerHostLaw", name := "clear", desc := "(LContainerHost;II[J)I" } : MethodName) ∈ lw_tbl := mt (i := 412) (by decide +kernel)
theorem w414 : Cond.methodLink "ContainerHostLaw" (27 : Nat) ({ cls := "ContainerHost", name := "clear", desc := "(II)I" } : MethodName) ∈ lw_tbl := mt (i := 414) (by decide +kernel)
theorem w428 : Cond.methodLink "ContainerHostLaw" (168 : Nat) ({ cls := "ContainerHostLaw", name := "seal", desc := "(LContainerHost;I[J)I" } : MethodName) ∈ lw_tbl := mt (i := 428) (by decide +kernel)
theorem w429 : Cond.static ({ cls := "ContainerHostLaw", name := "seal", desc := "(LContainerHost;I[J)I" } : MethodName) ∈ lw_tbl := mt (i := 429) (by decide +kernel)
theorem w431 : Cond.methodLink "ContainerHostLaw" (30 : Nat) ({ cls := "ContainerHost", name := "seal", desc := "(I)I" } : MethodName) ∈ lw_tbl := mt (i := 431) (by decide +kernel)
theorem w435 : Cond.methodLink "ContainerHostLaw" (171 : Nat) ({ cls := "ContainerHostLaw", name := "shown", desc := "(LContainerHost;II[J)I" } : MethodName) ∈ lw_tbl := mt (i := 435) (by decide +kernel)
theorem w436 : Cond.static ({ cls := "ContainerHostLaw", name := "shown", desc := "(LContainerHost;II[J)I" } : MethodName) ∈ lw_tbl := mt (i := 436) (by decide +kernel)
theorem w438 : Cond.methodLink "ContainerHostLaw" (33 : Nat) ({ cls := "ContainerHost", name := "shown", desc := "(II)I" } : MethodName) ∈ lw_tbl := mt (i := 438) (by decide +kernel)
theorem w442 : Cond.methodLink "ContainerHostLaw" (174 : Nat) ({ cls := "ContainerHostLaw", name := "entries", desc := "(LContainerHost;II[J)I" } : MethodName) ∈ lw_tbl := mt (i := 442) (by decide +kernel)
theorem w443 : Cond.static ({ cls := "ContainerHostLaw", name := "entries", desc := "(LContainerHost;II[J)I" } : MethodName) ∈ lw_tbl := mt (i := 443) (by decide +kernel)
theorem w445 : Cond.methodLink "ContainerHostLaw" (36 : Nat) ({ cls := "ContainerHost", name := "entries", desc := "(II)I" } : MethodName) ∈ lw_tbl := mt (i := 445) (by decide +kernel)
theorem w464 : Cond.methodLink "ContainerHostLaw" (177 : Nat) ({ cls := "ContainerHostLaw", name := "commit", desc := "(LContainerHost;I[J)I" } : MethodName) ∈ lw_tbl := mt (i := 464) (by decide +kernel)
theorem w465 : Cond.static ({ cls := "ContainerHostLaw", name := "commit", desc := "(LContainerHost;I[J)I" } : MethodName) ∈ lw_tbl := mt (i := 465) (by decide +kernel)
theorem w467 : Cond.methodLink "ContainerHostLaw" (39 : Nat) ({ cls := "ContainerHost", name := "commit", desc := "(I)I" } : MethodName) ∈ lw_tbl := mt (i := 467) (by decide +kernel)
theorem w484 : Cond.methodLink "ContainerHostLaw" (180 : Nat) ({ cls := "ContainerHostLaw", name := "newGroup", desc := "(LContainerHost;IIII[J)I" } : MethodName) ∈ lw_tbl := mt (i := 484) (by decide +kernel)
theorem w485 : Cond.static ({ cls := "ContainerHostLaw", name := "newGroup", desc := "(LContainerHost;IIII[J)I" } : MethodName) ∈ lw_tbl := mt (i := 485) (by decide +kernel)
theorem w487 : Cond.methodLink "ContainerHostLaw" (42 : Nat) ({ cls := "ContainerHost", name := "newGroup", desc := "(IIII)I" } : MethodName) ∈ lw_tbl := mt (i := 487) (by decide +kernel)
theorem w497 : Cond.methodLink "ContainerHostLaw" (184 : Nat) ({ cls := "ContainerHostLaw", name := "groupMemory", desc := "(LContainerHost;I[J)I" } : MethodName) ∈ lw_tbl := mt (i := 497) (by decide +kernel)
theorem w498 : Cond.static ({ cls := "ContainerHostLaw", name := "groupMemory", desc := "(LContainerHost;I[J)I" } : MethodName) ∈ lw_tbl := mt (i := 498) (by decide +kernel)
theorem w500 : Cond.methodLink "ContainerHostLaw" (46 : Nat) ({ cls := "ContainerHost", name := "groupMemory", desc := "(I)I" } : MethodName) ∈ lw_tbl := mt (i := 500) (by decide +kernel)
theorem w504 : Cond.methodLink "ContainerHostLaw" (187 : Nat) ({ cls := "ContainerHostLaw", name := "groupProcesses", desc := "(LContainerHost;I[J)I" } : MethodName) ∈ lw_tbl := mt (i := 504) (by decide +kernel)
theorem w505 : Cond.static ({ cls := "ContainerHostLaw", name := "groupProcesses", desc := "(LContainerHost;I[J)I" } : MethodName) ∈ lw_tbl := mt (i := 505) (by decide +kernel)
theorem w507 : Cond.methodLink "ContainerHostLaw" (49 : Nat) ({ cls := "ContainerHost", name := "groupProcesses", desc := "(I)I" } : MethodName) ∈ lw_tbl := mt (i := 507) (by decide +kernel)
theorem w511 : Cond.methodLink "ContainerHostLaw" (190 : Nat) ({ cls := "ContainerHostLaw", name := "run", desc := "(LContainerHost;IIII[J)I" } : MethodName) ∈ lw_tbl := mt (i := 511) (by decide +kernel)
theorem w512 : Cond.static ({ cls := "ContainerHostLaw", name := "run", desc := "(LContainerHost;IIII[J)I" } : MethodName) ∈ lw_tbl := mt (i := 512) (by decide +kernel)
theorem w514 : Cond.methodLink "ContainerHostLaw" (52 : Nat) ({ cls := "ContainerHost", name := "run", desc := "(IIII)I" } : MethodName) ∈ lw_tbl := mt (i := 514) (by decide +kernel)
theorem w600 : Cond.methodLink "ContainerHostLaw" (193 : Nat) ({ cls := "ContainerHostLaw", name := "pause", desc := "(LContainerHost;I)I" } : MethodName) ∈ lw_tbl := mt (i := 600) (by decide +kernel)
theorem w601 : Cond.static ({ cls := "ContainerHostLaw", name := "pause", desc := "(LContainerHost;I)I" } : MethodName) ∈ lw_tbl := mt (i := 601) (by decide +kernel)
theorem w603 : Cond.methodLink "ContainerHostLaw" (55 : Nat) ({ cls := "ContainerHost", name := "pause", desc := "(I)V" } : MethodName) ∈ lw_tbl := mt (i := 603) (by decide +kernel)
theorem w615 : Cond.methodLink "ContainerHostLaw" (197 : Nat) ({ cls := "ContainerHostLaw", name := "resume", desc := "(LContainerHost;I)I" } : MethodName) ∈ lw_tbl := mt (i := 615) (by decide +kernel)
theorem w616 : Cond.static ({ cls := "ContainerHostLaw", name := "resume", desc := "(LContainerHost;I)I" } : MethodName) ∈ lw_tbl := mt (i := 616) (by decide +kernel)
theorem w618 : Cond.methodLink "ContainerHostLaw" (59 : Nat) ({ cls := "ContainerHost", name := "resume", desc := "(I)V" } : MethodName) ∈ lw_tbl := mt (i := 618) (by decide +kernel)
theorem w627 : Cond.methodLink "ContainerHostLaw" (200 : Nat) ({ cls := "ContainerHostLaw", name := "stop", desc := "(LContainerHost;I[J)I" } : MethodName) ∈ lw_tbl := mt (i := 627) (by decide +kernel)
theorem w628 : Cond.static ({ cls := "ContainerHostLaw", name := "stop", desc := "(LContainerHost;I[J)I" } : MethodName) ∈ lw_tbl := mt (i := 628) (by decide +kernel)
theorem w630 : Cond.methodLink "ContainerHostLaw" (62 : Nat) ({ cls := "ContainerHost", name := "stop", desc := "(I)I" } : MethodName) ∈ lw_tbl := mt (i := 630) (by decide +kernel)
theorem w643 : Cond.methodLink "ContainerHostLaw" (203 : Nat) ({ cls := "ContainerHostLaw", name := "allocate", desc := "(LContainerHost;II[J)I" } : MethodName) ∈ lw_tbl := mt (i := 643) (by decide +kernel)
theorem w644 : Cond.static ({ cls := "ContainerHostLaw", name := "allocate", desc := "(LContainerHost;II[J)I" } : MethodName) ∈ lw_tbl := mt (i := 644) (by decide +kernel)
theorem w646 : Cond.methodLink "ContainerHostLaw" (65 : Nat) ({ cls := "ContainerHost", name := "allocate", desc := "(II)I" } : MethodName) ∈ lw_tbl := mt (i := 646) (by decide +kernel)
theorem w666 : Cond.methodLink "ContainerHostLaw" (206 : Nat) ({ cls := "ContainerHostLaw", name := "free", desc := "(LContainerHost;II[J)I" } : MethodName) ∈ lw_tbl := mt (i := 666) (by decide +kernel)
theorem w667 : Cond.static ({ cls := "ContainerHostLaw", name := "free", desc := "(LContainerHost;II[J)I" } : MethodName) ∈ lw_tbl := mt (i := 667) (by decide +kernel)
theorem w669 : Cond.methodLink "ContainerHostLaw" (68 : Nat) ({ cls := "ContainerHost", name := "free", desc := "(II)I" } : MethodName) ∈ lw_tbl := mt (i := 669) (by decide +kernel)
theorem w674 : Cond.methodLink "ContainerHostLaw" (209 : Nat) ({ cls := "ContainerHostLaw", name := "fork", desc := "(LContainerHost;I[J)I" } : MethodName) ∈ lw_tbl := mt (i := 674) (by decide +kernel)
theorem w675 : Cond.static ({ cls := "ContainerHostLaw", name := "fork", desc := "(LContainerHost;I[J)I" } : MethodName) ∈ lw_tbl := mt (i := 675) (by decide +kernel)
theorem w677 : Cond.methodLink "ContainerHostLaw" (71 : Nat) ({ cls := "ContainerHost", name := "fork", desc := "(I)I" } : MethodName) ∈ lw_tbl := mt (i := 677) (by decide +kernel)
theorem w681 : Cond.methodLink "ContainerHostLaw" (212 : Nat) ({ cls := "ContainerHostLaw", name := "exit", desc := "(LContainerHost;I[J)I" } : MethodName) ∈ lw_tbl := mt (i := 681) (by decide +kernel)
theorem w682 : Cond.static ({ cls := "ContainerHostLaw", name := "exit", desc := "(LContainerHost;I[J)I" } : MethodName) ∈ lw_tbl := mt (i := 682) (by decide +kernel)
theorem w684 : Cond.methodLink "ContainerHostLaw" (74 : Nat) ({ cls := "ContainerHost", name := "exit", desc := "(I)I" } : MethodName) ∈ lw_tbl := mt (i := 684) (by decide +kernel)
theorem w688 : Cond.methodLink "ContainerHostLaw" (215 : Nat) ({ cls := "ContainerHostLaw", name := "schedule", desc := "(LContainerHost;I[J)I" } : MethodName) ∈ lw_tbl := mt (i := 688) (by decide +kernel)
theorem w689 : Cond.static ({ cls := "ContainerHostLaw", name := "schedule", desc := "(LContainerHost;I[J)I" } : MethodName) ∈ lw_tbl := mt (i := 689) (by decide +kernel)
theorem w691 : Cond.methodLink "ContainerHostLaw" (77 : Nat) ({ cls := "ContainerHost", name := "schedule", desc := "(I)I" } : MethodName) ∈ lw_tbl := mt (i := 691) (by decide +kernel)
theorem w729 : Cond.methodLink "ContainerHostLaw" (218 : Nat) ({ cls := "ContainerHostLaw", name := "writeFile", desc := "(LContainerHost;III[J)I" } : MethodName) ∈ lw_tbl := mt (i := 729) (by decide +kernel)
theorem w730 : Cond.static ({ cls := "ContainerHostLaw", name := "writeFile", desc := "(LContainerHost;III[J)I" } : MethodName) ∈ lw_tbl := mt (i := 730) (by decide +kernel)
theorem w732 : Cond.methodLink "ContainerHostLaw" (80 : Nat) ({ cls := "ContainerHost", name := "writeFile", desc := "(III)I" } : MethodName) ∈ lw_tbl := mt (i := 732) (by decide +kernel)
theorem w743 : Cond.methodLink "ContainerHostLaw" (221 : Nat) ({ cls := "ContainerHostLaw", name := "removeFile", desc := "(LContainerHost;II[J)I" } : MethodName) ∈ lw_tbl := mt (i := 743) (by decide +kernel)
theorem w744 : Cond.static ({ cls := "ContainerHostLaw", name := "removeFile", desc := "(LContainerHost;II[J)I" } : MethodName) ∈ lw_tbl := mt (i := 744) (by decide +kernel)
theorem w746 : Cond.methodLink "ContainerHostLaw" (83 : Nat) ({ cls := "ContainerHost", name := "removeFile", desc := "(II)I" } : MethodName) ∈ lw_tbl := mt (i := 746) (by decide +kernel)
theorem w750 : Cond.methodLink "ContainerHostLaw" (224 : Nat) ({ cls := "ContainerHostLaw", name := "fileOf", desc := "(LContainerHost;II[J)I" } : MethodName) ∈ lw_tbl := mt (i := 750) (by decide +kernel)
theorem w751 : Cond.static ({ cls := "ContainerHostLaw", name := "fileOf", desc := "(LContainerHost;II[J)I" } : MethodName) ∈ lw_tbl := mt (i := 751) (by decide +kernel)
theorem w753 : Cond.methodLink "ContainerHostLaw" (86 : Nat) ({ cls := "ContainerHost", name := "fileOf", desc := "(II)I" } : MethodName) ∈ lw_tbl := mt (i := 753) (by decide +kernel)
theorem w757 : Cond.methodLink "ContainerHostLaw" (227 : Nat) ({ cls := "ContainerHostLaw", name := "plainFileOf", desc := "(LContainerHost;II[J)I" } : MethodName) ∈ lw_tbl := mt (i := 757) (by decide +kernel)
theorem w758 : Cond.static ({ cls := "ContainerHostLaw", name := "plainFileOf", desc := "(LContainerHost;II[J)I" } : MethodName) ∈ lw_tbl := mt (i := 758) (by decide +kernel)
theorem w760 : Cond.methodLink "ContainerHostLaw" (89 : Nat) ({ cls := "ContainerHost", name := "plainFileOf", desc := "(II)I" } : MethodName) ∈ lw_tbl := mt (i := 760) (by decide +kernel)
theorem w769 : Cond.methodLink "ContainerHostLaw" (230 : Nat) ({ cls := "ContainerHostLaw", name := "raise", desc := "(LContainerHost;II[J)I" } : MethodName) ∈ lw_tbl := mt (i := 769) (by decide +kernel)
theorem w770 : Cond.static ({ cls := "ContainerHostLaw", name := "raise", desc := "(LContainerHost;II[J)I" } : MethodName) ∈ lw_tbl := mt (i := 770) (by decide +kernel)
theorem w772 : Cond.methodLink "ContainerHostLaw" (92 : Nat) ({ cls := "ContainerHost", name := "raise", desc := "(II)I" } : MethodName) ∈ lw_tbl := mt (i := 772) (by decide +kernel)
theorem w781 : Cond.methodLink "ContainerHostLaw" (233 : Nat) ({ cls := "ContainerHostLaw", name := "lower", desc := "(LContainerHost;II[J)I" } : MethodName) ∈ lw_tbl := mt (i := 781) (by decide +kernel)
theorem w782 : Cond.static ({ cls := "ContainerHostLaw", name := "lower", desc := "(LContainerHost;II[J)I" } : MethodName) ∈ lw_tbl := mt (i := 782) (by decide +kernel)
theorem w784 : Cond.methodLink "ContainerHostLaw" (95 : Nat) ({ cls := "ContainerHost", name := "lower", desc := "(II)I" } : MethodName) ∈ lw_tbl := mt (i := 784) (by decide +kernel)
theorem w788 : Cond.methodLink "ContainerHostLaw" (236 : Nat) ({ cls := "ContainerHostLaw", name := "drop", desc := "(LContainerHost;II[J)I" } : MethodName) ∈ lw_tbl := mt (i := 788) (by decide +kernel)
theorem w789 : Cond.static ({ cls := "ContainerHostLaw", name := "drop", desc := "(LContainerHost;II[J)I" } : MethodName) ∈ lw_tbl := mt (i := 789) (by decide +kernel)
theorem w791 : Cond.methodLink "ContainerHostLaw" (98 : Nat) ({ cls := "ContainerHost", name := "drop", desc := "(II)I" } : MethodName) ∈ lw_tbl := mt (i := 791) (by decide +kernel)
theorem w795 : Cond.methodLink "ContainerHostLaw" (239 : Nat) ({ cls := "ContainerHostLaw", name := "kill", desc := "(LContainerHost;II[J)I" } : MethodName) ∈ lw_tbl := mt (i := 795) (by decide +kernel)
theorem w796 : Cond.static ({ cls := "ContainerHostLaw", name := "kill", desc := "(LContainerHost;II[J)I" } : MethodName) ∈ lw_tbl := mt (i := 796) (by decide +kernel)
theorem w798 : Cond.methodLink "ContainerHostLaw" (101 : Nat) ({ cls := "ContainerHost", name := "kill", desc := "(II)I" } : MethodName) ∈ lw_tbl := mt (i := 798) (by decide +kernel)
theorem w804 : Cond.methodLink "ContainerHostLaw" (242 : Nat) ({ cls := "ContainerHostLaw", name := "attach", desc := "(LContainerHost;II[J)I" } : MethodName) ∈ lw_tbl := mt (i := 804) (by decide +kernel)
theorem w805 : Cond.static ({ cls := "ContainerHostLaw", name := "attach", desc := "(LContainerHost;II[J)I" } : MethodName) ∈ lw_tbl := mt (i := 805) (by decide +kernel)
theorem w807 : Cond.methodLink "ContainerHostLaw" (104 : Nat) ({ cls := "ContainerHost", name := "attach", desc := "(II)I" } : MethodName) ∈ lw_tbl := mt (i := 807) (by decide +kernel)
theorem w821 : Cond.methodLink "ContainerHostLaw" (245 : Nat) ({ cls := "ContainerHostLaw", name := "detach", desc := "(LContainerHost;I[J)I" } : MethodName) ∈ lw_tbl := mt (i := 821) (by decide +kernel)
theorem w822 : Cond.static ({ cls := "ContainerHostLaw", name := "detach", desc := "(LContainerHost;I[J)I" } : MethodName) ∈ lw_tbl := mt (i := 822) (by decide +kernel)
theorem w824 : Cond.methodLink "ContainerHostLaw" (107 : Nat) ({ cls := "ContainerHost", name := "detach", desc := "(I)I" } : MethodName) ∈ lw_tbl := mt (i := 824) (by decide +kernel)
theorem w832 : Cond.methodLink "ContainerHostLaw" (248 : Nat) ({ cls := "ContainerHostLaw", name := "listen", desc := "(LContainerHost;II[J)I" } : MethodName) ∈ lw_tbl := mt (i := 832) (by decide +kernel)
theorem w833 : Cond.static ({ cls := "ContainerHostLaw", name := "listen", desc := "(LContainerHost;II[J)I" } : MethodName) ∈ lw_tbl := mt (i := 833) (by decide +kernel)
theorem w835 : Cond.methodLink "ContainerHostLaw" (110 : Nat) ({ cls := "ContainerHost", name := "listen", desc := "(II)I" } : MethodName) ∈ lw_tbl := mt (i := 835) (by decide +kernel)
theorem w849 : Cond.methodLink "ContainerHostLaw" (251 : Nat) ({ cls := "ContainerHostLaw", name := "publish", desc := "(LContainerHost;III[J)I" } : MethodName) ∈ lw_tbl := mt (i := 849) (by decide +kernel)
theorem w850 : Cond.static ({ cls := "ContainerHostLaw", name := "publish", desc := "(LContainerHost;III[J)I" } : MethodName) ∈ lw_tbl := mt (i := 850) (by decide +kernel)
theorem w852 : Cond.methodLink "ContainerHostLaw" (113 : Nat) ({ cls := "ContainerHost", name := "publish", desc := "(III)I" } : MethodName) ∈ lw_tbl := mt (i := 852) (by decide +kernel)
theorem w866 : Cond.methodLink "ContainerHostLaw" (254 : Nat) ({ cls := "ContainerHostLaw", name := "connect", desc := "(LContainerHost;III[J)I" } : MethodName) ∈ lw_tbl := mt (i := 866) (by decide +kernel)
theorem w867 : Cond.static ({ cls := "ContainerHostLaw", name := "connect", desc := "(LContainerHost;III[J)I" } : MethodName) ∈ lw_tbl := mt (i := 867) (by decide +kernel)
theorem w869 : Cond.methodLink "ContainerHostLaw" (116 : Nat) ({ cls := "ContainerHost", name := "connect", desc := "(III)I" } : MethodName) ∈ lw_tbl := mt (i := 869) (by decide +kernel)
theorem w873 : Cond.methodLink "ContainerHostLaw" (257 : Nat) ({ cls := "ContainerHostLaw", name := "connectHost", desc := "(LContainerHost;I[J)I" } : MethodName) ∈ lw_tbl := mt (i := 873) (by decide +kernel)
theorem w874 : Cond.static ({ cls := "ContainerHostLaw", name := "connectHost", desc := "(LContainerHost;I[J)I" } : MethodName) ∈ lw_tbl := mt (i := 874) (by decide +kernel)
theorem w876 : Cond.methodLink "ContainerHostLaw" (119 : Nat) ({ cls := "ContainerHost", name := "connectHost", desc := "(I)I" } : MethodName) ∈ lw_tbl := mt (i := 876) (by decide +kernel)
theorem w880 : Cond.methodLink "ContainerHostLaw" (260 : Nat) ({ cls := "ContainerHostLaw", name := "save", desc := "(LContainerHost;I[J)I" } : MethodName) ∈ lw_tbl := mt (i := 880) (by decide +kernel)
theorem w881 : Cond.static ({ cls := "ContainerHostLaw", name := "save", desc := "(LContainerHost;I[J)I" } : MethodName) ∈ lw_tbl := mt (i := 881) (by decide +kernel)
theorem w883 : Cond.methodLink "ContainerHostLaw" (122 : Nat) ({ cls := "ContainerHost", name := "save", desc := "(I)I" } : MethodName) ∈ lw_tbl := mt (i := 883) (by decide +kernel)
theorem w924 : Cond.methodLink "ContainerHostLaw" (263 : Nat) ({ cls := "ContainerHostLaw", name := "restore", desc := "(LContainerHost;II[J)I" } : MethodName) ∈ lw_tbl := mt (i := 924) (by decide +kernel)
theorem w925 : Cond.static ({ cls := "ContainerHostLaw", name := "restore", desc := "(LContainerHost;II[J)I" } : MethodName) ∈ lw_tbl := mt (i := 925) (by decide +kernel)
theorem w927 : Cond.methodLink "ContainerHostLaw" (125 : Nat) ({ cls := "ContainerHost", name := "restore", desc := "(II)I" } : MethodName) ∈ lw_tbl := mt (i := 927) (by decide +kernel)
theorem w932 : Cond.methodLink "ContainerHostLaw" (270 : Nat) ({ cls := "ContainerHostLaw", name := "stateOf", desc := "(LContainerHost;I[J)I" } : MethodName) ∈ lw_tbl := mt (i := 932) (by decide +kernel)
theorem w933 : Cond.static ({ cls := "ContainerHostLaw", name := "stateOf", desc := "(LContainerHost;I[J)I" } : MethodName) ∈ lw_tbl := mt (i := 933) (by decide +kernel)
theorem w935 : Cond.methodLink "ContainerHostLaw" (128 : Nat) ({ cls := "ContainerHost", name := "stateOf", desc := "(I)I" } : MethodName) ∈ lw_tbl := mt (i := 935) (by decide +kernel)
theorem w939 : Cond.methodLink "ContainerHostLaw" (273 : Nat) ({ cls := "ContainerHostLaw", name := "memoryOf", desc := "(LContainerHost;I[J)I" } : MethodName) ∈ lw_tbl := mt (i := 939) (by decide +kernel)
theorem w940 : Cond.static ({ cls := "ContainerHostLaw", name := "memoryOf", desc := "(LContainerHost;I[J)I" } : MethodName) ∈ lw_tbl := mt (i := 940) (by decide +kernel)
theorem w942 : Cond.methodLink "ContainerHostLaw" (131 : Nat) ({ cls := "ContainerHost", name := "memoryOf", desc := "(I)I" } : MethodName) ∈ lw_tbl := mt (i := 942) (by decide +kernel)
theorem w946 : Cond.methodLink "ContainerHostLaw" (276 : Nat) ({ cls := "ContainerHostLaw", name := "timeOf", desc := "(LContainerHost;I[J)I" } : MethodName) ∈ lw_tbl := mt (i := 946) (by decide +kernel)
theorem w947 : Cond.static ({ cls := "ContainerHostLaw", name := "timeOf", desc := "(LContainerHost;I[J)I" } : MethodName) ∈ lw_tbl := mt (i := 947) (by decide +kernel)
theorem w949 : Cond.methodLink "ContainerHostLaw" (134 : Nat) ({ cls := "ContainerHost", name := "timeOf", desc := "(I)I" } : MethodName) ∈ lw_tbl := mt (i := 949) (by decide +kernel)
theorem w953 : Cond.methodLink "ContainerHostLaw" (279 : Nat) ({ cls := "ContainerHostLaw", name := "capabilitiesOf", desc := "(LContainerHost;I[J)I" } : MethodName) ∈ lw_tbl := mt (i := 953) (by decide +kernel)
theorem w954 : Cond.static ({ cls := "ContainerHostLaw", name := "capabilitiesOf", desc := "(LContainerHost;I[J)I" } : MethodName) ∈ lw_tbl := mt (i := 954) (by decide +kernel)
theorem w956 : Cond.methodLink "ContainerHostLaw" (137 : Nat) ({ cls := "ContainerHost", name := "capabilitiesOf", desc := "(I)I" } : MethodName) ∈ lw_tbl := mt (i := 956) (by decide +kernel)
theorem w960 : Cond.methodLink "ContainerHostLaw" (282 : Nat) ({ cls := "ContainerHostLaw", name := "addressOf", desc := "(LContainerHost;I[J)I" } : MethodName) ∈ lw_tbl := mt (i := 960) (by decide +kernel)
theorem w961 : Cond.static ({ cls := "ContainerHostLaw", name := "addressOf", desc := "(LContainerHost;I[J)I" } : MethodName) ∈ lw_tbl := mt (i := 961) (by decide +kernel)
theorem w963 : Cond.methodLink "ContainerHostLaw" (140 : Nat) ({ cls := "ContainerHost", name := "addressOf", desc := "(I)I" } : MethodName) ∈ lw_tbl := mt (i := 963) (by decide +kernel)
theorem w967 : Cond.classLink "ContainerHostLaw" (144 : Nat) "ContainerHostModel" ∈ lw_tbl := mt (i := 967) (by decide +kernel)
theorem w968 : Cond.instantiable "ContainerHostModel" (28 : Nat) ∈ lw_tbl := mt (i := 968) (by decide +kernel)
theorem w969 : Cond.methodLink "ContainerHostLaw" (146 : Nat) ({ cls := "ContainerHostModel", name := "<init>", desc := "()V" } : MethodName) ∈ lw_tbl := mt (i := 969) (by decide +kernel)
theorem w1059 : Cond.methodLink "ContainerHostLaw" (153 : Nat) ({ cls := "ContainerHostModel", name := "thrown", desc := "()I" } : MethodName) ∈ lw_tbl := mt (i := 1059) (by decide +kernel)
theorem w1063 : Cond.methodLink "ContainerHostLaw" (152 : Nat) ({ cls := "ContainerHostModel", name := "newImage", desc := "(I)I" } : MethodName) ∈ lw_tbl := mt (i := 1063) (by decide +kernel)
theorem w1086 : Cond.methodLink "ContainerHostLaw" (160 : Nat) ({ cls := "ContainerHostModel", name := "write", desc := "(III)I" } : MethodName) ∈ lw_tbl := mt (i := 1086) (by decide +kernel)
theorem w1101 : Cond.methodLink "ContainerHostLaw" (164 : Nat) ({ cls := "ContainerHostModel", name := "remove", desc := "(II)I" } : MethodName) ∈ lw_tbl := mt (i := 1101) (by decide +kernel)
theorem w1105 : Cond.methodLink "ContainerHostLaw" (167 : Nat) ({ cls := "ContainerHostModel", name := "clear", desc := "(II)I" } : MethodName) ∈ lw_tbl := mt (i := 1105) (by decide +kernel)
theorem w1109 : Cond.methodLink "ContainerHostLaw" (170 : Nat) ({ cls := "ContainerHostModel", name := "seal", desc := "(I)I" } : MethodName) ∈ lw_tbl := mt (i := 1109) (by decide +kernel)
theorem w1113 : Cond.methodLink "ContainerHostLaw" (173 : Nat) ({ cls := "ContainerHostModel", name := "shown", desc := "(II)I" } : MethodName) ∈ lw_tbl := mt (i := 1113) (by decide +kernel)
theorem w1117 : Cond.methodLink "ContainerHostLaw" (176 : Nat) ({ cls := "ContainerHostModel", name := "entries", desc := "(II)I" } : MethodName) ∈ lw_tbl := mt (i := 1117) (by decide +kernel)
theorem w1121 : Cond.methodLink "ContainerHostLaw" (179 : Nat) ({ cls := "ContainerHostModel", name := "commit", desc := "(I)I" } : MethodName) ∈ lw_tbl := mt (i := 1121) (by decide +kernel)
theorem w1133 : Cond.methodLink "ContainerHostLaw" (183 : Nat) ({ cls := "ContainerHostModel", name := "newGroup", desc := "(IIII)I" } : MethodName) ∈ lw_tbl := mt (i := 1133) (by decide +kernel)
theorem w1141 : Cond.methodLink "ContainerHostLaw" (186 : Nat) ({ cls := "ContainerHostModel", name := "groupMemory", desc := "(I)I" } : MethodName) ∈ lw_tbl := mt (i := 1141) (by decide +kernel)
theorem w1153 : Cond.methodLink "ContainerHostLaw" (189 : Nat) ({ cls := "ContainerHostModel", name := "groupProcesses", desc := "(I)I" } : MethodName) ∈ lw_tbl := mt (i := 1153) (by decide +kernel)
theorem w1161 : Cond.methodLink "ContainerHostLaw" (192 : Nat) ({ cls := "ContainerHostModel", name := "run", desc := "(IIII)I" } : MethodName) ∈ lw_tbl := mt (i := 1161) (by decide +kernel)
theorem w1173 : Cond.methodLink "ContainerHostLaw" (196 : Nat) ({ cls := "ContainerHostModel", name := "pause", desc := "(I)V" } : MethodName) ∈ lw_tbl := mt (i := 1173) (by decide +kernel)
theorem w1181 : Cond.methodLink "ContainerHostLaw" (199 : Nat) ({ cls := "ContainerHostModel", name := "resume", desc := "(I)V" } : MethodName) ∈ lw_tbl := mt (i := 1181) (by decide +kernel)
theorem w1185 : Cond.methodLink "ContainerHostLaw" (202 : Nat) ({ cls := "ContainerHostModel", name := "stop", desc := "(I)I" } : MethodName) ∈ lw_tbl := mt (i := 1185) (by decide +kernel)
theorem w1193 : Cond.methodLink "ContainerHostLaw" (205 : Nat) ({ cls := "ContainerHostModel", name := "allocate", desc := "(II)I" } : MethodName) ∈ lw_tbl := mt (i := 1193) (by decide +kernel)
theorem w1204 : Cond.methodLink "ContainerHostLaw" (208 : Nat) ({ cls := "ContainerHostModel", name := "free", desc := "(II)I" } : MethodName) ∈ lw_tbl := mt (i := 1204) (by decide +kernel)
theorem w1208 : Cond.methodLink "ContainerHostLaw" (211 : Nat) ({ cls := "ContainerHostModel", name := "fork", desc := "(I)I" } : MethodName) ∈ lw_tbl := mt (i := 1208) (by decide +kernel)
theorem w1212 : Cond.methodLink "ContainerHostLaw" (214 : Nat) ({ cls := "ContainerHostModel", name := "exit", desc := "(I)I" } : MethodName) ∈ lw_tbl := mt (i := 1212) (by decide +kernel)
theorem w1216 : Cond.methodLink "ContainerHostLaw" (217 : Nat) ({ cls := "ContainerHostModel", name := "schedule", desc := "(I)I" } : MethodName) ∈ lw_tbl := mt (i := 1216) (by decide +kernel)
theorem w1236 : Cond.methodLink "ContainerHostLaw" (220 : Nat) ({ cls := "ContainerHostModel", name := "writeFile", desc := "(III)I" } : MethodName) ∈ lw_tbl := mt (i := 1236) (by decide +kernel)
theorem w1252 : Cond.methodLink "ContainerHostLaw" (223 : Nat) ({ cls := "ContainerHostModel", name := "removeFile", desc := "(II)I" } : MethodName) ∈ lw_tbl := mt (i := 1252) (by decide +kernel)
theorem w1256 : Cond.methodLink "ContainerHostLaw" (226 : Nat) ({ cls := "ContainerHostModel", name := "fileOf", desc := "(II)I" } : MethodName) ∈ lw_tbl := mt (i := 1256) (by decide +kernel)
theorem w1260 : Cond.methodLink "ContainerHostLaw" (229 : Nat) ({ cls := "ContainerHostModel", name := "plainFileOf", desc := "(II)I" } : MethodName) ∈ lw_tbl := mt (i := 1260) (by decide +kernel)
theorem w1268 : Cond.methodLink "ContainerHostLaw" (232 : Nat) ({ cls := "ContainerHostModel", name := "raise", desc := "(II)I" } : MethodName) ∈ lw_tbl := mt (i := 1268) (by decide +kernel)
theorem w1276 : Cond.methodLink "ContainerHostLaw" (235 : Nat) ({ cls := "ContainerHostModel", name := "lower", desc := "(II)I" } : MethodName) ∈ lw_tbl := mt (i := 1276) (by decide +kernel)
theorem w1280 : Cond.methodLink "ContainerHostLaw" (238 : Nat) ({ cls := "ContainerHostModel", name := "drop", desc := "(II)I" } : MethodName) ∈ lw_tbl := mt (i := 1280) (by decide +kernel)
theorem w1284 : Cond.methodLink "ContainerHostLaw" (241 : Nat) ({ cls := "ContainerHostModel", name := "kill", desc := "(II)I" } : MethodName) ∈ lw_tbl := mt (i := 1284) (by decide +kernel)
theorem w1288 : Cond.methodLink "ContainerHostLaw" (244 : Nat) ({ cls := "ContainerHostModel", name := "attach", desc := "(II)I" } : MethodName) ∈ lw_tbl := mt (i := 1288) (by decide +kernel)
theorem w1300 : Cond.methodLink "ContainerHostLaw" (247 : Nat) ({ cls := "ContainerHostModel", name := "detach", desc := "(I)I" } : MethodName) ∈ lw_tbl := mt (i := 1300) (by decide +kernel)
theorem w1304 : Cond.methodLink "ContainerHostLaw" (250 : Nat) ({ cls := "ContainerHostModel", name := "listen", desc := "(II)I" } : MethodName) ∈ lw_tbl := mt (i := 1304) (by decide +kernel)
theorem w1312 : Cond.methodLink "ContainerHostLaw" (253 : Nat) ({ cls := "ContainerHostModel", name := "publish", desc := "(III)I" } : MethodName) ∈ lw_tbl := mt (i := 1312) (by decide +kernel)
theorem w1316 : Cond.methodLink "ContainerHostLaw" (256 : Nat) ({ cls := "ContainerHostModel", name := "connect", desc := "(III)I" } : MethodName) ∈ lw_tbl := mt (i := 1316) (by decide +kernel)
theorem w1320 : Cond.methodLink "ContainerHostLaw" (259 : Nat) ({ cls := "ContainerHostModel", name := "connectHost", desc := "(I)I" } : MethodName) ∈ lw_tbl := mt (i := 1320) (by decide +kernel)
theorem w1324 : Cond.methodLink "ContainerHostLaw" (262 : Nat) ({ cls := "ContainerHostModel", name := "save", desc := "(I)I" } : MethodName) ∈ lw_tbl := mt (i := 1324) (by decide +kernel)
theorem w1332 : Cond.methodLink "ContainerHostLaw" (265 : Nat) ({ cls := "ContainerHostModel", name := "restore", desc := "(II)I" } : MethodName) ∈ lw_tbl := mt (i := 1332) (by decide +kernel)
theorem w1336 : Cond.methodLink "ContainerHostLaw" (269 : Nat) ({ cls := "ContainerHostModel", name := "containers", desc := "()I" } : MethodName) ∈ lw_tbl := mt (i := 1336) (by decide +kernel)
theorem w1340 : Cond.methodLink "ContainerHostLaw" (272 : Nat) ({ cls := "ContainerHostModel", name := "stateOf", desc := "(I)I" } : MethodName) ∈ lw_tbl := mt (i := 1340) (by decide +kernel)
theorem w1348 : Cond.methodLink "ContainerHostLaw" (275 : Nat) ({ cls := "ContainerHostModel", name := "memoryOf", desc := "(I)I" } : MethodName) ∈ lw_tbl := mt (i := 1348) (by decide +kernel)
theorem w1352 : Cond.methodLink "ContainerHostLaw" (278 : Nat) ({ cls := "ContainerHostModel", name := "timeOf", desc := "(I)I" } : MethodName) ∈ lw_tbl := mt (i := 1352) (by decide +kernel)
theorem w1356 : Cond.methodLink "ContainerHostLaw" (281 : Nat) ({ cls := "ContainerHostModel", name := "capabilitiesOf", desc := "(I)I" } : MethodName) ∈ lw_tbl := mt (i := 1356) (by decide +kernel)
theorem w1360 : Cond.methodLink "ContainerHostLaw" (284 : Nat) ({ cls := "ContainerHostModel", name := "addressOf", desc := "(I)I" } : MethodName) ∈ lw_tbl := mt (i := 1360) (by decide +kernel)
theorem w1364 : Cond.arrayClass FieldType.long ∈ lw_tbl := mt (i := 1364) (by decide +kernel)
abbrev c_L_newImage : ByteArray := method_3_code
abbrev y_L_newImage : MethodName := { cls := "ContainerHostLaw", name := "newImage", desc := "(LContainerHost;I[J)I" }
abbrev k_L_newImage : Cond := .codeWith y_L_newImage c_L_newImage 4 (Option.some FieldType.int) [(0, 9, 12, 13), (0, 9, 15, 15)]
abbrev M_L_newImage : xMeth := ("ContainerHostLaw", c_L_newImage, 4, (Option.some FieldType.int), "newImage", [(0, 9, 12, 13), (0, 9, 15, 15)], ({ frames := 10, cells := 7, slots := 97, locals := 235 } : Room))
theorem e_L_newImage : k_L_newImage ∈ lw_tbl := mt (i := 196) (by decide +kernel)
theorem d_L_newImage_0 : decode c_L_newImage 0 = .ok (.aload_n 2, 1) := by decide +kernel
theorem d_L_newImage_1 : decode c_L_newImage 1 = .ok (.iconst 0, 1) := by decide +kernel
theorem d_L_newImage_2 : decode c_L_newImage 2 = .ok (.aload_n 0, 1) := by decide +kernel
theorem d_L_newImage_3 : decode c_L_newImage 3 = .ok (.iload_n 1, 1) := by decide +kernel
theorem d_L_newImage_4 : decode c_L_newImage 4 = .ok (.invokevirtual 7, 3) := by decide +kernel
theorem d_L_newImage_7 : decode c_L_newImage 7 = .ok (.i2l, 1) := by decide +kernel
theorem d_L_newImage_8 : decode c_L_newImage 8 = .ok (.lastore, 1) := by decide +kernel
theorem d_L_newImage_9 : decode c_L_newImage 9 = .ok (.goto 9, 3) := by decide +kernel
theorem d_L_newImage_12 : decode c_L_newImage 12 = .ok (.astore_n 3, 1) := by decide +kernel
theorem d_L_newImage_13 : decode c_L_newImage 13 = .ok (.iconst 1, 1) := by decide +kernel
theorem d_L_newImage_14 : decode c_L_newImage 14 = .ok (.ireturn, 1) := by decide +kernel
theorem d_L_newImage_15 : decode c_L_newImage 15 = .ok (.astore_n 3, 1) := by decide +kernel
theorem d_L_newImage_16 : decode c_L_newImage 16 = .ok (.iconst 2, 1) := by decide +kernel
theorem d_L_newImage_17 : decode c_L_newImage 17 = .ok (.ireturn, 1) := by decide +kernel
theorem d_L_newImage_18 : decode c_L_newImage 18 = .ok (.iconst 0, 1) := by decide +kernel
theorem d_L_newImage_19 : decode c_L_newImage 19 = .ok (.ireturn, 1) := by decide +kernel
abbrev c_L_write : ByteArray := method_4_code
abbrev y_L_write : MethodName := { cls := "ContainerHostLaw", name := "write", desc := "(LContainerHost;III[J)I" }
abbrev k_L_write : Cond := .codeWith y_L_write c_L_write 6 (Option.some FieldType.int) [(0, 12, 15, 13), (0, 12, 19, 21), (0, 12, 23, 15)]
abbrev M_L_write : xMeth := ("ContainerHostLaw", c_L_write, 6, (Option.some FieldType.int), "write", [(0, 12, 15, 13), (0, 12, 19, 21), (0, 12, 23, 15)], ({ frames := 8, cells := 4, slots := 24, locals := 138 } : Room))
theorem e_L_write : k_L_write ∈ lw_tbl := mt (i := 355) (by decide +kernel)
theorem d_L_write_0 : decode c_L_write 0 = .ok (.aload 4, 2) := by decide +kernel
theorem d_L_write_2 : decode c_L_write 2 = .ok (.iconst 0, 1) := by decide +kernel
theorem d_L_write_3 : decode c_L_write 3 = .ok (.aload_n 0, 1) := by decide +kernel
theorem d_L_write_4 : decode c_L_write 4 = .ok (.iload_n 1, 1) := by decide +kernel
theorem d_L_write_5 : decode c_L_write 5 = .ok (.iload_n 2, 1) := by decide +kernel
theorem d_L_write_6 : decode c_L_write 6 = .ok (.iload_n 3, 1) := by decide +kernel
theorem d_L_write_7 : decode c_L_write 7 = .ok (.invokevirtual 17, 3) := by decide +kernel
theorem d_L_write_10 : decode c_L_write 10 = .ok (.i2l, 1) := by decide +kernel
theorem d_L_write_11 : decode c_L_write 11 = .ok (.lastore, 1) := by decide +kernel
theorem d_L_write_12 : decode c_L_write 12 = .ok (.goto 15, 3) := by decide +kernel
theorem d_L_write_15 : decode c_L_write 15 = .ok (.astore 5, 2) := by decide +kernel
theorem d_L_write_17 : decode c_L_write 17 = .ok (.iconst 1, 1) := by decide +kernel
theorem d_L_write_18 : decode c_L_write 18 = .ok (.ireturn, 1) := by decide +kernel
theorem d_L_write_19 : decode c_L_write 19 = .ok (.astore 5, 2) := by decide +kernel
theorem d_L_write_21 : decode c_L_write 21 = .ok (.iconst 2, 1) := by decide +kernel
theorem d_L_write_22 : decode c_L_write 22 = .ok (.ireturn, 1) := by decide +kernel
theorem d_L_write_23 : decode c_L_write 23 = .ok (.astore 5, 2) := by decide +kernel
theorem d_L_write_25 : decode c_L_write 25 = .ok (.iconst 3, 1) := by decide +kernel
theorem d_L_write_26 : decode c_L_write 26 = .ok (.ireturn, 1) := by decide +kernel
theorem d_L_write_27 : decode c_L_write 27 = .ok (.iconst 0, 1) := by decide +kernel
theorem d_L_write_28 : decode c_L_write 28 = .ok (.ireturn, 1) := by decide +kernel
abbrev c_L_remove : ByteArray := method_5_code
abbrev y_L_remove : MethodName := { cls := "ContainerHostLaw", name := "remove", desc := "(LContainerHost;II[J)I" }
abbrev k_L_remove : Cond := .codeWith y_L_remove c_L_remove 5 (Option.some FieldType.int) [(0, 10, 13, 13), (0, 10, 17, 15)]
abbrev M_L_remove : xMeth := ("ContainerHostLaw", c_L_remove, 5, (Option.some FieldType.int), "remove", [(0, 10, 13, 13), (0, 10, 17, 15)], ({ frames := 8, cells := 4, slots := 24, locals := 137 } : Room))
theorem e_L_remove : k_L_remove ∈ lw_tbl := mt (i := 402) (by decide +kernel)
theorem d_L_remove_0 : decode c_L_remove 0 = .ok (.aload_n 3, 1) := by decide +kernel
theorem d_L_remove_1 : decode c_L_remove 1 = .ok (.iconst 0, 1) := by decide +kernel
theorem d_L_remove_2 : decode c_L_remove 2 = .ok (.aload_n 0, 1) := by decide +kernel
theorem d_L_remove_3 : decode c_L_remove 3 = .ok (.iload_n 1, 1) := by decide +kernel
theorem d_L_remove_4 : decode c_L_remove 4 = .ok (.iload_n 2, 1) := by decide +kernel
theorem d_L_remove_5 : decode c_L_remove 5 = .ok (.invokevirtual 23, 3) := by decide +kernel
theorem d_L_remove_8 : decode c_L_remove 8 = .ok (.i2l, 1) := by decide +kernel
theorem d_L_remove_9 : decode c_L_remove 9 = .ok (.lastore, 1) := by decide +kernel
theorem d_L_remove_10 : decode c_L_remove 10 = .ok (.goto 11, 3) := by decide +kernel
theorem d_L_remove_13 : decode c_L_remove 13 = .ok (.astore 4, 2) := by decide +kernel
theorem d_L_remove_15 : decode c_L_remove 15 = .ok (.iconst 1, 1) := by decide +kernel
theorem d_L_remove_16 : decode c_L_remove 16 = .ok (.ireturn, 1) := by decide +kernel
theorem d_L_remove_17 : decode c_L_remove 17 = .ok (.astore 4, 2) := by decide +kernel
theorem d_L_remove_19 : decode c_L_remove 19 = .ok (.iconst 2, 1) := by decide +kernel
theorem d_L_remove_20 : decode c_L_remove 20 = .ok (.ireturn, 1) := by decide +kernel
theorem d_L_remove_21 : decode c_L_remove 21 = .ok (.iconst 0, 1) := by decide +kernel
theorem d_L_remove_22 : decode c_L_remove 22 = .ok (.ireturn, 1) := by decide +kernel
abbrev c_L_clear : ByteArray := method_6_code
abbrev y_L_clear : MethodName := { cls := "ContainerHostLaw", name := "clear", desc := "(LContainerHost;II[J)I" }
abbrev k_L_clear : Cond := .codeWith y_L_clear c_L_clear 5 (Option.some FieldType.int) [(0, 10, 13, 13), (0, 10, 17, 15)]
abbrev M_L_clear : xMeth := ("ContainerHostLaw", c_L_clear, 5, (Option.some FieldType.int), "clear", [(0, 10, 13, 13), (0, 10, 17, 15)], ({ frames := 8, cells := 3, slots := 18, locals := 137 } : Room))
theorem e_L_clear : k_L_clear ∈ lw_tbl := mt (i := 413) (by decide +kernel)
theorem d_L_clear_0 : decode c_L_clear 0 = .ok (.aload_n 3, 1) := by decide +kernel
theorem d_L_clear_1 : decode c_L_clear 1 = .ok (.iconst 0, 1) := by decide +kernel
theorem d_L_clear_2 : decode c_L_clear 2 = .ok (.aload_n 0, 1) := by decide +kernel
theorem d_L_clear_3 : decode c_L_clear 3 = .ok (.iload_n 1, 1) := by decide +kernel
theorem d_L_clear_4 : decode c_L_clear 4 = .ok (.iload_n 2, 1) := by decide +kernel
theorem d_L_clear_5 : decode c_L_clear 5 = .ok (.invokevirtual 27, 3) := by decide +kernel
theorem d_L_clear_8 : decode c_L_clear 8 = .ok (.i2l, 1) := by decide +kernel
theorem d_L_clear_9 : decode c_L_clear 9 = .ok (.lastore, 1) := by decide +kernel
theorem d_L_clear_10 : decode c_L_clear 10 = .ok (.goto 11, 3) := by decide +kernel
theorem d_L_clear_13 : decode c_L_clear 13 = .ok (.astore 4, 2) := by decide +kernel
theorem d_L_clear_15 : decode c_L_clear 15 = .ok (.iconst 1, 1) := by decide +kernel
theorem d_L_clear_16 : decode c_L_clear 16 = .ok (.ireturn, 1) := by decide +kernel
theorem d_L_clear_17 : decode c_L_clear 17 = .ok (.astore 4, 2) := by decide +kernel
theorem d_L_clear_19 : decode c_L_clear 19 = .ok (.iconst 2, 1) := by decide +kernel
theorem d_L_clear_20 : decode c_L_clear 20 = .ok (.ireturn, 1) := by decide +kernel
theorem d_L_clear_21 : decode c_L_clear 21 = .ok (.iconst 0, 1) := by decide +kernel
theorem d_L_clear_22 : decode c_L_clear 22 = .ok (.ireturn, 1) := by decide +kernel
abbrev c_L_seal : ByteArray := method_7_code
abbrev y_L_seal : MethodName := { cls := "ContainerHostLaw", name := "seal", desc := "(LContainerHost;I[J)I" }
abbrev k_L_seal : Cond := .codeWith y_L_seal c_L_seal 4 (Option.some FieldType.int) [(0, 9, 12, 13), (0, 9, 15, 15)]
abbrev M_L_seal : xMeth := ("ContainerHostLaw", c_L_seal, 4, (Option.some FieldType.int), "seal", [(0, 9, 12, 13), (0, 9, 15, 15)], ({ frames := 8, cells := 2, slots := 12, locals := 135 } : Room))
theorem e_L_seal : k_L_seal ∈ lw_tbl := mt (i := 430) (by decide +kernel)
theorem d_L_seal_0 : decode c_L_seal 0 = .ok (.aload_n 2, 1) := by decide +kernel
theorem d_L_seal_1 : decode c_L_seal 1 = .ok (.iconst 0, 1) := by decide +kernel
theorem d_L_seal_2 : decode c_L_seal 2 = .ok (.aload_n 0, 1) := by decide +kernel
theorem d_L_seal_3 : decode c_L_seal 3 = .ok (.iload_n 1, 1) := by decide +kernel
theorem d_L_seal_4 : decode c_L_seal 4 = .ok (.invokevirtual 30, 3) := by decide +kernel
theorem d_L_seal_7 : decode c_L_seal 7 = .ok (.i2l, 1) := by decide +kernel
theorem d_L_seal_8 : decode c_L_seal 8 = .ok (.lastore, 1) := by decide +kernel
theorem d_L_seal_9 : decode c_L_seal 9 = .ok (.goto 9, 3) := by decide +kernel
theorem d_L_seal_12 : decode c_L_seal 12 = .ok (.astore_n 3, 1) := by decide +kernel
theorem d_L_seal_13 : decode c_L_seal 13 = .ok (.iconst 1, 1) := by decide +kernel
theorem d_L_seal_14 : decode c_L_seal 14 = .ok (.ireturn, 1) := by decide +kernel
theorem d_L_seal_15 : decode c_L_seal 15 = .ok (.astore_n 3, 1) := by decide +kernel
theorem d_L_seal_16 : decode c_L_seal 16 = .ok (.iconst 2, 1) := by decide +kernel
theorem d_L_seal_17 : decode c_L_seal 17 = .ok (.ireturn, 1) := by decide +kernel
theorem d_L_seal_18 : decode c_L_seal 18 = .ok (.iconst 0, 1) := by decide +kernel
theorem d_L_seal_19 : decode c_L_seal 19 = .ok (.ireturn, 1) := by decide +kernel
abbrev c_L_shown : ByteArray := method_8_code
abbrev y_L_shown : MethodName := { cls := "ContainerHostLaw", name := "shown", desc := "(LContainerHost;II[J)I" }
abbrev k_L_shown : Cond := .codeWith y_L_shown c_L_shown 5 (Option.some FieldType.int) [(0, 10, 13, 13)]
abbrev M_L_shown : xMeth := ("ContainerHostLaw", c_L_shown, 5, (Option.some FieldType.int), "shown", [(0, 10, 13, 13)], ({ frames := 8, cells := 2, slots := 12, locals := 136 } : Room))
theorem e_L_shown : k_L_shown ∈ lw_tbl := mt (i := 437) (by decide +kernel)
theorem d_L_shown_0 : decode c_L_shown 0 = .ok (.aload_n 3, 1) := by decide +kernel
theorem d_L_shown_1 : decode c_L_shown 1 = .ok (.iconst 0, 1) := by decide +kernel
theorem d_L_shown_2 : decode c_L_shown 2 = .ok (.aload_n 0, 1) := by decide +kernel
theorem d_L_shown_3 : decode c_L_shown 3 = .ok (.iload_n 1, 1) := by decide +kernel
theorem d_L_shown_4 : decode c_L_shown 4 = .ok (.iload_n 2, 1) := by decide +kernel
theorem d_L_shown_5 : decode c_L_shown 5 = .ok (.invokevirtual 33, 3) := by decide +kernel
theorem d_L_shown_8 : decode c_L_shown 8 = .ok (.i2l, 1) := by decide +kernel
theorem d_L_shown_9 : decode c_L_shown 9 = .ok (.lastore, 1) := by decide +kernel
theorem d_L_shown_10 : decode c_L_shown 10 = .ok (.goto 7, 3) := by decide +kernel
theorem d_L_shown_13 : decode c_L_shown 13 = .ok (.astore 4, 2) := by decide +kernel
theorem d_L_shown_15 : decode c_L_shown 15 = .ok (.iconst 1, 1) := by decide +kernel
theorem d_L_shown_16 : decode c_L_shown 16 = .ok (.ireturn, 1) := by decide +kernel
theorem d_L_shown_17 : decode c_L_shown 17 = .ok (.iconst 0, 1) := by decide +kernel
theorem d_L_shown_18 : decode c_L_shown 18 = .ok (.ireturn, 1) := by decide +kernel
abbrev c_L_entries : ByteArray := method_9_code
abbrev y_L_entries : MethodName := { cls := "ContainerHostLaw", name := "entries", desc := "(LContainerHost;II[J)I" }
abbrev k_L_entries : Cond := .codeWith y_L_entries c_L_entries 5 (Option.some FieldType.int) [(0, 10, 13, 13)]
abbrev M_L_entries : xMeth := ("ContainerHostLaw", c_L_entries, 5, (Option.some FieldType.int), "entries", [(0, 10, 13, 13)], ({ frames := 8, cells := 2, slots := 12, locals := 137 } : Room))
theorem e_L_entries : k_L_entries ∈ lw_tbl := mt (i := 444) (by decide +kernel)
theorem d_L_entries_0 : decode c_L_entries 0 = .ok (.aload_n 3, 1) := by decide +kernel
theorem d_L_entries_1 : decode c_L_entries 1 = .ok (.iconst 0, 1) := by decide +kernel
theorem d_L_entries_2 : decode c_L_entries 2 = .ok (.aload_n 0, 1) := by decide +kernel
theorem d_L_entries_3 : decode c_L_entries 3 = .ok (.iload_n 1, 1) := by decide +kernel
theorem d_L_entries_4 : decode c_L_entries 4 = .ok (.iload_n 2, 1) := by decide +kernel
theorem d_L_entries_5 : decode c_L_entries 5 = .ok (.invokevirtual 36, 3) := by decide +kernel
theorem d_L_entries_8 : decode c_L_entries 8 = .ok (.i2l, 1) := by decide +kernel
theorem d_L_entries_9 : decode c_L_entries 9 = .ok (.lastore, 1) := by decide +kernel
theorem d_L_entries_10 : decode c_L_entries 10 = .ok (.goto 7, 3) := by decide +kernel
theorem d_L_entries_13 : decode c_L_entries 13 = .ok (.astore 4, 2) := by decide +kernel
theorem d_L_entries_15 : decode c_L_entries 15 = .ok (.iconst 1, 1) := by decide +kernel
theorem d_L_entries_16 : decode c_L_entries 16 = .ok (.ireturn, 1) := by decide +kernel
theorem d_L_entries_17 : decode c_L_entries 17 = .ok (.iconst 0, 1) := by decide +kernel
theorem d_L_entries_18 : decode c_L_entries 18 = .ok (.ireturn, 1) := by decide +kernel
abbrev c_L_commit : ByteArray := method_10_code
abbrev y_L_commit : MethodName := { cls := "ContainerHostLaw", name := "commit", desc := "(LContainerHost;I[J)I" }
abbrev k_L_commit : Cond := .codeWith y_L_commit c_L_commit 4 (Option.some FieldType.int) [(0, 9, 12, 13), (0, 9, 15, 15)]
abbrev M_L_commit : xMeth := ("ContainerHostLaw", c_L_commit, 4, (Option.some FieldType.int), "commit", [(0, 9, 12, 13), (0, 9, 15, 15)], ({ frames := 10, cells := 7, slots := 97, locals := 235 } : Room))
theorem e_L_commit : k_L_commit ∈ lw_tbl := mt (i := 466) (by decide +kernel)
theorem d_L_commit_0 : decode c_L_commit 0 = .ok (.aload_n 2, 1) := by decide +kernel
theorem d_L_commit_1 : decode c_L_commit 1 = .ok (.iconst 0, 1) := by decide +kernel
theorem d_L_commit_2 : decode c_L_commit 2 = .ok (.aload_n 0, 1) := by decide +kernel
theorem d_L_commit_3 : decode c_L_commit 3 = .ok (.iload_n 1, 1) := by decide +kernel
theorem d_L_commit_4 : decode c_L_commit 4 = .ok (.invokevirtual 39, 3) := by decide +kernel
theorem d_L_commit_7 : decode c_L_commit 7 = .ok (.i2l, 1) := by decide +kernel
theorem d_L_commit_8 : decode c_L_commit 8 = .ok (.lastore, 1) := by decide +kernel
theorem d_L_commit_9 : decode c_L_commit 9 = .ok (.goto 9, 3) := by decide +kernel
theorem d_L_commit_12 : decode c_L_commit 12 = .ok (.astore_n 3, 1) := by decide +kernel
theorem d_L_commit_13 : decode c_L_commit 13 = .ok (.iconst 1, 1) := by decide +kernel
theorem d_L_commit_14 : decode c_L_commit 14 = .ok (.ireturn, 1) := by decide +kernel
theorem d_L_commit_15 : decode c_L_commit 15 = .ok (.astore_n 3, 1) := by decide +kernel
theorem d_L_commit_16 : decode c_L_commit 16 = .ok (.iconst 2, 1) := by decide +kernel
theorem d_L_commit_17 : decode c_L_commit 17 = .ok (.ireturn, 1) := by decide +kernel
theorem d_L_commit_18 : decode c_L_commit 18 = .ok (.iconst 0, 1) := by decide +kernel
theorem d_L_commit_19 : decode c_L_commit 19 = .ok (.ireturn, 1) := by decide +kernel
abbrev c_L_newGroup : ByteArray := method_11_code
abbrev y_L_newGroup : MethodName := { cls := "ContainerHostLaw", name := "newGroup", desc := "(LContainerHost;IIII[J)I" }
abbrev k_L_newGroup : Cond := .codeWith y_L_newGroup c_L_newGroup 7 (Option.some FieldType.int) [(0, 14, 17, 13), (0, 14, 21, 21), (0, 14, 25, 15)]
abbrev M_L_newGroup : xMeth := ("ContainerHostLaw", c_L_newGroup, 7, (Option.some FieldType.int), "newGroup", [(0, 14, 17, 13), (0, 14, 21, 21), (0, 14, 25, 15)], ({ frames := 9, cells := 7, slots := 70, locals := 216 } : Room))
theorem e_L_newGroup : k_L_newGroup ∈ lw_tbl := mt (i := 486) (by decide +kernel)
theorem d_L_newGroup_0 : decode c_L_newGroup 0 = .ok (.aload 5, 2) := by decide +kernel
theorem d_L_newGroup_2 : decode c_L_newGroup 2 = .ok (.iconst 0, 1) := by decide +kernel
theorem d_L_newGroup_3 : decode c_L_newGroup 3 = .ok (.aload_n 0, 1) := by decide +kernel
theorem d_L_newGroup_4 : decode c_L_newGroup 4 = .ok (.iload_n 1, 1) := by decide +kernel
theorem d_L_newGroup_5 : decode c_L_newGroup 5 = .ok (.iload_n 2, 1) := by decide +kernel
theorem d_L_newGroup_6 : decode c_L_newGroup 6 = .ok (.iload_n 3, 1) := by decide +kernel
theorem d_L_newGroup_7 : decode c_L_newGroup 7 = .ok (.iload 4, 2) := by decide +kernel
theorem d_L_newGroup_9 : decode c_L_newGroup 9 = .ok (.invokevirtual 42, 3) := by decide +kernel
theorem d_L_newGroup_12 : decode c_L_newGroup 12 = .ok (.i2l, 1) := by decide +kernel
theorem d_L_newGroup_13 : decode c_L_newGroup 13 = .ok (.lastore, 1) := by decide +kernel
theorem d_L_newGroup_14 : decode c_L_newGroup 14 = .ok (.goto 15, 3) := by decide +kernel
theorem d_L_newGroup_17 : decode c_L_newGroup 17 = .ok (.astore 6, 2) := by decide +kernel
theorem d_L_newGroup_19 : decode c_L_newGroup 19 = .ok (.iconst 1, 1) := by decide +kernel
theorem d_L_newGroup_20 : decode c_L_newGroup 20 = .ok (.ireturn, 1) := by decide +kernel
theorem d_L_newGroup_21 : decode c_L_newGroup 21 = .ok (.astore 6, 2) := by decide +kernel
theorem d_L_newGroup_23 : decode c_L_newGroup 23 = .ok (.iconst 2, 1) := by decide +kernel
theorem d_L_newGroup_24 : decode c_L_newGroup 24 = .ok (.ireturn, 1) := by decide +kernel
theorem d_L_newGroup_25 : decode c_L_newGroup 25 = .ok (.astore 6, 2) := by decide +kernel
theorem d_L_newGroup_27 : decode c_L_newGroup 27 = .ok (.iconst 3, 1) := by decide +kernel
theorem d_L_newGroup_28 : decode c_L_newGroup 28 = .ok (.ireturn, 1) := by decide +kernel
theorem d_L_newGroup_29 : decode c_L_newGroup 29 = .ok (.iconst 0, 1) := by decide +kernel
theorem d_L_newGroup_30 : decode c_L_newGroup 30 = .ok (.ireturn, 1) := by decide +kernel
abbrev c_L_groupMemory : ByteArray := method_12_code
abbrev y_L_groupMemory : MethodName := { cls := "ContainerHostLaw", name := "groupMemory", desc := "(LContainerHost;I[J)I" }
abbrev k_L_groupMemory : Cond := .codeWith y_L_groupMemory c_L_groupMemory 4 (Option.some FieldType.int) [(0, 9, 12, 13)]
abbrev M_L_groupMemory : xMeth := ("ContainerHostLaw", c_L_groupMemory, 4, (Option.some FieldType.int), "groupMemory", [(0, 9, 12, 13)], ({ frames := 8, cells := 1, slots := 6, locals := 134 } : Room))
theorem e_L_groupMemory : k_L_groupMemory ∈ lw_tbl := mt (i := 499) (by decide +kernel)
theorem d_L_groupMemory_0 : decode c_L_groupMemory 0 = .ok (.aload_n 2, 1) := by decide +kernel
theorem d_L_groupMemory_1 : decode c_L_groupMemory 1 = .ok (.iconst 0, 1) := by decide +kernel
theorem d_L_groupMemory_2 : decode c_L_groupMemory 2 = .ok (.aload_n 0, 1) := by decide +kernel
theorem d_L_groupMemory_3 : decode c_L_groupMemory 3 = .ok (.iload_n 1, 1) := by decide +kernel
theorem d_L_groupMemory_4 : decode c_L_groupMemory 4 = .ok (.invokevirtual 46, 3) := by decide +kernel
theorem d_L_groupMemory_7 : decode c_L_groupMemory 7 = .ok (.i2l, 1) := by decide +kernel
theorem d_L_groupMemory_8 : decode c_L_groupMemory 8 = .ok (.lastore, 1) := by decide +kernel
theorem d_L_groupMemory_9 : decode c_L_groupMemory 9 = .ok (.goto 6, 3) := by decide +kernel
theorem d_L_groupMemory_12 : decode c_L_groupMemory 12 = .ok (.astore_n 3, 1) := by decide +kernel
theorem d_L_groupMemory_13 : decode c_L_groupMemory 13 = .ok (.iconst 1, 1) := by decide +kernel
theorem d_L_groupMemory_14 : decode c_L_groupMemory 14 = .ok (.ireturn, 1) := by decide +kernel
theorem d_L_groupMemory_15 : decode c_L_groupMemory 15 = .ok (.iconst 0, 1) := by decide +kernel
theorem d_L_groupMemory_16 : decode c_L_groupMemory 16 = .ok (.ireturn, 1) := by decide +kernel
abbrev c_L_groupProcesses : ByteArray := method_13_code
abbrev y_L_groupProcesses : MethodName := { cls := "ContainerHostLaw", name := "groupProcesses", desc := "(LContainerHost;I[J)I" }
abbrev k_L_groupProcesses : Cond := .codeWith y_L_groupProcesses c_L_groupProcesses 4 (Option.some FieldType.int) [(0, 9, 12, 13)]
abbrev M_L_groupProcesses : xMeth := ("ContainerHostLaw", c_L_groupProcesses, 4, (Option.some FieldType.int), "groupProcesses", [(0, 9, 12, 13)], ({ frames := 8, cells := 1, slots := 6, locals := 134 } : Room))
theorem e_L_groupProcesses : k_L_groupProcesses ∈ lw_tbl := mt (i := 506) (by decide +kernel)
theorem d_L_groupProcesses_0 : decode c_L_groupProcesses 0 = .ok (.aload_n 2, 1) := by decide +kernel
theorem d_L_groupProcesses_1 : decode c_L_groupProcesses 1 = .ok (.iconst 0, 1) := by decide +kernel
theorem d_L_groupProcesses_2 : decode c_L_groupProcesses 2 = .ok (.aload_n 0, 1) := by decide +kernel
theorem d_L_groupProcesses_3 : decode c_L_groupProcesses 3 = .ok (.iload_n 1, 1) := by decide +kernel
theorem d_L_groupProcesses_4 : decode c_L_groupProcesses 4 = .ok (.invokevirtual 49, 3) := by decide +kernel
theorem d_L_groupProcesses_7 : decode c_L_groupProcesses 7 = .ok (.i2l, 1) := by decide +kernel
theorem d_L_groupProcesses_8 : decode c_L_groupProcesses 8 = .ok (.lastore, 1) := by decide +kernel
theorem d_L_groupProcesses_9 : decode c_L_groupProcesses 9 = .ok (.goto 6, 3) := by decide +kernel
theorem d_L_groupProcesses_12 : decode c_L_groupProcesses 12 = .ok (.astore_n 3, 1) := by decide +kernel
theorem d_L_groupProcesses_13 : decode c_L_groupProcesses 13 = .ok (.iconst 1, 1) := by decide +kernel
theorem d_L_groupProcesses_14 : decode c_L_groupProcesses 14 = .ok (.ireturn, 1) := by decide +kernel
theorem d_L_groupProcesses_15 : decode c_L_groupProcesses 15 = .ok (.iconst 0, 1) := by decide +kernel
theorem d_L_groupProcesses_16 : decode c_L_groupProcesses 16 = .ok (.ireturn, 1) := by decide +kernel
abbrev c_L_run : ByteArray := method_14_code
abbrev y_L_run : MethodName := { cls := "ContainerHostLaw", name := "run", desc := "(LContainerHost;IIII[J)I" }
abbrev k_L_run : Cond := .codeWith y_L_run c_L_run 7 (Option.some FieldType.int) [(0, 14, 17, 13), (0, 14, 21, 21), (0, 14, 25, 15)]
abbrev M_L_run : xMeth := ("ContainerHostLaw", c_L_run, 7, (Option.some FieldType.int), "run", [(0, 14, 17, 13), (0, 14, 21, 21), (0, 14, 25, 15)], ({ frames := 10, cells := 11, slots := 132, locals := 242 } : Room))
theorem e_L_run : k_L_run ∈ lw_tbl := mt (i := 513) (by decide +kernel)
theorem d_L_run_0 : decode c_L_run 0 = .ok (.aload 5, 2) := by decide +kernel
theorem d_L_run_2 : decode c_L_run 2 = .ok (.iconst 0, 1) := by decide +kernel
theorem d_L_run_3 : decode c_L_run 3 = .ok (.aload_n 0, 1) := by decide +kernel
theorem d_L_run_4 : decode c_L_run 4 = .ok (.iload_n 1, 1) := by decide +kernel
theorem d_L_run_5 : decode c_L_run 5 = .ok (.iload_n 2, 1) := by decide +kernel
theorem d_L_run_6 : decode c_L_run 6 = .ok (.iload_n 3, 1) := by decide +kernel
theorem d_L_run_7 : decode c_L_run 7 = .ok (.iload 4, 2) := by decide +kernel
theorem d_L_run_9 : decode c_L_run 9 = .ok (.invokevirtual 52, 3) := by decide +kernel
theorem d_L_run_12 : decode c_L_run 12 = .ok (.i2l, 1) := by decide +kernel
theorem d_L_run_13 : decode c_L_run 13 = .ok (.lastore, 1) := by decide +kernel
theorem d_L_run_14 : decode c_L_run 14 = .ok (.goto 15, 3) := by decide +kernel
theorem d_L_run_17 : decode c_L_run 17 = .ok (.astore 6, 2) := by decide +kernel
theorem d_L_run_19 : decode c_L_run 19 = .ok (.iconst 1, 1) := by decide +kernel
theorem d_L_run_20 : decode c_L_run 20 = .ok (.ireturn, 1) := by decide +kernel
theorem d_L_run_21 : decode c_L_run 21 = .ok (.astore 6, 2) := by decide +kernel
theorem d_L_run_23 : decode c_L_run 23 = .ok (.iconst 2, 1) := by decide +kernel
theorem d_L_run_24 : decode c_L_run 24 = .ok (.ireturn, 1) := by decide +kernel
theorem d_L_run_25 : decode c_L_run 25 = .ok (.astore 6, 2) := by decide +kernel
theorem d_L_run_27 : decode c_L_run 27 = .ok (.iconst 3, 1) := by decide +kernel
theorem d_L_run_28 : decode c_L_run 28 = .ok (.ireturn, 1) := by decide +kernel
theorem d_L_run_29 : decode c_L_run 29 = .ok (.iconst 0, 1) := by decide +kernel
theorem d_L_run_30 : decode c_L_run 30 = .ok (.ireturn, 1) := by decide +kernel
abbrev c_L_pause : ByteArray := method_15_code
abbrev y_L_pause : MethodName := { cls := "ContainerHostLaw", name := "pause", desc := "(LContainerHost;I)I" }
abbrev k_L_pause : Cond := .codeWith y_L_pause c_L_pause 3 (Option.some FieldType.int) [(0, 5, 8, 13), (0, 5, 11, 15)]
abbrev M_L_pause : xMeth := ("ContainerHostLaw", c_L_pause, 3, (Option.some FieldType.int), "pause", [(0, 5, 8, 13), (0, 5, 11, 15)], ({ frames := 9, cells := 2, slots := 12, locals := 156 } : Room))
theorem e_L_pause : k_L_pause ∈ lw_tbl := mt (i := 602) (by decide +kernel)
theorem d_L_pause_0 : decode c_L_pause 0 = .ok (.aload_n 0, 1) := by decide +kernel
theorem d_L_pause_1 : decode c_L_pause 1 = .ok (.iload_n 1, 1) := by decide +kernel
theorem d_L_pause_2 : decode c_L_pause 2 = .ok (.invokevirtual 55, 3) := by decide +kernel
theorem d_L_pause_5 : decode c_L_pause 5 = .ok (.goto 9, 3) := by decide +kernel
theorem d_L_pause_8 : decode c_L_pause 8 = .ok (.astore_n 2, 1) := by decide +kernel
theorem d_L_pause_9 : decode c_L_pause 9 = .ok (.iconst 1, 1) := by decide +kernel
theorem d_L_pause_10 : decode c_L_pause 10 = .ok (.ireturn, 1) := by decide +kernel
theorem d_L_pause_11 : decode c_L_pause 11 = .ok (.astore_n 2, 1) := by decide +kernel
theorem d_L_pause_12 : decode c_L_pause 12 = .ok (.iconst 2, 1) := by decide +kernel
theorem d_L_pause_13 : decode c_L_pause 13 = .ok (.ireturn, 1) := by decide +kernel
theorem d_L_pause_14 : decode c_L_pause 14 = .ok (.iconst 0, 1) := by decide +kernel
theorem d_L_pause_15 : decode c_L_pause 15 = .ok (.ireturn, 1) := by decide +kernel
abbrev c_L_resume : ByteArray := method_16_code
abbrev y_L_resume : MethodName := { cls := "ContainerHostLaw", name := "resume", desc := "(LContainerHost;I)I" }
abbrev k_L_resume : Cond := .codeWith y_L_resume c_L_resume 3 (Option.some FieldType.int) [(0, 5, 8, 13), (0, 5, 11, 15)]
abbrev M_L_resume : xMeth := ("ContainerHostLaw", c_L_resume, 3, (Option.some FieldType.int), "resume", [(0, 5, 8, 13), (0, 5, 11, 15)], ({ frames := 9, cells := 2, slots := 12, locals := 156 } : Room))
theorem e_L_resume : k_L_resume ∈ lw_tbl := mt (i := 617) (by decide +kernel)
theorem d_L_resume_0 : decode c_L_resume 0 = .ok (.aload_n 0, 1) := by decide +kernel
theorem d_L_resume_1 : decode c_L_resume 1 = .ok (.iload_n 1, 1) := by decide +kernel
theorem d_L_resume_2 : decode c_L_resume 2 = .ok (.invokevirtual 59, 3) := by decide +kernel
theorem d_L_resume_5 : decode c_L_resume 5 = .ok (.goto 9, 3) := by decide +kernel
theorem d_L_resume_8 : decode c_L_resume 8 = .ok (.astore_n 2, 1) := by decide +kernel
theorem d_L_resume_9 : decode c_L_resume 9 = .ok (.iconst 1, 1) := by decide +kernel
theorem d_L_resume_10 : decode c_L_resume 10 = .ok (.ireturn, 1) := by decide +kernel
theorem d_L_resume_11 : decode c_L_resume 11 = .ok (.astore_n 2, 1) := by decide +kernel
theorem d_L_resume_12 : decode c_L_resume 12 = .ok (.iconst 2, 1) := by decide +kernel
theorem d_L_resume_13 : decode c_L_resume 13 = .ok (.ireturn, 1) := by decide +kernel
theorem d_L_resume_14 : decode c_L_resume 14 = .ok (.iconst 0, 1) := by decide +kernel
theorem d_L_resume_15 : decode c_L_resume 15 = .ok (.ireturn, 1) := by decide +kernel
abbrev c_L_stop : ByteArray := method_17_code
abbrev y_L_stop : MethodName := { cls := "ContainerHostLaw", name := "stop", desc := "(LContainerHost;I[J)I" }
abbrev k_L_stop : Cond := .codeWith y_L_stop c_L_stop 4 (Option.some FieldType.int) [(0, 9, 12, 13), (0, 9, 15, 15)]
abbrev M_L_stop : xMeth := ("ContainerHostLaw", c_L_stop, 4, (Option.some FieldType.int), "stop", [(0, 9, 12, 13), (0, 9, 15, 15)], ({ frames := 8, cells := 2, slots := 12, locals := 135 } : Room))
theorem e_L_stop : k_L_stop ∈ lw_tbl := mt (i := 629) (by decide +kernel)
theorem d_L_stop_0 : decode c_L_stop 0 = .ok (.aload_n 2, 1) := by decide +kernel
theorem d_L_stop_1 : decode c_L_stop 1 = .ok (.iconst 0, 1) := by decide +kernel
theorem d_L_stop_2 : decode c_L_stop 2 = .ok (.aload_n 0, 1) := by decide +kernel
theorem d_L_stop_3 : decode c_L_stop 3 = .ok (.iload_n 1, 1) := by decide +kernel
theorem d_L_stop_4 : decode c_L_stop 4 = .ok (.invokevirtual 62, 3) := by decide +kernel
theorem d_L_stop_7 : decode c_L_stop 7 = .ok (.i2l, 1) := by decide +kernel
theorem d_L_stop_8 : decode c_L_stop 8 = .ok (.lastore, 1) := by decide +kernel
theorem d_L_stop_9 : decode c_L_stop 9 = .ok (.goto 9, 3) := by decide +kernel
theorem d_L_stop_12 : decode c_L_stop 12 = .ok (.astore_n 3, 1) := by decide +kernel
theorem d_L_stop_13 : decode c_L_stop 13 = .ok (.iconst 1, 1) := by decide +kernel
theorem d_L_stop_14 : decode c_L_stop 14 = .ok (.ireturn, 1) := by decide +kernel
theorem d_L_stop_15 : decode c_L_stop 15 = .ok (.astore_n 3, 1) := by decide +kernel
theorem d_L_stop_16 : decode c_L_stop 16 = .ok (.iconst 2, 1) := by decide +kernel
theorem d_L_stop_17 : decode c_L_stop 17 = .ok (.ireturn, 1) := by decide +kernel
theorem d_L_stop_18 : decode c_L_stop 18 = .ok (.iconst 0, 1) := by decide +kernel
theorem d_L_stop_19 : decode c_L_stop 19 = .ok (.ireturn, 1) := by decide +kernel
abbrev c_L_allocate : ByteArray := method_18_code
abbrev y_L_allocate : MethodName := { cls := "ContainerHostLaw", name := "allocate", desc := "(LContainerHost;II[J)I" }
abbrev k_L_allocate : Cond := .codeWith y_L_allocate c_L_allocate 5 (Option.some FieldType.int) [(0, 10, 13, 13), (0, 10, 17, 21), (0, 10, 21, 15)]
abbrev M_L_allocate : xMeth := ("ContainerHostLaw", c_L_allocate, 5, (Option.some FieldType.int), "allocate", [(0, 10, 13, 13), (0, 10, 17, 21), (0, 10, 21, 15)], ({ frames := 8, cells := 3, slots := 18, locals := 137 } : Room))
theorem e_L_allocate : k_L_allocate ∈ lw_tbl := mt (i := 645) (by decide +kernel)
theorem d_L_allocate_0 : decode c_L_allocate 0 = .ok (.aload_n 3, 1) := by decide +kernel
theorem d_L_allocate_1 : decode c_L_allocate 1 = .ok (.iconst 0, 1) := by decide +kernel
theorem d_L_allocate_2 : decode c_L_allocate 2 = .ok (.aload_n 0, 1) := by decide +kernel
theorem d_L_allocate_3 : decode c_L_allocate 3 = .ok (.iload_n 1, 1) := by decide +kernel
theorem d_L_allocate_4 : decode c_L_allocate 4 = .ok (.iload_n 2, 1) := by decide +kernel
theorem d_L_allocate_5 : decode c_L_allocate 5 = .ok (.invokevirtual 65, 3) := by decide +kernel
theorem d_L_allocate_8 : decode c_L_allocate 8 = .ok (.i2l, 1) := by decide +kernel
theorem d_L_allocate_9 : decode c_L_allocate 9 = .ok (.lastore, 1) := by decide +kernel
theorem d_L_allocate_10 : decode c_L_allocate 10 = .ok (.goto 15, 3) := by decide +kernel
theorem d_L_allocate_13 : decode c_L_allocate 13 = .ok (.astore 4, 2) := by decide +kernel
theorem d_L_allocate_15 : decode c_L_allocate 15 = .ok (.iconst 1, 1) := by decide +kernel
theorem d_L_allocate_16 : decode c_L_allocate 16 = .ok (.ireturn, 1) := by decide +kernel
theorem d_L_allocate_17 : decode c_L_allocate 17 = .ok (.astore 4, 2) := by decide +kernel
theorem d_L_allocate_19 : decode c_L_allocate 19 = .ok (.iconst 2, 1) := by decide +kernel
theorem d_L_allocate_20 : decode c_L_allocate 20 = .ok (.ireturn, 1) := by decide +kernel
theorem d_L_allocate_21 : decode c_L_allocate 21 = .ok (.astore 4, 2) := by decide +kernel
theorem d_L_allocate_23 : decode c_L_allocate 23 = .ok (.iconst 3, 1) := by decide +kernel
theorem d_L_allocate_24 : decode c_L_allocate 24 = .ok (.ireturn, 1) := by decide +kernel
theorem d_L_allocate_25 : decode c_L_allocate 25 = .ok (.iconst 0, 1) := by decide +kernel
theorem d_L_allocate_26 : decode c_L_allocate 26 = .ok (.ireturn, 1) := by decide +kernel
abbrev c_L_free : ByteArray := method_19_code
abbrev y_L_free : MethodName := { cls := "ContainerHostLaw", name := "free", desc := "(LContainerHost;II[J)I" }
abbrev k_L_free : Cond := .codeWith y_L_free c_L_free 5 (Option.some FieldType.int) [(0, 10, 13, 13), (0, 10, 17, 21), (0, 10, 21, 15)]
abbrev M_L_free : xMeth := ("ContainerHostLaw", c_L_free, 5, (Option.some FieldType.int), "free", [(0, 10, 13, 13), (0, 10, 17, 21), (0, 10, 21, 15)], ({ frames := 8, cells := 4, slots := 24, locals := 136 } : Room))
theorem e_L_free : k_L_free ∈ lw_tbl := mt (i := 668) (by decide +kernel)
theorem d_L_free_0 : decode c_L_free 0 = .ok (.aload_n 3, 1) := by decide +kernel
theorem d_L_free_1 : decode c_L_free 1 = .ok (.iconst 0, 1) := by decide +kernel
theorem d_L_free_2 : decode c_L_free 2 = .ok (.aload_n 0, 1) := by decide +kernel
theorem d_L_free_3 : decode c_L_free 3 = .ok (.iload_n 1, 1) := by decide +kernel
theorem d_L_free_4 : decode c_L_free 4 = .ok (.iload_n 2, 1) := by decide +kernel
theorem d_L_free_5 : decode c_L_free 5 = .ok (.invokevirtual 68, 3) := by decide +kernel
theorem d_L_free_8 : decode c_L_free 8 = .ok (.i2l, 1) := by decide +kernel
theorem d_L_free_9 : decode c_L_free 9 = .ok (.lastore, 1) := by decide +kernel
theorem d_L_free_10 : decode c_L_free 10 = .ok (.goto 15, 3) := by decide +kernel
theorem d_L_free_13 : decode c_L_free 13 = .ok (.astore 4, 2) := by decide +kernel
theorem d_L_free_15 : decode c_L_free 15 = .ok (.iconst 1, 1) := by decide +kernel
theorem d_L_free_16 : decode c_L_free 16 = .ok (.ireturn, 1) := by decide +kernel
theorem d_L_free_17 : decode c_L_free 17 = .ok (.astore 4, 2) := by decide +kernel
theorem d_L_free_19 : decode c_L_free 19 = .ok (.iconst 2, 1) := by decide +kernel
theorem d_L_free_20 : decode c_L_free 20 = .ok (.ireturn, 1) := by decide +kernel
theorem d_L_free_21 : decode c_L_free 21 = .ok (.astore 4, 2) := by decide +kernel
theorem d_L_free_23 : decode c_L_free 23 = .ok (.iconst 3, 1) := by decide +kernel
theorem d_L_free_24 : decode c_L_free 24 = .ok (.ireturn, 1) := by decide +kernel
theorem d_L_free_25 : decode c_L_free 25 = .ok (.iconst 0, 1) := by decide +kernel
theorem d_L_free_26 : decode c_L_free 26 = .ok (.ireturn, 1) := by decide +kernel
abbrev c_L_fork : ByteArray := method_20_code
abbrev y_L_fork : MethodName := { cls := "ContainerHostLaw", name := "fork", desc := "(LContainerHost;I[J)I" }
abbrev k_L_fork : Cond := .codeWith y_L_fork c_L_fork 4 (Option.some FieldType.int) [(0, 9, 12, 13), (0, 9, 15, 15)]
abbrev M_L_fork : xMeth := ("ContainerHostLaw", c_L_fork, 4, (Option.some FieldType.int), "fork", [(0, 9, 12, 13), (0, 9, 15, 15)], ({ frames := 9, cells := 3, slots := 18, locals := 157 } : Room))
theorem e_L_fork : k_L_fork ∈ lw_tbl := mt (i := 676) (by decide +kernel)
theorem d_L_fork_0 : decode c_L_fork 0 = .ok (.aload_n 2, 1) := by decide +kernel
theorem d_L_fork_1 : decode c_L_fork 1 = .ok (.iconst 0, 1) := by decide +kernel
theorem d_L_fork_2 : decode c_L_fork 2 = .ok (.aload_n 0, 1) := by decide +kernel
theorem d_L_fork_3 : decode c_L_fork 3 = .ok (.iload_n 1, 1) := by decide +kernel
theorem d_L_fork_4 : decode c_L_fork 4 = .ok (.invokevirtual 71, 3) := by decide +kernel
theorem d_L_fork_7 : decode c_L_fork 7 = .ok (.i2l, 1) := by decide +kernel
theorem d_L_fork_8 : decode c_L_fork 8 = .ok (.lastore, 1) := by decide +kernel
theorem d_L_fork_9 : decode c_L_fork 9 = .ok (.goto 9, 3) := by decide +kernel
theorem d_L_fork_12 : decode c_L_fork 12 = .ok (.astore_n 3, 1) := by decide +kernel
theorem d_L_fork_13 : decode c_L_fork 13 = .ok (.iconst 1, 1) := by decide +kernel
theorem d_L_fork_14 : decode c_L_fork 14 = .ok (.ireturn, 1) := by decide +kernel
theorem d_L_fork_15 : decode c_L_fork 15 = .ok (.astore_n 3, 1) := by decide +kernel
theorem d_L_fork_16 : decode c_L_fork 16 = .ok (.iconst 2, 1) := by decide +kernel
theorem d_L_fork_17 : decode c_L_fork 17 = .ok (.ireturn, 1) := by decide +kernel
theorem d_L_fork_18 : decode c_L_fork 18 = .ok (.iconst 0, 1) := by decide +kernel
theorem d_L_fork_19 : decode c_L_fork 19 = .ok (.ireturn, 1) := by decide +kernel
abbrev c_L_exit : ByteArray := method_21_code
abbrev y_L_exit : MethodName := { cls := "ContainerHostLaw", name := "exit", desc := "(LContainerHost;I[J)I" }
abbrev k_L_exit : Cond := .codeWith y_L_exit c_L_exit 4 (Option.some FieldType.int) [(0, 9, 12, 13), (0, 9, 15, 15)]
abbrev M_L_exit : xMeth := ("ContainerHostLaw", c_L_exit, 4, (Option.some FieldType.int), "exit", [(0, 9, 12, 13), (0, 9, 15, 15)], ({ frames := 9, cells := 2, slots := 12, locals := 157 } : Room))
theorem e_L_exit : k_L_exit ∈ lw_tbl := mt (i := 683) (by decide +kernel)
theorem d_L_exit_0 : decode c_L_exit 0 = .ok (.aload_n 2, 1) := by decide +kernel
theorem d_L_exit_1 : decode c_L_exit 1 = .ok (.iconst 0, 1) := by decide +kernel
theorem d_L_exit_2 : decode c_L_exit 2 = .ok (.aload_n 0, 1) := by decide +kernel
theorem d_L_exit_3 : decode c_L_exit 3 = .ok (.iload_n 1, 1) := by decide +kernel
theorem d_L_exit_4 : decode c_L_exit 4 = .ok (.invokevirtual 74, 3) := by decide +kernel
theorem d_L_exit_7 : decode c_L_exit 7 = .ok (.i2l, 1) := by decide +kernel
theorem d_L_exit_8 : decode c_L_exit 8 = .ok (.lastore, 1) := by decide +kernel
theorem d_L_exit_9 : decode c_L_exit 9 = .ok (.goto 9, 3) := by decide +kernel
theorem d_L_exit_12 : decode c_L_exit 12 = .ok (.astore_n 3, 1) := by decide +kernel
theorem d_L_exit_13 : decode c_L_exit 13 = .ok (.iconst 1, 1) := by decide +kernel
theorem d_L_exit_14 : decode c_L_exit 14 = .ok (.ireturn, 1) := by decide +kernel
theorem d_L_exit_15 : decode c_L_exit 15 = .ok (.astore_n 3, 1) := by decide +kernel
theorem d_L_exit_16 : decode c_L_exit 16 = .ok (.iconst 2, 1) := by decide +kernel
theorem d_L_exit_17 : decode c_L_exit 17 = .ok (.ireturn, 1) := by decide +kernel
theorem d_L_exit_18 : decode c_L_exit 18 = .ok (.iconst 0, 1) := by decide +kernel
theorem d_L_exit_19 : decode c_L_exit 19 = .ok (.ireturn, 1) := by decide +kernel
abbrev c_L_schedule : ByteArray := method_22_code
abbrev y_L_schedule : MethodName := { cls := "ContainerHostLaw", name := "schedule", desc := "(LContainerHost;I[J)I" }
abbrev k_L_schedule : Cond := .codeWith y_L_schedule c_L_schedule 4 (Option.some FieldType.int) [(0, 9, 12, 21)]
abbrev M_L_schedule : xMeth := ("ContainerHostLaw", c_L_schedule, 4, (Option.some FieldType.int), "schedule", [(0, 9, 12, 21)], ({ frames := 11, cells := 226, slots := 7404, locals := 265 } : Room))
theorem e_L_schedule : k_L_schedule ∈ lw_tbl := mt (i := 690) (by decide +kernel)
theorem d_L_schedule_0 : decode c_L_schedule 0 = .ok (.aload_n 2, 1) := by decide +kernel
theorem d_L_schedule_1 : decode c_L_schedule 1 = .ok (.iconst 0, 1) := by decide +kernel
theorem d_L_schedule_2 : decode c_L_schedule 2 = .ok (.aload_n 0, 1) := by decide +kernel
theorem d_L_schedule_3 : decode c_L_schedule 3 = .ok (.iload_n 1, 1) := by decide +kernel
theorem d_L_schedule_4 : decode c_L_schedule 4 = .ok (.invokevirtual 77, 3) := by decide +kernel
theorem d_L_schedule_7 : decode c_L_schedule 7 = .ok (.i2l, 1) := by decide +kernel
theorem d_L_schedule_8 : decode c_L_schedule 8 = .ok (.lastore, 1) := by decide +kernel
theorem d_L_schedule_9 : decode c_L_schedule 9 = .ok (.goto 6, 3) := by decide +kernel
theorem d_L_schedule_12 : decode c_L_schedule 12 = .ok (.astore_n 3, 1) := by decide +kernel
theorem d_L_schedule_13 : decode c_L_schedule 13 = .ok (.iconst 1, 1) := by decide +kernel
theorem d_L_schedule_14 : decode c_L_schedule 14 = .ok (.ireturn, 1) := by decide +kernel
theorem d_L_schedule_15 : decode c_L_schedule 15 = .ok (.iconst 0, 1) := by decide +kernel
theorem d_L_schedule_16 : decode c_L_schedule 16 = .ok (.ireturn, 1) := by decide +kernel
abbrev c_L_writeFile : ByteArray := method_23_code
abbrev y_L_writeFile : MethodName := { cls := "ContainerHostLaw", name := "writeFile", desc := "(LContainerHost;III[J)I" }
abbrev k_L_writeFile : Cond := .codeWith y_L_writeFile c_L_writeFile 6 (Option.some FieldType.int) [(0, 12, 15, 13), (0, 12, 19, 21), (0, 12, 23, 15)]
abbrev M_L_writeFile : xMeth := ("ContainerHostLaw", c_L_writeFile, 6, (Option.some FieldType.int), "writeFile", [(0, 12, 15, 13), (0, 12, 19, 21), (0, 12, 23, 15)], ({ frames := 9, cells := 5, slots := 30, locals := 159 } : Room))
theorem e_L_writeFile : k_L_writeFile ∈ lw_tbl := mt (i := 731) (by decide +kernel)
theorem d_L_writeFile_0 : decode c_L_writeFile 0 = .ok (.aload 4, 2) := by decide +kernel
theorem d_L_writeFile_2 : decode c_L_writeFile 2 = .ok (.iconst 0, 1) := by decide +kernel
theorem d_L_writeFile_3 : decode c_L_writeFile 3 = .ok (.aload_n 0, 1) := by decide +kernel
theorem d_L_writeFile_4 : decode c_L_writeFile 4 = .ok (.iload_n 1, 1) := by decide +kernel
theorem d_L_writeFile_5 : decode c_L_writeFile 5 = .ok (.iload_n 2, 1) := by decide +kernel
theorem d_L_writeFile_6 : decode c_L_writeFile 6 = .ok (.iload_n 3, 1) := by decide +kernel
theorem d_L_writeFile_7 : decode c_L_writeFile 7 = .ok (.invokevirtual 80, 3) := by decide +kernel
theorem d_L_writeFile_10 : decode c_L_writeFile 10 = .ok (.i2l, 1) := by decide +kernel
theorem d_L_writeFile_11 : decode c_L_writeFile 11 = .ok (.lastore, 1) := by decide +kernel
theorem d_L_writeFile_12 : decode c_L_writeFile 12 = .ok (.goto 15, 3) := by decide +kernel
theorem d_L_writeFile_15 : decode c_L_writeFile 15 = .ok (.astore 5, 2) := by decide +kernel
theorem d_L_writeFile_17 : decode c_L_writeFile 17 = .ok (.iconst 1, 1) := by decide +kernel
theorem d_L_writeFile_18 : decode c_L_writeFile 18 = .ok (.ireturn, 1) := by decide +kernel
theorem d_L_writeFile_19 : decode c_L_writeFile 19 = .ok (.astore 5, 2) := by decide +kernel
theorem d_L_writeFile_21 : decode c_L_writeFile 21 = .ok (.iconst 2, 1) := by decide +kernel
theorem d_L_writeFile_22 : decode c_L_writeFile 22 = .ok (.ireturn, 1) := by decide +kernel
theorem d_L_writeFile_23 : decode c_L_writeFile 23 = .ok (.astore 5, 2) := by decide +kernel
theorem d_L_writeFile_25 : decode c_L_writeFile 25 = .ok (.iconst 3, 1) := by decide +kernel
theorem d_L_writeFile_26 : decode c_L_writeFile 26 = .ok (.ireturn, 1) := by decide +kernel
theorem d_L_writeFile_27 : decode c_L_writeFile 27 = .ok (.iconst 0, 1) := by decide +kernel
theorem d_L_writeFile_28 : decode c_L_writeFile 28 = .ok (.ireturn, 1) := by decide +kernel
abbrev c_L_removeFile : ByteArray := method_24_code
abbrev y_L_removeFile : MethodName := { cls := "ContainerHostLaw", name := "removeFile", desc := "(LContainerHost;II[J)I" }
abbrev k_L_removeFile : Cond := .codeWith y_L_removeFile c_L_removeFile 5 (Option.some FieldType.int) [(0, 10, 13, 13), (0, 10, 17, 15)]
abbrev M_L_removeFile : xMeth := ("ContainerHostLaw", c_L_removeFile, 5, (Option.some FieldType.int), "removeFile", [(0, 10, 13, 13), (0, 10, 17, 15)], ({ frames := 9, cells := 5, slots := 30, locals := 157 } : Room))
theorem e_L_removeFile : k_L_removeFile ∈ lw_tbl := mt (i := 745) (by decide +kernel)
theorem d_L_removeFile_0 : decode c_L_removeFile 0 = .ok (.aload_n 3, 1) := by decide +kernel
theorem d_L_removeFile_1 : decode c_L_removeFile 1 = .ok (.iconst 0, 1) := by decide +kernel
theorem d_L_removeFile_2 : decode c_L_removeFile 2 = .ok (.aload_n 0, 1) := by decide +kernel
theorem d_L_removeFile_3 : decode c_L_removeFile 3 = .ok (.iload_n 1, 1) := by decide +kernel
theorem d_L_removeFile_4 : decode c_L_removeFile 4 = .ok (.iload_n 2, 1) := by decide +kernel
theorem d_L_removeFile_5 : decode c_L_removeFile 5 = .ok (.invokevirtual 83, 3) := by decide +kernel
theorem d_L_removeFile_8 : decode c_L_removeFile 8 = .ok (.i2l, 1) := by decide +kernel
theorem d_L_removeFile_9 : decode c_L_removeFile 9 = .ok (.lastore, 1) := by decide +kernel
theorem d_L_removeFile_10 : decode c_L_removeFile 10 = .ok (.goto 11, 3) := by decide +kernel
theorem d_L_removeFile_13 : decode c_L_removeFile 13 = .ok (.astore 4, 2) := by decide +kernel
theorem d_L_removeFile_15 : decode c_L_removeFile 15 = .ok (.iconst 1, 1) := by decide +kernel
theorem d_L_removeFile_16 : decode c_L_removeFile 16 = .ok (.ireturn, 1) := by decide +kernel
theorem d_L_removeFile_17 : decode c_L_removeFile 17 = .ok (.astore 4, 2) := by decide +kernel
theorem d_L_removeFile_19 : decode c_L_removeFile 19 = .ok (.iconst 2, 1) := by decide +kernel
theorem d_L_removeFile_20 : decode c_L_removeFile 20 = .ok (.ireturn, 1) := by decide +kernel
theorem d_L_removeFile_21 : decode c_L_removeFile 21 = .ok (.iconst 0, 1) := by decide +kernel
theorem d_L_removeFile_22 : decode c_L_removeFile 22 = .ok (.ireturn, 1) := by decide +kernel
abbrev c_L_fileOf : ByteArray := method_25_code
abbrev y_L_fileOf : MethodName := { cls := "ContainerHostLaw", name := "fileOf", desc := "(LContainerHost;II[J)I" }
abbrev k_L_fileOf : Cond := .codeWith y_L_fileOf c_L_fileOf 5 (Option.some FieldType.int) [(0, 10, 13, 13)]
abbrev M_L_fileOf : xMeth := ("ContainerHostLaw", c_L_fileOf, 5, (Option.some FieldType.int), "fileOf", [(0, 10, 13, 13)], ({ frames := 8, cells := 2, slots := 12, locals := 136 } : Room))
theorem e_L_fileOf : k_L_fileOf ∈ lw_tbl := mt (i := 752) (by decide +kernel)
theorem d_L_fileOf_0 : decode c_L_fileOf 0 = .ok (.aload_n 3, 1) := by decide +kernel
theorem d_L_fileOf_1 : decode c_L_fileOf 1 = .ok (.iconst 0, 1) := by decide +kernel
theorem d_L_fileOf_2 : decode c_L_fileOf 2 = .ok (.aload_n 0, 1) := by decide +kernel
theorem d_L_fileOf_3 : decode c_L_fileOf 3 = .ok (.iload_n 1, 1) := by decide +kernel
theorem d_L_fileOf_4 : decode c_L_fileOf 4 = .ok (.iload_n 2, 1) := by decide +kernel
theorem d_L_fileOf_5 : decode c_L_fileOf 5 = .ok (.invokevirtual 86, 3) := by decide +kernel
theorem d_L_fileOf_8 : decode c_L_fileOf 8 = .ok (.i2l, 1) := by decide +kernel
theorem d_L_fileOf_9 : decode c_L_fileOf 9 = .ok (.lastore, 1) := by decide +kernel
theorem d_L_fileOf_10 : decode c_L_fileOf 10 = .ok (.goto 7, 3) := by decide +kernel
theorem d_L_fileOf_13 : decode c_L_fileOf 13 = .ok (.astore 4, 2) := by decide +kernel
theorem d_L_fileOf_15 : decode c_L_fileOf 15 = .ok (.iconst 1, 1) := by decide +kernel
theorem d_L_fileOf_16 : decode c_L_fileOf 16 = .ok (.ireturn, 1) := by decide +kernel
theorem d_L_fileOf_17 : decode c_L_fileOf 17 = .ok (.iconst 0, 1) := by decide +kernel
theorem d_L_fileOf_18 : decode c_L_fileOf 18 = .ok (.ireturn, 1) := by decide +kernel
abbrev c_L_plainFileOf : ByteArray := method_26_code
abbrev y_L_plainFileOf : MethodName := { cls := "ContainerHostLaw", name := "plainFileOf", desc := "(LContainerHost;II[J)I" }
abbrev k_L_plainFileOf : Cond := .codeWith y_L_plainFileOf c_L_plainFileOf 5 (Option.some FieldType.int) [(0, 10, 13, 13)]
abbrev M_L_plainFileOf : xMeth := ("ContainerHostLaw", c_L_plainFileOf, 5, (Option.some FieldType.int), "plainFileOf", [(0, 10, 13, 13)], ({ frames := 8, cells := 2, slots := 12, locals := 136 } : Room))
theorem e_L_plainFileOf : k_L_plainFileOf ∈ lw_tbl := mt (i := 759) (by decide +kernel)
theorem d_L_plainFileOf_0 : decode c_L_plainFileOf 0 = .ok (.aload_n 3, 1) := by decide +kernel
theorem d_L_plainFileOf_1 : decode c_L_plainFileOf 1 = .ok (.iconst 0, 1) := by decide +kernel
theorem d_L_plainFileOf_2 : decode c_L_plainFileOf 2 = .ok (.aload_n 0, 1) := by decide +kernel
theorem d_L_plainFileOf_3 : decode c_L_plainFileOf 3 = .ok (.iload_n 1, 1) := by decide +kernel
theorem d_L_plainFileOf_4 : decode c_L_plainFileOf 4 = .ok (.iload_n 2, 1) := by decide +kernel
theorem d_L_plainFileOf_5 : decode c_L_plainFileOf 5 = .ok (.invokevirtual 89, 3) := by decide +kernel
theorem d_L_plainFileOf_8 : decode c_L_plainFileOf 8 = .ok (.i2l, 1) := by decide +kernel
theorem d_L_plainFileOf_9 : decode c_L_plainFileOf 9 = .ok (.lastore, 1) := by decide +kernel
theorem d_L_plainFileOf_10 : decode c_L_plainFileOf 10 = .ok (.goto 7, 3) := by decide +kernel
theorem d_L_plainFileOf_13 : decode c_L_plainFileOf 13 = .ok (.astore 4, 2) := by decide +kernel
theorem d_L_plainFileOf_15 : decode c_L_plainFileOf 15 = .ok (.iconst 1, 1) := by decide +kernel
theorem d_L_plainFileOf_16 : decode c_L_plainFileOf 16 = .ok (.ireturn, 1) := by decide +kernel
theorem d_L_plainFileOf_17 : decode c_L_plainFileOf 17 = .ok (.iconst 0, 1) := by decide +kernel
theorem d_L_plainFileOf_18 : decode c_L_plainFileOf 18 = .ok (.ireturn, 1) := by decide +kernel
abbrev c_L_raise : ByteArray := method_27_code
abbrev y_L_raise : MethodName := { cls := "ContainerHostLaw", name := "raise", desc := "(LContainerHost;II[J)I" }
abbrev k_L_raise : Cond := .codeWith y_L_raise c_L_raise 5 (Option.some FieldType.int) [(0, 10, 13, 13), (0, 10, 17, 15)]
abbrev M_L_raise : xMeth := ("ContainerHostLaw", c_L_raise, 5, (Option.some FieldType.int), "raise", [(0, 10, 13, 13), (0, 10, 17, 15)], ({ frames := 8, cells := 4, slots := 24, locals := 137 } : Room))
theorem e_L_raise : k_L_raise ∈ lw_tbl := mt (i := 771) (by decide +kernel)
theorem d_L_raise_0 : decode c_L_raise 0 = .ok (.aload_n 3, 1) := by decide +kernel
theorem d_L_raise_1 : decode c_L_raise 1 = .ok (.iconst 0, 1) := by decide +kernel
theorem d_L_raise_2 : decode c_L_raise 2 = .ok (.aload_n 0, 1) := by decide +kernel
theorem d_L_raise_3 : decode c_L_raise 3 = .ok (.iload_n 1, 1) := by decide +kernel
theorem d_L_raise_4 : decode c_L_raise 4 = .ok (.iload_n 2, 1) := by decide +kernel
theorem d_L_raise_5 : decode c_L_raise 5 = .ok (.invokevirtual 92, 3) := by decide +kernel
theorem d_L_raise_8 : decode c_L_raise 8 = .ok (.i2l, 1) := by decide +kernel
theorem d_L_raise_9 : decode c_L_raise 9 = .ok (.lastore, 1) := by decide +kernel
theorem d_L_raise_10 : decode c_L_raise 10 = .ok (.goto 11, 3) := by decide +kernel
theorem d_L_raise_13 : decode c_L_raise 13 = .ok (.astore 4, 2) := by decide +kernel
theorem d_L_raise_15 : decode c_L_raise 15 = .ok (.iconst 1, 1) := by decide +kernel
theorem d_L_raise_16 : decode c_L_raise 16 = .ok (.ireturn, 1) := by decide +kernel
theorem d_L_raise_17 : decode c_L_raise 17 = .ok (.astore 4, 2) := by decide +kernel
theorem d_L_raise_19 : decode c_L_raise 19 = .ok (.iconst 2, 1) := by decide +kernel
theorem d_L_raise_20 : decode c_L_raise 20 = .ok (.ireturn, 1) := by decide +kernel
theorem d_L_raise_21 : decode c_L_raise 21 = .ok (.iconst 0, 1) := by decide +kernel
theorem d_L_raise_22 : decode c_L_raise 22 = .ok (.ireturn, 1) := by decide +kernel
abbrev c_L_lower : ByteArray := method_28_code
abbrev y_L_lower : MethodName := { cls := "ContainerHostLaw", name := "lower", desc := "(LContainerHost;II[J)I" }
abbrev k_L_lower : Cond := .codeWith y_L_lower c_L_lower 5 (Option.some FieldType.int) [(0, 10, 13, 13), (0, 10, 17, 15)]
abbrev M_L_lower : xMeth := ("ContainerHostLaw", c_L_lower, 5, (Option.some FieldType.int), "lower", [(0, 10, 13, 13), (0, 10, 17, 15)], ({ frames := 8, cells := 3, slots := 18, locals := 136 } : Room))
theorem e_L_lower : k_L_lower ∈ lw_tbl := mt (i := 783) (by decide +kernel)
theorem d_L_lower_0 : decode c_L_lower 0 = .ok (.aload_n 3, 1) := by decide +kernel
theorem d_L_lower_1 : decode c_L_lower 1 = .ok (.iconst 0, 1) := by decide +kernel
theorem d_L_lower_2 : decode c_L_lower 2 = .ok (.aload_n 0, 1) := by decide +kernel
theorem d_L_lower_3 : decode c_L_lower 3 = .ok (.iload_n 1, 1) := by decide +kernel
theorem d_L_lower_4 : decode c_L_lower 4 = .ok (.iload_n 2, 1) := by decide +kernel
theorem d_L_lower_5 : decode c_L_lower 5 = .ok (.invokevirtual 95, 3) := by decide +kernel
theorem d_L_lower_8 : decode c_L_lower 8 = .ok (.i2l, 1) := by decide +kernel
theorem d_L_lower_9 : decode c_L_lower 9 = .ok (.lastore, 1) := by decide +kernel
theorem d_L_lower_10 : decode c_L_lower 10 = .ok (.goto 11, 3) := by decide +kernel
theorem d_L_lower_13 : decode c_L_lower 13 = .ok (.astore 4, 2) := by decide +kernel
theorem d_L_lower_15 : decode c_L_lower 15 = .ok (.iconst 1, 1) := by decide +kernel
theorem d_L_lower_16 : decode c_L_lower 16 = .ok (.ireturn, 1) := by decide +kernel
theorem d_L_lower_17 : decode c_L_lower 17 = .ok (.astore 4, 2) := by decide +kernel
theorem d_L_lower_19 : decode c_L_lower 19 = .ok (.iconst 2, 1) := by decide +kernel
theorem d_L_lower_20 : decode c_L_lower 20 = .ok (.ireturn, 1) := by decide +kernel
theorem d_L_lower_21 : decode c_L_lower 21 = .ok (.iconst 0, 1) := by decide +kernel
theorem d_L_lower_22 : decode c_L_lower 22 = .ok (.ireturn, 1) := by decide +kernel
abbrev c_L_drop : ByteArray := method_29_code
abbrev y_L_drop : MethodName := { cls := "ContainerHostLaw", name := "drop", desc := "(LContainerHost;II[J)I" }
abbrev k_L_drop : Cond := .codeWith y_L_drop c_L_drop 5 (Option.some FieldType.int) [(0, 10, 13, 13), (0, 10, 17, 15)]
abbrev M_L_drop : xMeth := ("ContainerHostLaw", c_L_drop, 5, (Option.some FieldType.int), "drop", [(0, 10, 13, 13), (0, 10, 17, 15)], ({ frames := 8, cells := 3, slots := 18, locals := 136 } : Room))
theorem e_L_drop : k_L_drop ∈ lw_tbl := mt (i := 790) (by decide +kernel)
theorem d_L_drop_0 : decode c_L_drop 0 = .ok (.aload_n 3, 1) := by decide +kernel
theorem d_L_drop_1 : decode c_L_drop 1 = .ok (.iconst 0, 1) := by decide +kernel
theorem d_L_drop_2 : decode c_L_drop 2 = .ok (.aload_n 0, 1) := by decide +kernel
theorem d_L_drop_3 : decode c_L_drop 3 = .ok (.iload_n 1, 1) := by decide +kernel
theorem d_L_drop_4 : decode c_L_drop 4 = .ok (.iload_n 2, 1) := by decide +kernel
theorem d_L_drop_5 : decode c_L_drop 5 = .ok (.invokevirtual 98, 3) := by decide +kernel
theorem d_L_drop_8 : decode c_L_drop 8 = .ok (.i2l, 1) := by decide +kernel
theorem d_L_drop_9 : decode c_L_drop 9 = .ok (.lastore, 1) := by decide +kernel
theorem d_L_drop_10 : decode c_L_drop 10 = .ok (.goto 11, 3) := by decide +kernel
theorem d_L_drop_13 : decode c_L_drop 13 = .ok (.astore 4, 2) := by decide +kernel
theorem d_L_drop_15 : decode c_L_drop 15 = .ok (.iconst 1, 1) := by decide +kernel
theorem d_L_drop_16 : decode c_L_drop 16 = .ok (.ireturn, 1) := by decide +kernel
theorem d_L_drop_17 : decode c_L_drop 17 = .ok (.astore 4, 2) := by decide +kernel
theorem d_L_drop_19 : decode c_L_drop 19 = .ok (.iconst 2, 1) := by decide +kernel
theorem d_L_drop_20 : decode c_L_drop 20 = .ok (.ireturn, 1) := by decide +kernel
theorem d_L_drop_21 : decode c_L_drop 21 = .ok (.iconst 0, 1) := by decide +kernel
theorem d_L_drop_22 : decode c_L_drop 22 = .ok (.ireturn, 1) := by decide +kernel
abbrev c_L_kill : ByteArray := method_30_code
abbrev y_L_kill : MethodName := { cls := "ContainerHostLaw", name := "kill", desc := "(LContainerHost;II[J)I" }
abbrev k_L_kill : Cond := .codeWith y_L_kill c_L_kill 5 (Option.some FieldType.int) [(0, 10, 13, 13), (0, 10, 17, 15)]
abbrev M_L_kill : xMeth := ("ContainerHostLaw", c_L_kill, 5, (Option.some FieldType.int), "kill", [(0, 10, 13, 13), (0, 10, 17, 15)], ({ frames := 8, cells := 6, slots := 36, locals := 137 } : Room))
theorem e_L_kill : k_L_kill ∈ lw_tbl := mt (i := 797) (by decide +kernel)
theorem d_L_kill_0 : decode c_L_kill 0 = .ok (.aload_n 3, 1) := by decide +kernel
theorem d_L_kill_1 : decode c_L_kill 1 = .ok (.iconst 0, 1) := by decide +kernel
theorem d_L_kill_2 : decode c_L_kill 2 = .ok (.aload_n 0, 1) := by decide +kernel
theorem d_L_kill_3 : decode c_L_kill 3 = .ok (.iload_n 1, 1) := by decide +kernel
theorem d_L_kill_4 : decode c_L_kill 4 = .ok (.iload_n 2, 1) := by decide +kernel
theorem d_L_kill_5 : decode c_L_kill 5 = .ok (.invokevirtual 101, 3) := by decide +kernel
theorem d_L_kill_8 : decode c_L_kill 8 = .ok (.i2l, 1) := by decide +kernel
theorem d_L_kill_9 : decode c_L_kill 9 = .ok (.lastore, 1) := by decide +kernel
theorem d_L_kill_10 : decode c_L_kill 10 = .ok (.goto 11, 3) := by decide +kernel
theorem d_L_kill_13 : decode c_L_kill 13 = .ok (.astore 4, 2) := by decide +kernel
theorem d_L_kill_15 : decode c_L_kill 15 = .ok (.iconst 1, 1) := by decide +kernel
theorem d_L_kill_16 : decode c_L_kill 16 = .ok (.ireturn, 1) := by decide +kernel
theorem d_L_kill_17 : decode c_L_kill 17 = .ok (.astore 4, 2) := by decide +kernel
theorem d_L_kill_19 : decode c_L_kill 19 = .ok (.iconst 2, 1) := by decide +kernel
theorem d_L_kill_20 : decode c_L_kill 20 = .ok (.ireturn, 1) := by decide +kernel
theorem d_L_kill_21 : decode c_L_kill 21 = .ok (.iconst 0, 1) := by decide +kernel
theorem d_L_kill_22 : decode c_L_kill 22 = .ok (.ireturn, 1) := by decide +kernel
abbrev c_L_attach : ByteArray := method_31_code
abbrev y_L_attach : MethodName := { cls := "ContainerHostLaw", name := "attach", desc := "(LContainerHost;II[J)I" }
abbrev k_L_attach : Cond := .codeWith y_L_attach c_L_attach 5 (Option.some FieldType.int) [(0, 10, 13, 13), (0, 10, 17, 15)]
abbrev M_L_attach : xMeth := ("ContainerHostLaw", c_L_attach, 5, (Option.some FieldType.int), "attach", [(0, 10, 13, 13), (0, 10, 17, 15)], ({ frames := 8, cells := 5, slots := 30, locals := 137 } : Room))
theorem e_L_attach : k_L_attach ∈ lw_tbl := mt (i := 806) (by decide +kernel)
theorem d_L_attach_0 : decode c_L_attach 0 = .ok (.aload_n 3, 1) := by decide +kernel
theorem d_L_attach_1 : decode c_L_attach 1 = .ok (.iconst 0, 1) := by decide +kernel
theorem d_L_attach_2 : decode c_L_attach 2 = .ok (.aload_n 0, 1) := by decide +kernel
theorem d_L_attach_3 : decode c_L_attach 3 = .ok (.iload_n 1, 1) := by decide +kernel
theorem d_L_attach_4 : decode c_L_attach 4 = .ok (.iload_n 2, 1) := by decide +kernel
theorem d_L_attach_5 : decode c_L_attach 5 = .ok (.invokevirtual 104, 3) := by decide +kernel
theorem d_L_attach_8 : decode c_L_attach 8 = .ok (.i2l, 1) := by decide +kernel
theorem d_L_attach_9 : decode c_L_attach 9 = .ok (.lastore, 1) := by decide +kernel
theorem d_L_attach_10 : decode c_L_attach 10 = .ok (.goto 11, 3) := by decide +kernel
theorem d_L_attach_13 : decode c_L_attach 13 = .ok (.astore 4, 2) := by decide +kernel
theorem d_L_attach_15 : decode c_L_attach 15 = .ok (.iconst 1, 1) := by decide +kernel
theorem d_L_attach_16 : decode c_L_attach 16 = .ok (.ireturn, 1) := by decide +kernel
theorem d_L_attach_17 : decode c_L_attach 17 = .ok (.astore 4, 2) := by decide +kernel
theorem d_L_attach_19 : decode c_L_attach 19 = .ok (.iconst 2, 1) := by decide +kernel
theorem d_L_attach_20 : decode c_L_attach 20 = .ok (.ireturn, 1) := by decide +kernel
theorem d_L_attach_21 : decode c_L_attach 21 = .ok (.iconst 0, 1) := by decide +kernel
theorem d_L_attach_22 : decode c_L_attach 22 = .ok (.ireturn, 1) := by decide +kernel
abbrev c_L_detach : ByteArray := method_32_code
abbrev y_L_detach : MethodName := { cls := "ContainerHostLaw", name := "detach", desc := "(LContainerHost;I[J)I" }
abbrev k_L_detach : Cond := .codeWith y_L_detach c_L_detach 4 (Option.some FieldType.int) [(0, 9, 12, 13), (0, 9, 15, 15)]
abbrev M_L_detach : xMeth := ("ContainerHostLaw", c_L_detach, 4, (Option.some FieldType.int), "detach", [(0, 9, 12, 13), (0, 9, 15, 15)], ({ frames := 9, cells := 3, slots := 18, locals := 158 } : Room))
theorem e_L_detach : k_L_detach ∈ lw_tbl := mt (i := 823) (by decide +kernel)
theorem d_L_detach_0 : decode c_L_detach 0 = .ok (.aload_n 2, 1) := by decide +kernel
theorem d_L_detach_1 : decode c_L_detach 1 = .ok (.iconst 0, 1) := by decide +kernel
theorem d_L_detach_2 : decode c_L_detach 2 = .ok (.aload_n 0, 1) := by decide +kernel
theorem d_L_detach_3 : decode c_L_detach 3 = .ok (.iload_n 1, 1) := by decide +kernel
theorem d_L_detach_4 : decode c_L_detach 4 = .ok (.invokevirtual 107, 3) := by decide +kernel
theorem d_L_detach_7 : decode c_L_detach 7 = .ok (.i2l, 1) := by decide +kernel
theorem d_L_detach_8 : decode c_L_detach 8 = .ok (.lastore, 1) := by decide +kernel
theorem d_L_detach_9 : decode c_L_detach 9 = .ok (.goto 9, 3) := by decide +kernel
theorem d_L_detach_12 : decode c_L_detach 12 = .ok (.astore_n 3, 1) := by decide +kernel
theorem d_L_detach_13 : decode c_L_detach 13 = .ok (.iconst 1, 1) := by decide +kernel
theorem d_L_detach_14 : decode c_L_detach 14 = .ok (.ireturn, 1) := by decide +kernel
theorem d_L_detach_15 : decode c_L_detach 15 = .ok (.astore_n 3, 1) := by decide +kernel
theorem d_L_detach_16 : decode c_L_detach 16 = .ok (.iconst 2, 1) := by decide +kernel
theorem d_L_detach_17 : decode c_L_detach 17 = .ok (.ireturn, 1) := by decide +kernel
theorem d_L_detach_18 : decode c_L_detach 18 = .ok (.iconst 0, 1) := by decide +kernel
theorem d_L_detach_19 : decode c_L_detach 19 = .ok (.ireturn, 1) := by decide +kernel
abbrev c_L_listen : ByteArray := method_33_code
abbrev y_L_listen : MethodName := { cls := "ContainerHostLaw", name := "listen", desc := "(LContainerHost;II[J)I" }
abbrev k_L_listen : Cond := .codeWith y_L_listen c_L_listen 5 (Option.some FieldType.int) [(0, 10, 13, 13), (0, 10, 17, 15)]
abbrev M_L_listen : xMeth := ("ContainerHostLaw", c_L_listen, 5, (Option.some FieldType.int), "listen", [(0, 10, 13, 13), (0, 10, 17, 15)], ({ frames := 8, cells := 5, slots := 30, locals := 136 } : Room))
theorem e_L_listen : k_L_listen ∈ lw_tbl := mt (i := 834) (by decide +kernel)
theorem d_L_listen_0 : decode c_L_listen 0 = .ok (.aload_n 3, 1) := by decide +kernel
theorem d_L_listen_1 : decode c_L_listen 1 = .ok (.iconst 0, 1) := by decide +kernel
theorem d_L_listen_2 : decode c_L_listen 2 = .ok (.aload_n 0, 1) := by decide +kernel
theorem d_L_listen_3 : decode c_L_listen 3 = .ok (.iload_n 1, 1) := by decide +kernel
theorem d_L_listen_4 : decode c_L_listen 4 = .ok (.iload_n 2, 1) := by decide +kernel
theorem d_L_listen_5 : decode c_L_listen 5 = .ok (.invokevirtual 110, 3) := by decide +kernel
theorem d_L_listen_8 : decode c_L_listen 8 = .ok (.i2l, 1) := by decide +kernel
theorem d_L_listen_9 : decode c_L_listen 9 = .ok (.lastore, 1) := by decide +kernel
theorem d_L_listen_10 : decode c_L_listen 10 = .ok (.goto 11, 3) := by decide +kernel
theorem d_L_listen_13 : decode c_L_listen 13 = .ok (.astore 4, 2) := by decide +kernel
theorem d_L_listen_15 : decode c_L_listen 15 = .ok (.iconst 1, 1) := by decide +kernel
theorem d_L_listen_16 : decode c_L_listen 16 = .ok (.ireturn, 1) := by decide +kernel
theorem d_L_listen_17 : decode c_L_listen 17 = .ok (.astore 4, 2) := by decide +kernel
theorem d_L_listen_19 : decode c_L_listen 19 = .ok (.iconst 2, 1) := by decide +kernel
theorem d_L_listen_20 : decode c_L_listen 20 = .ok (.ireturn, 1) := by decide +kernel
theorem d_L_listen_21 : decode c_L_listen 21 = .ok (.iconst 0, 1) := by decide +kernel
theorem d_L_listen_22 : decode c_L_listen 22 = .ok (.ireturn, 1) := by decide +kernel
abbrev c_L_publish : ByteArray := method_34_code
abbrev y_L_publish : MethodName := { cls := "ContainerHostLaw", name := "publish", desc := "(LContainerHost;III[J)I" }
abbrev k_L_publish : Cond := .codeWith y_L_publish c_L_publish 6 (Option.some FieldType.int) [(0, 12, 15, 13), (0, 12, 19, 15)]
abbrev M_L_publish : xMeth := ("ContainerHostLaw", c_L_publish, 6, (Option.some FieldType.int), "publish", [(0, 12, 15, 13), (0, 12, 19, 15)], ({ frames := 8, cells := 5, slots := 30, locals := 137 } : Room))
theorem e_L_publish : k_L_publish ∈ lw_tbl := mt (i := 851) (by decide +kernel)
theorem d_L_publish_0 : decode c_L_publish 0 = .ok (.aload 4, 2) := by decide +kernel
theorem d_L_publish_2 : decode c_L_publish 2 = .ok (.iconst 0, 1) := by decide +kernel
theorem d_L_publish_3 : decode c_L_publish 3 = .ok (.aload_n 0, 1) := by decide +kernel
theorem d_L_publish_4 : decode c_L_publish 4 = .ok (.iload_n 1, 1) := by decide +kernel
theorem d_L_publish_5 : decode c_L_publish 5 = .ok (.iload_n 2, 1) := by decide +kernel
theorem d_L_publish_6 : decode c_L_publish 6 = .ok (.iload_n 3, 1) := by decide +kernel
theorem d_L_publish_7 : decode c_L_publish 7 = .ok (.invokevirtual 113, 3) := by decide +kernel
theorem d_L_publish_10 : decode c_L_publish 10 = .ok (.i2l, 1) := by decide +kernel
theorem d_L_publish_11 : decode c_L_publish 11 = .ok (.lastore, 1) := by decide +kernel
theorem d_L_publish_12 : decode c_L_publish 12 = .ok (.goto 11, 3) := by decide +kernel
theorem d_L_publish_15 : decode c_L_publish 15 = .ok (.astore 5, 2) := by decide +kernel
theorem d_L_publish_17 : decode c_L_publish 17 = .ok (.iconst 1, 1) := by decide +kernel
theorem d_L_publish_18 : decode c_L_publish 18 = .ok (.ireturn, 1) := by decide +kernel
theorem d_L_publish_19 : decode c_L_publish 19 = .ok (.astore 5, 2) := by decide +kernel
theorem d_L_publish_21 : decode c_L_publish 21 = .ok (.iconst 2, 1) := by decide +kernel
theorem d_L_publish_22 : decode c_L_publish 22 = .ok (.ireturn, 1) := by decide +kernel
theorem d_L_publish_23 : decode c_L_publish 23 = .ok (.iconst 0, 1) := by decide +kernel
theorem d_L_publish_24 : decode c_L_publish 24 = .ok (.ireturn, 1) := by decide +kernel
abbrev c_L_connect : ByteArray := method_35_code
abbrev y_L_connect : MethodName := { cls := "ContainerHostLaw", name := "connect", desc := "(LContainerHost;III[J)I" }
abbrev k_L_connect : Cond := .codeWith y_L_connect c_L_connect 6 (Option.some FieldType.int) [(0, 12, 15, 13), (0, 12, 19, 21), (0, 12, 23, 15)]
abbrev M_L_connect : xMeth := ("ContainerHostLaw", c_L_connect, 6, (Option.some FieldType.int), "connect", [(0, 12, 15, 13), (0, 12, 19, 21), (0, 12, 23, 15)], ({ frames := 8, cells := 5, slots := 30, locals := 138 } : Room))
theorem e_L_connect : k_L_connect ∈ lw_tbl := mt (i := 868) (by decide +kernel)
theorem d_L_connect_0 : decode c_L_connect 0 = .ok (.aload 4, 2) := by decide +kernel
theorem d_L_connect_2 : decode c_L_connect 2 = .ok (.iconst 0, 1) := by decide +kernel
theorem d_L_connect_3 : decode c_L_connect 3 = .ok (.aload_n 0, 1) := by decide +kernel
theorem d_L_connect_4 : decode c_L_connect 4 = .ok (.iload_n 1, 1) := by decide +kernel
theorem d_L_connect_5 : decode c_L_connect 5 = .ok (.iload_n 2, 1) := by decide +kernel
theorem d_L_connect_6 : decode c_L_connect 6 = .ok (.iload_n 3, 1) := by decide +kernel
theorem d_L_connect_7 : decode c_L_connect 7 = .ok (.invokevirtual 116, 3) := by decide +kernel
theorem d_L_connect_10 : decode c_L_connect 10 = .ok (.i2l, 1) := by decide +kernel
theorem d_L_connect_11 : decode c_L_connect 11 = .ok (.lastore, 1) := by decide +kernel
theorem d_L_connect_12 : decode c_L_connect 12 = .ok (.goto 15, 3) := by decide +kernel
theorem d_L_connect_15 : decode c_L_connect 15 = .ok (.astore 5, 2) := by decide +kernel
theorem d_L_connect_17 : decode c_L_connect 17 = .ok (.iconst 1, 1) := by decide +kernel
theorem d_L_connect_18 : decode c_L_connect 18 = .ok (.ireturn, 1) := by decide +kernel
theorem d_L_connect_19 : decode c_L_connect 19 = .ok (.astore 5, 2) := by decide +kernel
theorem d_L_connect_21 : decode c_L_connect 21 = .ok (.iconst 2, 1) := by decide +kernel
theorem d_L_connect_22 : decode c_L_connect 22 = .ok (.ireturn, 1) := by decide +kernel
theorem d_L_connect_23 : decode c_L_connect 23 = .ok (.astore 5, 2) := by decide +kernel
theorem d_L_connect_25 : decode c_L_connect 25 = .ok (.iconst 3, 1) := by decide +kernel
theorem d_L_connect_26 : decode c_L_connect 26 = .ok (.ireturn, 1) := by decide +kernel
theorem d_L_connect_27 : decode c_L_connect 27 = .ok (.iconst 0, 1) := by decide +kernel
theorem d_L_connect_28 : decode c_L_connect 28 = .ok (.ireturn, 1) := by decide +kernel
abbrev c_L_connectHost : ByteArray := method_36_code
abbrev y_L_connectHost : MethodName := { cls := "ContainerHostLaw", name := "connectHost", desc := "(LContainerHost;I[J)I" }
abbrev k_L_connectHost : Cond := .codeWith y_L_connectHost c_L_connectHost 4 (Option.some FieldType.int) [(0, 9, 12, 13)]
abbrev M_L_connectHost : xMeth := ("ContainerHostLaw", c_L_connectHost, 4, (Option.some FieldType.int), "connectHost", [(0, 9, 12, 13)], ({ frames := 8, cells := 1, slots := 6, locals := 134 } : Room))
theorem e_L_connectHost : k_L_connectHost ∈ lw_tbl := mt (i := 875) (by decide +kernel)
theorem d_L_connectHost_0 : decode c_L_connectHost 0 = .ok (.aload_n 2, 1) := by decide +kernel
theorem d_L_connectHost_1 : decode c_L_connectHost 1 = .ok (.iconst 0, 1) := by decide +kernel
theorem d_L_connectHost_2 : decode c_L_connectHost 2 = .ok (.aload_n 0, 1) := by decide +kernel
theorem d_L_connectHost_3 : decode c_L_connectHost 3 = .ok (.iload_n 1, 1) := by decide +kernel
theorem d_L_connectHost_4 : decode c_L_connectHost 4 = .ok (.invokevirtual 119, 3) := by decide +kernel
theorem d_L_connectHost_7 : decode c_L_connectHost 7 = .ok (.i2l, 1) := by decide +kernel
theorem d_L_connectHost_8 : decode c_L_connectHost 8 = .ok (.lastore, 1) := by decide +kernel
theorem d_L_connectHost_9 : decode c_L_connectHost 9 = .ok (.goto 6, 3) := by decide +kernel
theorem d_L_connectHost_12 : decode c_L_connectHost 12 = .ok (.astore_n 3, 1) := by decide +kernel
theorem d_L_connectHost_13 : decode c_L_connectHost 13 = .ok (.iconst 1, 1) := by decide +kernel
theorem d_L_connectHost_14 : decode c_L_connectHost 14 = .ok (.ireturn, 1) := by decide +kernel
theorem d_L_connectHost_15 : decode c_L_connectHost 15 = .ok (.iconst 0, 1) := by decide +kernel
theorem d_L_connectHost_16 : decode c_L_connectHost 16 = .ok (.ireturn, 1) := by decide +kernel
abbrev c_L_save : ByteArray := method_37_code
abbrev y_L_save : MethodName := { cls := "ContainerHostLaw", name := "save", desc := "(LContainerHost;I[J)I" }
abbrev k_L_save : Cond := .codeWith y_L_save c_L_save 4 (Option.some FieldType.int) [(0, 9, 12, 13), (0, 9, 15, 15)]
abbrev M_L_save : xMeth := ("ContainerHostLaw", c_L_save, 4, (Option.some FieldType.int), "save", [(0, 9, 12, 13), (0, 9, 15, 15)], ({ frames := 9, cells := 7, slots := 102, locals := 213 } : Room))
theorem e_L_save : k_L_save ∈ lw_tbl := mt (i := 882) (by decide +kernel)
theorem d_L_save_0 : decode c_L_save 0 = .ok (.aload_n 2, 1) := by decide +kernel
theorem d_L_save_1 : decode c_L_save 1 = .ok (.iconst 0, 1) := by decide +kernel
theorem d_L_save_2 : decode c_L_save 2 = .ok (.aload_n 0, 1) := by decide +kernel
theorem d_L_save_3 : decode c_L_save 3 = .ok (.iload_n 1, 1) := by decide +kernel
theorem d_L_save_4 : decode c_L_save 4 = .ok (.invokevirtual 122, 3) := by decide +kernel
theorem d_L_save_7 : decode c_L_save 7 = .ok (.i2l, 1) := by decide +kernel
theorem d_L_save_8 : decode c_L_save 8 = .ok (.lastore, 1) := by decide +kernel
theorem d_L_save_9 : decode c_L_save 9 = .ok (.goto 9, 3) := by decide +kernel
theorem d_L_save_12 : decode c_L_save 12 = .ok (.astore_n 3, 1) := by decide +kernel
theorem d_L_save_13 : decode c_L_save 13 = .ok (.iconst 1, 1) := by decide +kernel
theorem d_L_save_14 : decode c_L_save 14 = .ok (.ireturn, 1) := by decide +kernel
theorem d_L_save_15 : decode c_L_save 15 = .ok (.astore_n 3, 1) := by decide +kernel
theorem d_L_save_16 : decode c_L_save 16 = .ok (.iconst 2, 1) := by decide +kernel
theorem d_L_save_17 : decode c_L_save 17 = .ok (.ireturn, 1) := by decide +kernel
theorem d_L_save_18 : decode c_L_save 18 = .ok (.iconst 0, 1) := by decide +kernel
theorem d_L_save_19 : decode c_L_save 19 = .ok (.ireturn, 1) := by decide +kernel
abbrev c_L_restore : ByteArray := method_38_code
abbrev y_L_restore : MethodName := { cls := "ContainerHostLaw", name := "restore", desc := "(LContainerHost;II[J)I" }
abbrev k_L_restore : Cond := .codeWith y_L_restore c_L_restore 5 (Option.some FieldType.int) [(0, 10, 13, 13), (0, 10, 17, 15)]
abbrev M_L_restore : xMeth := ("ContainerHostLaw", c_L_restore, 5, (Option.some FieldType.int), "restore", [(0, 10, 13, 13), (0, 10, 17, 15)], ({ frames := 10, cells := 8, slots := 114, locals := 240 } : Room))
theorem e_L_restore : k_L_restore ∈ lw_tbl := mt (i := 926) (by decide +kernel)
theorem d_L_restore_0 : decode c_L_restore 0 = .ok (.aload_n 3, 1) := by decide +kernel
theorem d_L_restore_1 : decode c_L_restore 1 = .ok (.iconst 0, 1) := by decide +kernel
theorem d_L_restore_2 : decode c_L_restore 2 = .ok (.aload_n 0, 1) := by decide +kernel
theorem d_L_restore_3 : decode c_L_restore 3 = .ok (.iload_n 1, 1) := by decide +kernel
theorem d_L_restore_4 : decode c_L_restore 4 = .ok (.iload_n 2, 1) := by decide +kernel
theorem d_L_restore_5 : decode c_L_restore 5 = .ok (.invokevirtual 125, 3) := by decide +kernel
theorem d_L_restore_8 : decode c_L_restore 8 = .ok (.i2l, 1) := by decide +kernel
theorem d_L_restore_9 : decode c_L_restore 9 = .ok (.lastore, 1) := by decide +kernel
theorem d_L_restore_10 : decode c_L_restore 10 = .ok (.goto 11, 3) := by decide +kernel
theorem d_L_restore_13 : decode c_L_restore 13 = .ok (.astore 4, 2) := by decide +kernel
theorem d_L_restore_15 : decode c_L_restore 15 = .ok (.iconst 1, 1) := by decide +kernel
theorem d_L_restore_16 : decode c_L_restore 16 = .ok (.ireturn, 1) := by decide +kernel
theorem d_L_restore_17 : decode c_L_restore 17 = .ok (.astore 4, 2) := by decide +kernel
theorem d_L_restore_19 : decode c_L_restore 19 = .ok (.iconst 2, 1) := by decide +kernel
theorem d_L_restore_20 : decode c_L_restore 20 = .ok (.ireturn, 1) := by decide +kernel
theorem d_L_restore_21 : decode c_L_restore 21 = .ok (.iconst 0, 1) := by decide +kernel
theorem d_L_restore_22 : decode c_L_restore 22 = .ok (.ireturn, 1) := by decide +kernel
abbrev c_L_stateOf : ByteArray := method_39_code
abbrev y_L_stateOf : MethodName := { cls := "ContainerHostLaw", name := "stateOf", desc := "(LContainerHost;I[J)I" }
abbrev k_L_stateOf : Cond := .codeWith y_L_stateOf c_L_stateOf 4 (Option.some FieldType.int) [(0, 9, 12, 13)]
abbrev M_L_stateOf : xMeth := ("ContainerHostLaw", c_L_stateOf, 4, (Option.some FieldType.int), "stateOf", [(0, 9, 12, 13)], ({ frames := 8, cells := 1, slots := 6, locals := 134 } : Room))
theorem e_L_stateOf : k_L_stateOf ∈ lw_tbl := mt (i := 934) (by decide +kernel)
theorem d_L_stateOf_0 : decode c_L_stateOf 0 = .ok (.aload_n 2, 1) := by decide +kernel
theorem d_L_stateOf_1 : decode c_L_stateOf 1 = .ok (.iconst 0, 1) := by decide +kernel
theorem d_L_stateOf_2 : decode c_L_stateOf 2 = .ok (.aload_n 0, 1) := by decide +kernel
theorem d_L_stateOf_3 : decode c_L_stateOf 3 = .ok (.iload_n 1, 1) := by decide +kernel
theorem d_L_stateOf_4 : decode c_L_stateOf 4 = .ok (.invokevirtual 128, 3) := by decide +kernel
theorem d_L_stateOf_7 : decode c_L_stateOf 7 = .ok (.i2l, 1) := by decide +kernel
theorem d_L_stateOf_8 : decode c_L_stateOf 8 = .ok (.lastore, 1) := by decide +kernel
theorem d_L_stateOf_9 : decode c_L_stateOf 9 = .ok (.goto 6, 3) := by decide +kernel
theorem d_L_stateOf_12 : decode c_L_stateOf 12 = .ok (.astore_n 3, 1) := by decide +kernel
theorem d_L_stateOf_13 : decode c_L_stateOf 13 = .ok (.iconst 1, 1) := by decide +kernel
theorem d_L_stateOf_14 : decode c_L_stateOf 14 = .ok (.ireturn, 1) := by decide +kernel
theorem d_L_stateOf_15 : decode c_L_stateOf 15 = .ok (.iconst 0, 1) := by decide +kernel
theorem d_L_stateOf_16 : decode c_L_stateOf 16 = .ok (.ireturn, 1) := by decide +kernel
abbrev c_L_memoryOf : ByteArray := method_40_code
abbrev y_L_memoryOf : MethodName := { cls := "ContainerHostLaw", name := "memoryOf", desc := "(LContainerHost;I[J)I" }
abbrev k_L_memoryOf : Cond := .codeWith y_L_memoryOf c_L_memoryOf 4 (Option.some FieldType.int) [(0, 9, 12, 13)]
abbrev M_L_memoryOf : xMeth := ("ContainerHostLaw", c_L_memoryOf, 4, (Option.some FieldType.int), "memoryOf", [(0, 9, 12, 13)], ({ frames := 8, cells := 1, slots := 6, locals := 134 } : Room))
theorem e_L_memoryOf : k_L_memoryOf ∈ lw_tbl := mt (i := 941) (by decide +kernel)
theorem d_L_memoryOf_0 : decode c_L_memoryOf 0 = .ok (.aload_n 2, 1) := by decide +kernel
theorem d_L_memoryOf_1 : decode c_L_memoryOf 1 = .ok (.iconst 0, 1) := by decide +kernel
theorem d_L_memoryOf_2 : decode c_L_memoryOf 2 = .ok (.aload_n 0, 1) := by decide +kernel
theorem d_L_memoryOf_3 : decode c_L_memoryOf 3 = .ok (.iload_n 1, 1) := by decide +kernel
theorem d_L_memoryOf_4 : decode c_L_memoryOf 4 = .ok (.invokevirtual 131, 3) := by decide +kernel
theorem d_L_memoryOf_7 : decode c_L_memoryOf 7 = .ok (.i2l, 1) := by decide +kernel
theorem d_L_memoryOf_8 : decode c_L_memoryOf 8 = .ok (.lastore, 1) := by decide +kernel
theorem d_L_memoryOf_9 : decode c_L_memoryOf 9 = .ok (.goto 6, 3) := by decide +kernel
theorem d_L_memoryOf_12 : decode c_L_memoryOf 12 = .ok (.astore_n 3, 1) := by decide +kernel
theorem d_L_memoryOf_13 : decode c_L_memoryOf 13 = .ok (.iconst 1, 1) := by decide +kernel
theorem d_L_memoryOf_14 : decode c_L_memoryOf 14 = .ok (.ireturn, 1) := by decide +kernel
theorem d_L_memoryOf_15 : decode c_L_memoryOf 15 = .ok (.iconst 0, 1) := by decide +kernel
theorem d_L_memoryOf_16 : decode c_L_memoryOf 16 = .ok (.ireturn, 1) := by decide +kernel
abbrev c_L_timeOf : ByteArray := method_41_code
abbrev y_L_timeOf : MethodName := { cls := "ContainerHostLaw", name := "timeOf", desc := "(LContainerHost;I[J)I" }
abbrev k_L_timeOf : Cond := .codeWith y_L_timeOf c_L_timeOf 4 (Option.some FieldType.int) [(0, 9, 12, 13)]
abbrev M_L_timeOf : xMeth := ("ContainerHostLaw", c_L_timeOf, 4, (Option.some FieldType.int), "timeOf", [(0, 9, 12, 13)], ({ frames := 8, cells := 1, slots := 6, locals := 134 } : Room))
theorem e_L_timeOf : k_L_timeOf ∈ lw_tbl := mt (i := 948) (by decide +kernel)
theorem d_L_timeOf_0 : decode c_L_timeOf 0 = .ok (.aload_n 2, 1) := by decide +kernel
theorem d_L_timeOf_1 : decode c_L_timeOf 1 = .ok (.iconst 0, 1) := by decide +kernel
theorem d_L_timeOf_2 : decode c_L_timeOf 2 = .ok (.aload_n 0, 1) := by decide +kernel
theorem d_L_timeOf_3 : decode c_L_timeOf 3 = .ok (.iload_n 1, 1) := by decide +kernel
theorem d_L_timeOf_4 : decode c_L_timeOf 4 = .ok (.invokevirtual 134, 3) := by decide +kernel
theorem d_L_timeOf_7 : decode c_L_timeOf 7 = .ok (.i2l, 1) := by decide +kernel
theorem d_L_timeOf_8 : decode c_L_timeOf 8 = .ok (.lastore, 1) := by decide +kernel
theorem d_L_timeOf_9 : decode c_L_timeOf 9 = .ok (.goto 6, 3) := by decide +kernel
theorem d_L_timeOf_12 : decode c_L_timeOf 12 = .ok (.astore_n 3, 1) := by decide +kernel
theorem d_L_timeOf_13 : decode c_L_timeOf 13 = .ok (.iconst 1, 1) := by decide +kernel
theorem d_L_timeOf_14 : decode c_L_timeOf 14 = .ok (.ireturn, 1) := by decide +kernel
theorem d_L_timeOf_15 : decode c_L_timeOf 15 = .ok (.iconst 0, 1) := by decide +kernel
theorem d_L_timeOf_16 : decode c_L_timeOf 16 = .ok (.ireturn, 1) := by decide +kernel
abbrev c_L_capabilitiesOf : ByteArray := method_42_code
abbrev y_L_capabilitiesOf : MethodName := { cls := "ContainerHostLaw", name := "capabilitiesOf", desc := "(LContainerHost;I[J)I" }
abbrev k_L_capabilitiesOf : Cond := .codeWith y_L_capabilitiesOf c_L_capabilitiesOf 4 (Option.some FieldType.int) [(0, 9, 12, 13)]
abbrev M_L_capabilitiesOf : xMeth := ("ContainerHostLaw", c_L_capabilitiesOf, 4, (Option.some FieldType.int), "capabilitiesOf", [(0, 9, 12, 13)], ({ frames := 8, cells := 1, slots := 6, locals := 135 } : Room))
theorem e_L_capabilitiesOf : k_L_capabilitiesOf ∈ lw_tbl := mt (i := 955) (by decide +kernel)
theorem d_L_capabilitiesOf_0 : decode c_L_capabilitiesOf 0 = .ok (.aload_n 2, 1) := by decide +kernel
theorem d_L_capabilitiesOf_1 : decode c_L_capabilitiesOf 1 = .ok (.iconst 0, 1) := by decide +kernel
theorem d_L_capabilitiesOf_2 : decode c_L_capabilitiesOf 2 = .ok (.aload_n 0, 1) := by decide +kernel
theorem d_L_capabilitiesOf_3 : decode c_L_capabilitiesOf 3 = .ok (.iload_n 1, 1) := by decide +kernel
theorem d_L_capabilitiesOf_4 : decode c_L_capabilitiesOf 4 = .ok (.invokevirtual 137, 3) := by decide +kernel
theorem d_L_capabilitiesOf_7 : decode c_L_capabilitiesOf 7 = .ok (.i2l, 1) := by decide +kernel
theorem d_L_capabilitiesOf_8 : decode c_L_capabilitiesOf 8 = .ok (.lastore, 1) := by decide +kernel
theorem d_L_capabilitiesOf_9 : decode c_L_capabilitiesOf 9 = .ok (.goto 6, 3) := by decide +kernel
theorem d_L_capabilitiesOf_12 : decode c_L_capabilitiesOf 12 = .ok (.astore_n 3, 1) := by decide +kernel
theorem d_L_capabilitiesOf_13 : decode c_L_capabilitiesOf 13 = .ok (.iconst 1, 1) := by decide +kernel
theorem d_L_capabilitiesOf_14 : decode c_L_capabilitiesOf 14 = .ok (.ireturn, 1) := by decide +kernel
theorem d_L_capabilitiesOf_15 : decode c_L_capabilitiesOf 15 = .ok (.iconst 0, 1) := by decide +kernel
theorem d_L_capabilitiesOf_16 : decode c_L_capabilitiesOf 16 = .ok (.ireturn, 1) := by decide +kernel
abbrev c_L_addressOf : ByteArray := method_43_code
abbrev y_L_addressOf : MethodName := { cls := "ContainerHostLaw", name := "addressOf", desc := "(LContainerHost;I[J)I" }
abbrev k_L_addressOf : Cond := .codeWith y_L_addressOf c_L_addressOf 4 (Option.some FieldType.int) [(0, 9, 12, 13)]
abbrev M_L_addressOf : xMeth := ("ContainerHostLaw", c_L_addressOf, 4, (Option.some FieldType.int), "addressOf", [(0, 9, 12, 13)], ({ frames := 8, cells := 1, slots := 6, locals := 135 } : Room))
theorem e_L_addressOf : k_L_addressOf ∈ lw_tbl := mt (i := 962) (by decide +kernel)
theorem d_L_addressOf_0 : decode c_L_addressOf 0 = .ok (.aload_n 2, 1) := by decide +kernel
theorem d_L_addressOf_1 : decode c_L_addressOf 1 = .ok (.iconst 0, 1) := by decide +kernel
theorem d_L_addressOf_2 : decode c_L_addressOf 2 = .ok (.aload_n 0, 1) := by decide +kernel
theorem d_L_addressOf_3 : decode c_L_addressOf 3 = .ok (.iload_n 1, 1) := by decide +kernel
theorem d_L_addressOf_4 : decode c_L_addressOf 4 = .ok (.invokevirtual 140, 3) := by decide +kernel
theorem d_L_addressOf_7 : decode c_L_addressOf 7 = .ok (.i2l, 1) := by decide +kernel
theorem d_L_addressOf_8 : decode c_L_addressOf 8 = .ok (.lastore, 1) := by decide +kernel
theorem d_L_addressOf_9 : decode c_L_addressOf 9 = .ok (.goto 6, 3) := by decide +kernel
theorem d_L_addressOf_12 : decode c_L_addressOf 12 = .ok (.astore_n 3, 1) := by decide +kernel
theorem d_L_addressOf_13 : decode c_L_addressOf 13 = .ok (.iconst 1, 1) := by decide +kernel
theorem d_L_addressOf_14 : decode c_L_addressOf 14 = .ok (.ireturn, 1) := by decide +kernel
theorem d_L_addressOf_15 : decode c_L_addressOf 15 = .ok (.iconst 0, 1) := by decide +kernel
theorem d_L_addressOf_16 : decode c_L_addressOf 16 = .ok (.ireturn, 1) := by decide +kernel
theorem q_L_newImage_7 : callOk M_L_newImage M_h_newImage y_h_newImage k_h_newImage 7 1 := ⟨rfl, e_h_newImage, w199, w1, by decide, by decide +kernel, by decide, by decide⟩
theorem q_L_write_17 : callOk M_L_write M_h_write y_h_write k_h_write 17 3 := ⟨rfl, e_h_write, w357, w1, by decide, by decide +kernel, by decide, by decide⟩
theorem q_L_remove_23 : callOk M_L_remove M_h_remove y_h_remove k_h_remove 23 2 := ⟨rfl, e_h_remove, w403, w1, by decide, by decide +kernel, by decide, by decide⟩
theorem q_L_clear_27 : callOk M_L_clear M_h_clear y_h_clear k_h_clear 27 2 := ⟨rfl, e_h_clear, w414, w1, by decide, by decide +kernel, by decide, by decide⟩
theorem q_L_seal_30 : callOk M_L_seal M_h_seal y_h_seal k_h_seal 30 1 := ⟨rfl, e_h_seal, w431, w1, by decide, by decide +kernel, by decide, by decide⟩
theorem q_L_shown_33 : callOk M_L_shown M_h_shown y_h_shown k_h_shown 33 2 := ⟨rfl, e_h_shown, w438, w1, by decide, by decide +kernel, by decide, by decide⟩
theorem q_L_entries_36 : callOk M_L_entries M_h_entries y_h_entries k_h_entries 36 2 := ⟨rfl, e_h_entries, w445, w1, by decide, by decide +kernel, by decide, by decide⟩
theorem q_L_commit_39 : callOk M_L_commit M_h_commit y_h_commit k_h_commit 39 1 := ⟨rfl, e_h_commit, w467, w1, by decide, by decide +kernel, by decide, by decide⟩
theorem q_L_newGroup_42 : callOk M_L_newGroup M_h_newGroup y_h_newGroup k_h_newGroup 42 4 := ⟨rfl, e_h_newGroup, w487, w1, by decide, by decide +kernel, by decide, by decide⟩
theorem q_L_groupMemory_46 : callOk M_L_groupMemory M_h_groupMemory y_h_groupMemory k_h_groupMemory 46 1 := ⟨rfl, e_h_groupMemory, w500, w1, by decide, by decide +kernel, by decide, by decide⟩
theorem q_L_groupProcesses_49 : callOk M_L_groupProcesses M_h_groupProcesses y_h_groupProcesses k_h_groupProcesses 49 1 := ⟨rfl, e_h_groupProcesses, w507, w1, by decide, by decide +kernel, by decide, by decide⟩
theorem q_L_run_52 : callOk M_L_run M_h_run y_h_run k_h_run 52 4 := ⟨rfl, e_h_run, w514, w1, by decide, by decide +kernel, by decide, by decide⟩
theorem q_L_pause_55 : callOk M_L_pause M_h_pause y_h_pause k_h_pause 55 1 := ⟨rfl, e_h_pause, w603, w1, by decide, by decide +kernel, by decide, by decide⟩
theorem q_L_resume_59 : callOk M_L_resume M_h_resume y_h_resume k_h_resume 59 1 := ⟨rfl, e_h_resume, w618, w1, by decide, by decide +kernel, by decide, by decide⟩
theorem q_L_stop_62 : callOk M_L_stop M_h_stop y_h_stop k_h_stop 62 1 := ⟨rfl, e_h_stop, w630, w1, by decide, by decide +kernel, by decide, by decide⟩
theorem q_L_allocate_65 : callOk M_L_allocate M_h_allocate y_h_allocate k_h_allocate 65 2 := ⟨rfl, e_h_allocate, w646, w1, by decide, by decide +kernel, by decide, by decide⟩
theorem q_L_free_68 : callOk M_L_free M_h_free y_h_free k_h_free 68 2 := ⟨rfl, e_h_free, w669, w1, by decide, by decide +kernel, by decide, by decide⟩
theorem q_L_fork_71 : callOk M_L_fork M_h_fork y_h_fork k_h_fork 71 1 := ⟨rfl, e_h_fork, w677, w1, by decide, by decide +kernel, by decide, by decide⟩
theorem q_L_exit_74 : callOk M_L_exit M_h_exit y_h_exit k_h_exit 74 1 := ⟨rfl, e_h_exit, w684, w1, by decide, by decide +kernel, by decide, by decide⟩
theorem q_L_schedule_77 : callOk M_L_schedule M_h_schedule y_h_schedule k_h_schedule 77 1 := ⟨rfl, e_h_schedule, w691, w1, by decide, by decide +kernel, by decide, by decide⟩
theorem q_L_writeFile_80 : callOk M_L_writeFile M_h_writeFile y_h_writeFile k_h_writeFile 80 3 := ⟨rfl, e_h_writeFile, w732, w1, by decide, by decide +kernel, by decide, by decide⟩
theorem q_L_removeFile_83 : callOk M_L_removeFile M_h_removeFile y_h_removeFile k_h_removeFile 83 2 := ⟨rfl, e_h_removeFile, w746, w1, by decide, by decide +kernel, by decide, by decide⟩
theorem q_L_fileOf_86 : callOk M_L_fileOf M_h_fileOf y_h_fileOf k_h_fileOf 86 2 := ⟨rfl, e_h_fileOf, w753, w1, by decide, by decide +kernel, by decide, by decide⟩
theorem q_L_plainFileOf_89 : callOk M_L_plainFileOf M_h_plainFileOf y_h_plainFileOf k_h_plainFileOf 89 2 := ⟨rfl, e_h_plainFileOf, w760, w1, by decide, by decide +kernel, by decide, by decide⟩
theorem q_L_raise_92 : callOk M_L_raise M_h_raise y_h_raise k_h_raise 92 2 := ⟨rfl, e_h_raise, w772, w1, by decide, by decide +kernel, by decide, by decide⟩
theorem q_L_lower_95 : callOk M_L_lower M_h_lower y_h_lower k_h_lower 95 2 := ⟨rfl, e_h_lower, w784, w1, by decide, by decide +kernel, by decide, by decide⟩
theorem q_L_drop_98 : callOk M_L_drop M_h_drop y_h_drop k_h_drop 98 2 := ⟨rfl, e_h_drop, w791, w1, by decide, by decide +kernel, by decide, by decide⟩
theorem q_L_kill_101 : callOk M_L_kill M_h_kill y_h_kill k_h_kill 101 2 := ⟨rfl, e_h_kill, w798, w1, by decide, by decide +kernel, by decide, by decide⟩
theorem q_L_attach_104 : callOk M_L_attach M_h_attach y_h_attach k_h_attach 104 2 := ⟨rfl, e_h_attach, w807, w1, by decide, by decide +kernel, by decide, by decide⟩
theorem q_L_detach_107 : callOk M_L_detach M_h_detach y_h_detach k_h_detach 107 1 := ⟨rfl, e_h_detach, w824, w1, by decide, by decide +kernel, by decide, by decide⟩
theorem q_L_listen_110 : callOk M_L_listen M_h_listen y_h_listen k_h_listen 110 2 := ⟨rfl, e_h_listen, w835, w1, by decide, by decide +kernel, by decide, by decide⟩
theorem q_L_publish_113 : callOk M_L_publish M_h_publish y_h_publish k_h_publish 113 3 := ⟨rfl, e_h_publish, w852, w1, by decide, by decide +kernel, by decide, by decide⟩
theorem q_L_connect_116 : callOk M_L_connect M_h_connect y_h_connect k_h_connect 116 3 := ⟨rfl, e_h_connect, w869, w1, by decide, by decide +kernel, by decide, by decide⟩
theorem q_L_connectHost_119 : callOk M_L_connectHost M_h_connectHost y_h_connectHost k_h_connectHost 119 1 := ⟨rfl, e_h_connectHost, w876, w1, by decide, by decide +kernel, by decide, by decide⟩
theorem q_L_save_122 : callOk M_L_save M_h_save y_h_save k_h_save 122 1 := ⟨rfl, e_h_save, w883, w1, by decide, by decide +kernel, by decide, by decide⟩
theorem q_L_restore_125 : callOk M_L_restore M_h_restore y_h_restore k_h_restore 125 2 := ⟨rfl, e_h_restore, w927, w1, by decide, by decide +kernel, by decide, by decide⟩
theorem q_L_stateOf_128 : callOk M_L_stateOf M_h_stateOf y_h_stateOf k_h_stateOf 128 1 := ⟨rfl, e_h_stateOf, w935, w1, by decide, by decide +kernel, by decide, by decide⟩
theorem q_L_memoryOf_131 : callOk M_L_memoryOf M_h_memoryOf y_h_memoryOf k_h_memoryOf 131 1 := ⟨rfl, e_h_memoryOf, w942, w1, by decide, by decide +kernel, by decide, by decide⟩
theorem q_L_timeOf_134 : callOk M_L_timeOf M_h_timeOf y_h_timeOf k_h_timeOf 134 1 := ⟨rfl, e_h_timeOf, w949, w1, by decide, by decide +kernel, by decide, by decide⟩
theorem q_L_capabilitiesOf_137 : callOk M_L_capabilitiesOf M_h_capabilitiesOf y_h_capabilitiesOf k_h_capabilitiesOf 137 1 := ⟨rfl, e_h_capabilitiesOf, w956, w1, by decide, by decide +kernel, by decide, by decide⟩
theorem q_L_addressOf_140 : callOk M_L_addressOf M_h_addressOf y_h_addressOf k_h_addressOf 140 1 := ⟨rfl, e_h_addressOf, w963, w1, by decide, by decide +kernel, by decide, by decide⟩
theorem s_L_newImage : Cond.static y_L_newImage ∈ lw_tbl := w195
theorem s_L_write : Cond.static y_L_write ∈ lw_tbl := w354
theorem s_L_remove : Cond.static y_L_remove ∈ lw_tbl := w401
theorem s_L_clear : Cond.static y_L_clear ∈ lw_tbl := w412
theorem s_L_seal : Cond.static y_L_seal ∈ lw_tbl := w429
theorem s_L_shown : Cond.static y_L_shown ∈ lw_tbl := w436
theorem s_L_entries : Cond.static y_L_entries ∈ lw_tbl := w443
theorem s_L_commit : Cond.static y_L_commit ∈ lw_tbl := w465
theorem s_L_newGroup : Cond.static y_L_newGroup ∈ lw_tbl := w485
theorem s_L_groupMemory : Cond.static y_L_groupMemory ∈ lw_tbl := w498
theorem s_L_groupProcesses : Cond.static y_L_groupProcesses ∈ lw_tbl := w505
theorem s_L_run : Cond.static y_L_run ∈ lw_tbl := w512
theorem s_L_pause : Cond.static y_L_pause ∈ lw_tbl := w601
theorem s_L_resume : Cond.static y_L_resume ∈ lw_tbl := w616
theorem s_L_stop : Cond.static y_L_stop ∈ lw_tbl := w628
theorem s_L_allocate : Cond.static y_L_allocate ∈ lw_tbl := w644
theorem s_L_free : Cond.static y_L_free ∈ lw_tbl := w667
theorem s_L_fork : Cond.static y_L_fork ∈ lw_tbl := w675
theorem s_L_exit : Cond.static y_L_exit ∈ lw_tbl := w682
theorem s_L_schedule : Cond.static y_L_schedule ∈ lw_tbl := w689
theorem s_L_writeFile : Cond.static y_L_writeFile ∈ lw_tbl := w730
theorem s_L_removeFile : Cond.static y_L_removeFile ∈ lw_tbl := w744
theorem s_L_fileOf : Cond.static y_L_fileOf ∈ lw_tbl := w751
theorem s_L_plainFileOf : Cond.static y_L_plainFileOf ∈ lw_tbl := w758
theorem s_L_raise : Cond.static y_L_raise ∈ lw_tbl := w770
theorem s_L_lower : Cond.static y_L_lower ∈ lw_tbl := w782
theorem s_L_drop : Cond.static y_L_drop ∈ lw_tbl := w789
theorem s_L_kill : Cond.static y_L_kill ∈ lw_tbl := w796
theorem s_L_attach : Cond.static y_L_attach ∈ lw_tbl := w805
theorem s_L_detach : Cond.static y_L_detach ∈ lw_tbl := w822
theorem s_L_listen : Cond.static y_L_listen ∈ lw_tbl := w833
theorem s_L_publish : Cond.static y_L_publish ∈ lw_tbl := w850
theorem s_L_connect : Cond.static y_L_connect ∈ lw_tbl := w867
theorem s_L_connectHost : Cond.static y_L_connectHost ∈ lw_tbl := w874
theorem s_L_save : Cond.static y_L_save ∈ lw_tbl := w881
theorem s_L_restore : Cond.static y_L_restore ∈ lw_tbl := w925
theorem s_L_stateOf : Cond.static y_L_stateOf ∈ lw_tbl := w933
theorem s_L_memoryOf : Cond.static y_L_memoryOf ∈ lw_tbl := w940
theorem s_L_timeOf : Cond.static y_L_timeOf ∈ lw_tbl := w947
theorem s_L_capabilitiesOf : Cond.static y_L_capabilitiesOf ∈ lw_tbl := w954
theorem s_L_addressOf : Cond.static y_L_addressOf ∈ lw_tbl := w961
abbrev M_law (nm : String) (hh : List (Nat × Nat × Nat × Nat)) : xMeth := ("ContainerHostLaw", code, 7, ret, nm, hh, room_1)
theorem d_law_0 : decode code 0 = .ok (.new 8, 3) := by decide +kernel
theorem d_law_3 : decode code 3 = .ok (.dup, 1) := by decide +kernel
theorem d_law_4 : decode code 4 = .ok (.invokespecial 143, 3) := by decide +kernel
theorem d_law_7 : decode code 7 = .ok (.astore_n 1, 1) := by decide +kernel
theorem d_law_8 : decode code 8 = .ok (.new 144, 3) := by decide +kernel
theorem d_law_11 : decode code 11 = .ok (.dup, 1) := by decide +kernel
theorem d_law_12 : decode code 12 = .ok (.invokespecial 146, 3) := by decide +kernel
theorem d_law_15 : decode code 15 = .ok (.astore_n 2, 1) := by decide +kernel
theorem d_law_16 : decode code 16 = .ok (.iconst 1, 1) := by decide +kernel
theorem d_law_17 : decode code 17 = .ok (.newarray .long, 2) := by decide +kernel
theorem d_law_19 : decode code 19 = .ok (.astore_n 3, 1) := by decide +kernel
theorem d_law_20 : decode code 20 = .ok (.iconst 0, 1) := by decide +kernel
theorem d_law_21 : decode code 21 = .ok (.istore 4, 2) := by decide +kernel
theorem d_law_23 : decode code 23 = .ok (.iload 4, 2) := by decide +kernel
theorem d_law_25 : decode code 25 = .ok (.aload_n 0, 1) := by decide +kernel
theorem d_law_26 : decode code 26 = .ok (.arraylength, 1) := by decide +kernel
theorem d_law_27 : decode code 27 = .ok (.iconst 5, 1) := by decide +kernel
theorem d_law_28 : decode code 28 = .ok (.isub, 1) := by decide +kernel
theorem d_law_29 : decode code 29 = .ok (.if_icmp .gt 2826, 3) := by decide +kernel
theorem d_law_32 : decode code 32 = .ok (.aload_n 0, 1) := by decide +kernel
theorem d_law_33 : decode code 33 = .ok (.iload 4, 2) := by decide +kernel
theorem d_law_35 : decode code 35 = .ok (.iaload, 1) := by decide +kernel
theorem d_law_36 : decode code 36 = .ok (.bipush 63, 2) := by decide +kernel
theorem d_law_38 : decode code 38 = .ok (.iand, 1) := by decide +kernel
theorem d_law_39 : decode code 39 = .ok (.tableswitch 2810 0 41 #[181, 237, 317, 385, 453, 509, 577, 645, 701, 793, 849, 905, 997, 1033, 1069, 1125, 1193, 1261, 1317, 1373, 1429, 1509, 1577, 1645, 1713, 1781, 1849, 1917, 1985, 2053, 2109, 2177, 2257, 2337, 2393, 2449, 2517, 2530, 2586, 2642, 2698, 2754], 181) := by decide +kernel
theorem d_law_220 : decode code 220 = .ok (.aload_n 1, 1) := by decide +kernel
theorem d_law_221 : decode code 221 = .ok (.aload_n 0, 1) := by decide +kernel
theorem d_law_222 : decode code 222 = .ok (.iload 4, 2) := by decide +kernel
theorem d_law_224 : decode code 224 = .ok (.iconst 1, 1) := by decide +kernel
theorem d_law_225 : decode code 225 = .ok (.iadd, 1) := by decide +kernel
theorem d_law_226 : decode code 226 = .ok (.iaload, 1) := by decide +kernel
theorem d_law_227 : decode code 227 = .ok (.aload_n 3, 1) := by decide +kernel
theorem d_law_228 : decode code 228 = .ok (.invokestatic 147, 3) := by decide +kernel
theorem d_law_231 : decode code 231 = .ok (.istore 5, 2) := by decide +kernel
theorem d_law_233 : decode code 233 = .ok (.aload_n 2, 1) := by decide +kernel
theorem d_law_234 : decode code 234 = .ok (.aload_n 0, 1) := by decide +kernel
theorem d_law_235 : decode code 235 = .ok (.iload 4, 2) := by decide +kernel
theorem d_law_237 : decode code 237 = .ok (.iconst 1, 1) := by decide +kernel
theorem d_law_238 : decode code 238 = .ok (.iadd, 1) := by decide +kernel
theorem d_law_239 : decode code 239 = .ok (.iaload, 1) := by decide +kernel
theorem d_law_240 : decode code 240 = .ok (.invokevirtual 152, 3) := by decide +kernel
theorem d_law_243 : decode code 243 = .ok (.istore 6, 2) := by decide +kernel
theorem d_law_245 : decode code 245 = .ok (.aload_n 2, 1) := by decide +kernel
theorem d_law_246 : decode code 246 = .ok (.invokevirtual 153, 3) := by decide +kernel
theorem d_law_249 : decode code 249 = .ok (.iload 5, 2) := by decide +kernel
theorem d_law_251 : decode code 251 = .ok (.if_icmp .eq 5, 3) := by decide +kernel
theorem d_law_254 : decode code 254 = .ok (.iconst 0, 1) := by decide +kernel
theorem d_law_255 : decode code 255 = .ok (.ireturn, 1) := by decide +kernel
theorem d_law_256 : decode code 256 = .ok (.iload 5, 2) := by decide +kernel
theorem d_law_258 : decode code 258 = .ok (.ifCond .ne 15, 3) := by decide +kernel
theorem d_law_261 : decode code 261 = .ok (.aload_n 3, 1) := by decide +kernel
theorem d_law_262 : decode code 262 = .ok (.iconst 0, 1) := by decide +kernel
theorem d_law_263 : decode code 263 = .ok (.laload, 1) := by decide +kernel
theorem d_law_264 : decode code 264 = .ok (.iload 6, 2) := by decide +kernel
theorem d_law_266 : decode code 266 = .ok (.i2l, 1) := by decide +kernel
theorem d_law_267 : decode code 267 = .ok (.lcmp, 1) := by decide +kernel
theorem d_law_268 : decode code 268 = .ok (.ifCond .eq 5, 3) := by decide +kernel
theorem d_law_271 : decode code 271 = .ok (.iconst 0, 1) := by decide +kernel
theorem d_law_272 : decode code 272 = .ok (.ireturn, 1) := by decide +kernel
theorem d_law_273 : decode code 273 = .ok (.goto 2576, 3) := by decide +kernel
theorem d_law_276 : decode code 276 = .ok (.aload_n 1, 1) := by decide +kernel
theorem d_law_277 : decode code 277 = .ok (.aload_n 0, 1) := by decide +kernel
theorem d_law_278 : decode code 278 = .ok (.iload 4, 2) := by decide +kernel
theorem d_law_280 : decode code 280 = .ok (.iconst 1, 1) := by decide +kernel
theorem d_law_281 : decode code 281 = .ok (.iadd, 1) := by decide +kernel
theorem d_law_282 : decode code 282 = .ok (.iaload, 1) := by decide +kernel
theorem d_law_283 : decode code 283 = .ok (.aload_n 0, 1) := by decide +kernel
theorem d_law_284 : decode code 284 = .ok (.iload 4, 2) := by decide +kernel
theorem d_law_286 : decode code 286 = .ok (.iconst 2, 1) := by decide +kernel
theorem d_law_287 : decode code 287 = .ok (.iadd, 1) := by decide +kernel
theorem d_law_288 : decode code 288 = .ok (.iaload, 1) := by decide +kernel
theorem d_law_289 : decode code 289 = .ok (.aload_n 0, 1) := by decide +kernel
theorem d_law_290 : decode code 290 = .ok (.iload 4, 2) := by decide +kernel
theorem d_law_292 : decode code 292 = .ok (.iconst 3, 1) := by decide +kernel
theorem d_law_293 : decode code 293 = .ok (.iadd, 1) := by decide +kernel
theorem d_law_294 : decode code 294 = .ok (.iaload, 1) := by decide +kernel
theorem d_law_295 : decode code 295 = .ok (.aload_n 3, 1) := by decide +kernel
theorem d_law_296 : decode code 296 = .ok (.invokestatic 157, 3) := by decide +kernel
theorem d_law_299 : decode code 299 = .ok (.istore 5, 2) := by decide +kernel
theorem d_law_301 : decode code 301 = .ok (.aload_n 2, 1) := by decide +kernel
theorem d_law_302 : decode code 302 = .ok (.aload_n 0, 1) := by decide +kernel
theorem d_law_303 : decode code 303 = .ok (.iload 4, 2) := by decide +kernel
theorem d_law_305 : decode code 305 = .ok (.iconst 1, 1) := by decide +kernel
theorem d_law_306 : decode code 306 = .ok (.iadd, 1) := by decide +kernel
theorem d_law_307 : decode code 307 = .ok (.iaload, 1) := by decide +kernel
theorem d_law_308 : decode code 308 = .ok (.aload_n 0, 1) := by decide +kernel
theorem d_law_309 : decode code 309 = .ok (.iload 4, 2) := by decide +kernel
theorem d_law_311 : decode code 311 = .ok (.iconst 2, 1) := by decide +kernel
theorem d_law_312 : decode code 312 = .ok (.iadd, 1) := by decide +kernel
theorem d_law_313 : decode code 313 = .ok (.iaload, 1) := by decide +kernel
theorem d_law_314 : decode code 314 = .ok (.aload_n 0, 1) := by decide +kernel
theorem d_law_315 : decode code 315 = .ok (.iload 4, 2) := by decide +kernel
theorem d_law_317 : decode code 317 = .ok (.iconst 3, 1) := by decide +kernel
theorem d_law_318 : decode code 318 = .ok (.iadd, 1) := by decide +kernel
theorem d_law_319 : decode code 319 = .ok (.iaload, 1) := by decide +kernel
theorem d_law_320 : decode code 320 = .ok (.invokevirtual 160, 3) := by decide +kernel
theorem d_law_323 : decode code 323 = .ok (.istore 6, 2) := by decide +kernel
theorem d_law_325 : decode code 325 = .ok (.aload_n 2, 1) := by decide +kernel
theorem d_law_326 : decode code 326 = .ok (.invokevirtual 153, 3) := by decide +kernel
theorem d_law_329 : decode code 329 = .ok (.iload 5, 2) := by decide +kernel
theorem d_law_331 : decode code 331 = .ok (.if_icmp .eq 5, 3) := by decide +kernel
theorem d_law_334 : decode code 334 = .ok (.iconst 0, 1) := by decide +kernel
theorem d_law_335 : decode code 335 = .ok (.ireturn, 1) := by decide +kernel
theorem d_law_336 : decode code 336 = .ok (.iload 5, 2) := by decide +kernel
theorem d_law_338 : decode code 338 = .ok (.ifCond .ne 15, 3) := by decide +kernel
theorem d_law_341 : decode code 341 = .ok (.aload_n 3, 1) := by decide +kernel
theorem d_law_342 : decode code 342 = .ok (.iconst 0, 1) := by decide +kernel
theorem d_law_343 : decode code 343 = .ok (.laload, 1) := by decide +kernel
theorem d_law_344 : decode code 344 = .ok (.iload 6, 2) := by decide +kernel
theorem d_law_346 : decode code 346 = .ok (.i2l, 1) := by decide +kernel
theorem d_law_347 : decode code 347 = .ok (.lcmp, 1) := by decide +kernel
theorem d_law_348 : decode code 348 = .ok (.ifCond .eq 5, 3) := by decide +kernel
theorem d_law_351 : decode code 351 = .ok (.iconst 0, 1) := by decide +kernel
theorem d_law_352 : decode code 352 = .ok (.ireturn, 1) := by decide +kernel
theorem d_law_353 : decode code 353 = .ok (.goto 2496, 3) := by decide +kernel
theorem d_law_356 : decode code 356 = .ok (.aload_n 1, 1) := by decide +kernel
theorem d_law_357 : decode code 357 = .ok (.aload_n 0, 1) := by decide +kernel
theorem d_law_358 : decode code 358 = .ok (.iload 4, 2) := by decide +kernel
theorem d_law_360 : decode code 360 = .ok (.iconst 1, 1) := by decide +kernel
theorem d_law_361 : decode code 361 = .ok (.iadd, 1) := by decide +kernel
theorem d_law_362 : decode code 362 = .ok (.iaload, 1) := by decide +kernel
theorem d_law_363 : decode code 363 = .ok (.aload_n 0, 1) := by decide +kernel
theorem d_law_364 : decode code 364 = .ok (.iload 4, 2) := by decide +kernel
theorem d_law_366 : decode code 366 = .ok (.iconst 2, 1) := by decide +kernel
theorem d_law_367 : decode code 367 = .ok (.iadd, 1) := by decide +kernel
theorem d_law_368 : decode code 368 = .ok (.iaload, 1) := by decide +kernel
theorem d_law_369 : decode code 369 = .ok (.aload_n 3, 1) := by decide +kernel
theorem d_law_370 : decode code 370 = .ok (.invokestatic 161, 3) := by decide +kernel
theorem d_law_373 : decode code 373 = .ok (.istore 5, 2) := by decide +kernel
theorem d_law_375 : decode code 375 = .ok (.aload_n 2, 1) := by decide +kernel
theorem d_law_376 : decode code 376 = .ok (.aload_n 0, 1) := by decide +kernel
theorem d_law_377 : decode code 377 = .ok (.iload 4, 2) := by decide +kernel
theorem d_law_379 : decode code 379 = .ok (.iconst 1, 1) := by decide +kernel
theorem d_law_380 : decode code 380 = .ok (.iadd, 1) := by decide +kernel
theorem d_law_381 : decode code 381 = .ok (.iaload, 1) := by decide +kernel
theorem d_law_382 : decode code 382 = .ok (.aload_n 0, 1) := by decide +kernel
theorem d_law_383 : decode code 383 = .ok (.iload 4, 2) := by decide +kernel
theorem d_law_385 : decode code 385 = .ok (.iconst 2, 1) := by decide +kernel
theorem d_law_386 : decode code 386 = .ok (.iadd, 1) := by decide +kernel
theorem d_law_387 : decode code 387 = .ok (.iaload, 1) := by decide +kernel
theorem d_law_388 : decode code 388 = .ok (.invokevirtual 164, 3) := by decide +kernel
theorem d_law_391 : decode code 391 = .ok (.istore 6, 2) := by decide +kernel
theorem d_law_393 : decode code 393 = .ok (.aload_n 2, 1) := by decide +kernel
theorem d_law_394 : decode code 394 = .ok (.invokevirtual 153, 3) := by decide +kernel
theorem d_law_397 : decode code 397 = .ok (.iload 5, 2) := by decide +kernel
theorem d_law_399 : decode code 399 = .ok (.if_icmp .eq 5, 3) := by decide +kernel
theorem d_law_402 : decode code 402 = .ok (.iconst 0, 1) := by decide +kernel
theorem d_law_403 : decode code 403 = .ok (.ireturn, 1) := by decide +kernel
theorem d_law_404 : decode code 404 = .ok (.iload 5, 2) := by decide +kernel
theorem d_law_406 : decode code 406 = .ok (.ifCond .ne 15, 3) := by decide +kernel
theorem d_law_409 : decode code 409 = .ok (.aload_n 3, 1) := by decide +kernel
theorem d_law_410 : decode code 410 = .ok (.iconst 0, 1) := by decide +kernel
theorem d_law_411 : decode code 411 = .ok (.laload, 1) := by decide +kernel
theorem d_law_412 : decode code 412 = .ok (.iload 6, 2) := by decide +kernel
theorem d_law_414 : decode code 414 = .ok (.i2l, 1) := by decide +kernel
theorem d_law_415 : decode code 415 = .ok (.lcmp, 1) := by decide +kernel
theorem d_law_416 : decode code 416 = .ok (.ifCond .eq 5, 3) := by decide +kernel
theorem d_law_419 : decode code 419 = .ok (.iconst 0, 1) := by decide +kernel
theorem d_law_420 : decode code 420 = .ok (.ireturn, 1) := by decide +kernel
theorem d_law_421 : decode code 421 = .ok (.goto 2428, 3) := by decide +kernel
theorem d_law_424 : decode code 424 = .ok (.aload_n 1, 1) := by decide +kernel
theorem d_law_425 : decode code 425 = .ok (.aload_n 0, 1) := by decide +kernel
theorem d_law_426 : decode code 426 = .ok (.iload 4, 2) := by decide +kernel
theorem d_law_428 : decode code 428 = .ok (.iconst 1, 1) := by decide +kernel
theorem d_law_429 : decode code 429 = .ok (.iadd, 1) := by decide +kernel
theorem d_law_430 : decode code 430 = .ok (.iaload, 1) := by decide +kernel
theorem d_law_431 : decode code 431 = .ok (.aload_n 0, 1) := by decide +kernel
theorem d_law_432 : decode code 432 = .ok (.iload 4, 2) := by decide +kernel
theorem d_law_434 : decode code 434 = .ok (.iconst 2, 1) := by decide +kernel
theorem d_law_435 : decode code 435 = .ok (.iadd, 1) := by decide +kernel
theorem d_law_436 : decode code 436 = .ok (.iaload, 1) := by decide +kernel
theorem d_law_437 : decode code 437 = .ok (.aload_n 3, 1) := by decide +kernel
theorem d_law_438 : decode code 438 = .ok (.invokestatic 165, 3) := by decide +kernel
theorem d_law_441 : decode code 441 = .ok (.istore 5, 2) := by decide +kernel
theorem d_law_443 : decode code 443 = .ok (.aload_n 2, 1) := by decide +kernel
theorem d_law_444 : decode code 444 = .ok (.aload_n 0, 1) := by decide +kernel
theorem d_law_445 : decode code 445 = .ok (.iload 4, 2) := by decide +kernel
theorem d_law_447 : decode code 447 = .ok (.iconst 1, 1) := by decide +kernel
theorem d_law_448 : decode code 448 = .ok (.iadd, 1) := by decide +kernel
theorem d_law_449 : decode code 449 = .ok (.iaload, 1) := by decide +kernel
theorem d_law_450 : decode code 450 = .ok (.aload_n 0, 1) := by decide +kernel
theorem d_law_451 : decode code 451 = .ok (.iload 4, 2) := by decide +kernel
theorem d_law_453 : decode code 453 = .ok (.iconst 2, 1) := by decide +kernel
theorem d_law_454 : decode code 454 = .ok (.iadd, 1) := by decide +kernel
theorem d_law_455 : decode code 455 = .ok (.iaload, 1) := by decide +kernel
theorem d_law_456 : decode code 456 = .ok (.invokevirtual 167, 3) := by decide +kernel
theorem d_law_459 : decode code 459 = .ok (.istore 6, 2) := by decide +kernel
theorem d_law_461 : decode code 461 = .ok (.aload_n 2, 1) := by decide +kernel
theorem d_law_462 : decode code 462 = .ok (.invokevirtual 153, 3) := by decide +kernel
theorem d_law_465 : decode code 465 = .ok (.iload 5, 2) := by decide +kernel
theorem d_law_467 : decode code 467 = .ok (.if_icmp .eq 5, 3) := by decide +kernel
theorem d_law_470 : decode code 470 = .ok (.iconst 0, 1) := by decide +kernel
theorem d_law_471 : decode code 471 = .ok (.ireturn, 1) := by decide +kernel
theorem d_law_472 : decode code 472 = .ok (.iload 5, 2) := by decide +kernel
theorem d_law_474 : decode code 474 = .ok (.ifCond .ne 15, 3) := by decide +kernel
theorem d_law_477 : decode code 477 = .ok (.aload_n 3, 1) := by decide +kernel
theorem d_law_478 : decode code 478 = .ok (.iconst 0, 1) := by decide +kernel
theorem d_law_479 : decode code 479 = .ok (.laload, 1) := by decide +kernel
theorem d_law_480 : decode code 480 = .ok (.iload 6, 2) := by decide +kernel
theorem d_law_482 : decode code 482 = .ok (.i2l, 1) := by decide +kernel
theorem d_law_483 : decode code 483 = .ok (.lcmp, 1) := by decide +kernel
theorem d_law_484 : decode code 484 = .ok (.ifCond .eq 5, 3) := by decide +kernel
theorem d_law_487 : decode code 487 = .ok (.iconst 0, 1) := by decide +kernel
theorem d_law_488 : decode code 488 = .ok (.ireturn, 1) := by decide +kernel
theorem d_law_489 : decode code 489 = .ok (.goto 2360, 3) := by decide +kernel
theorem d_law_492 : decode code 492 = .ok (.aload_n 1, 1) := by decide +kernel
theorem d_law_493 : decode code 493 = .ok (.aload_n 0, 1) := by decide +kernel
theorem d_law_494 : decode code 494 = .ok (.iload 4, 2) := by decide +kernel
theorem d_law_496 : decode code 496 = .ok (.iconst 1, 1) := by decide +kernel
theorem d_law_497 : decode code 497 = .ok (.iadd, 1) := by decide +kernel
theorem d_law_498 : decode code 498 = .ok (.iaload, 1) := by decide +kernel
theorem d_law_499 : decode code 499 = .ok (.aload_n 3, 1) := by decide +kernel
theorem d_law_500 : decode code 500 = .ok (.invokestatic 168, 3) := by decide +kernel
theorem d_law_503 : decode code 503 = .ok (.istore 5, 2) := by decide +kernel
theorem d_law_505 : decode code 505 = .ok (.aload_n 2, 1) := by decide +kernel
theorem d_law_506 : decode code 506 = .ok (.aload_n 0, 1) := by decide +kernel
theorem d_law_507 : decode code 507 = .ok (.iload 4, 2) := by decide +kernel
theorem d_law_509 : decode code 509 = .ok (.iconst 1, 1) := by decide +kernel
theorem d_law_510 : decode code 510 = .ok (.iadd, 1) := by decide +kernel
theorem d_law_511 : decode code 511 = .ok (.iaload, 1) := by decide +kernel
theorem d_law_512 : decode code 512 = .ok (.invokevirtual 170, 3) := by decide +kernel
theorem d_law_515 : decode code 515 = .ok (.istore 6, 2) := by decide +kernel
theorem d_law_517 : decode code 517 = .ok (.aload_n 2, 1) := by decide +kernel
theorem d_law_518 : decode code 518 = .ok (.invokevirtual 153, 3) := by decide +kernel
theorem d_law_521 : decode code 521 = .ok (.iload 5, 2) := by decide +kernel
theorem d_law_523 : decode code 523 = .ok (.if_icmp .eq 5, 3) := by decide +kernel
theorem d_law_526 : decode code 526 = .ok (.iconst 0, 1) := by decide +kernel
theorem d_law_527 : decode code 527 = .ok (.ireturn, 1) := by decide +kernel
theorem d_law_528 : decode code 528 = .ok (.iload 5, 2) := by decide +kernel
theorem d_law_530 : decode code 530 = .ok (.ifCond .ne 15, 3) := by decide +kernel
theorem d_law_533 : decode code 533 = .ok (.aload_n 3, 1) := by decide +kernel
theorem d_law_534 : decode code 534 = .ok (.iconst 0, 1) := by decide +kernel
theorem d_law_535 : decode code 535 = .ok (.laload, 1) := by decide +kernel
theorem d_law_536 : decode code 536 = .ok (.iload 6, 2) := by decide +kernel
theorem d_law_538 : decode code 538 = .ok (.i2l, 1) := by decide +kernel
theorem d_law_539 : decode code 539 = .ok (.lcmp, 1) := by decide +kernel
theorem d_law_540 : decode code 540 = .ok (.ifCond .eq 5, 3) := by decide +kernel
theorem d_law_543 : decode code 543 = .ok (.iconst 0, 1) := by decide +kernel
theorem d_law_544 : decode code 544 = .ok (.ireturn, 1) := by decide +kernel
theorem d_law_545 : decode code 545 = .ok (.goto 2304, 3) := by decide +kernel
theorem d_law_548 : decode code 548 = .ok (.aload_n 1, 1) := by decide +kernel
theorem d_law_549 : decode code 549 = .ok (.aload_n 0, 1) := by decide +kernel
theorem d_law_550 : decode code 550 = .ok (.iload 4, 2) := by decide +kernel
theorem d_law_552 : decode code 552 = .ok (.iconst 1, 1) := by decide +kernel
theorem d_law_553 : decode code 553 = .ok (.iadd, 1) := by decide +kernel
theorem d_law_554 : decode code 554 = .ok (.iaload, 1) := by decide +kernel
theorem d_law_555 : decode code 555 = .ok (.aload_n 0, 1) := by decide +kernel
theorem d_law_556 : decode code 556 = .ok (.iload 4, 2) := by decide +kernel
theorem d_law_558 : decode code 558 = .ok (.iconst 2, 1) := by decide +kernel
theorem d_law_559 : decode code 559 = .ok (.iadd, 1) := by decide +kernel
theorem d_law_560 : decode code 560 = .ok (.iaload, 1) := by decide +kernel
theorem d_law_561 : decode code 561 = .ok (.aload_n 3, 1) := by decide +kernel
theorem d_law_562 : decode code 562 = .ok (.invokestatic 171, 3) := by decide +kernel
theorem d_law_565 : decode code 565 = .ok (.istore 5, 2) := by decide +kernel
theorem d_law_567 : decode code 567 = .ok (.aload_n 2, 1) := by decide +kernel
theorem d_law_568 : decode code 568 = .ok (.aload_n 0, 1) := by decide +kernel
theorem d_law_569 : decode code 569 = .ok (.iload 4, 2) := by decide +kernel
theorem d_law_571 : decode code 571 = .ok (.iconst 1, 1) := by decide +kernel
theorem d_law_572 : decode code 572 = .ok (.iadd, 1) := by decide +kernel
theorem d_law_573 : decode code 573 = .ok (.iaload, 1) := by decide +kernel
theorem d_law_574 : decode code 574 = .ok (.aload_n 0, 1) := by decide +kernel
theorem d_law_575 : decode code 575 = .ok (.iload 4, 2) := by decide +kernel
theorem d_law_577 : decode code 577 = .ok (.iconst 2, 1) := by decide +kernel
theorem d_law_578 : decode code 578 = .ok (.iadd, 1) := by decide +kernel
theorem d_law_579 : decode code 579 = .ok (.iaload, 1) := by decide +kernel
theorem d_law_580 : decode code 580 = .ok (.invokevirtual 173, 3) := by decide +kernel
theorem d_law_583 : decode code 583 = .ok (.istore 6, 2) := by decide +kernel
theorem d_law_585 : decode code 585 = .ok (.aload_n 2, 1) := by decide +kernel
theorem d_law_586 : decode code 586 = .ok (.invokevirtual 153, 3) := by decide +kernel
theorem d_law_589 : decode code 589 = .ok (.iload 5, 2) := by decide +kernel
theorem d_law_591 : decode code 591 = .ok (.if_icmp .eq 5, 3) := by decide +kernel
theorem d_law_594 : decode code 594 = .ok (.iconst 0, 1) := by decide +kernel
theorem d_law_595 : decode code 595 = .ok (.ireturn, 1) := by decide +kernel
theorem d_law_596 : decode code 596 = .ok (.iload 5, 2) := by decide +kernel
theorem d_law_598 : decode code 598 = .ok (.ifCond .ne 15, 3) := by decide +kernel
theorem d_law_601 : decode code 601 = .ok (.aload_n 3, 1) := by decide +kernel
theorem d_law_602 : decode code 602 = .ok (.iconst 0, 1) := by decide +kernel
theorem d_law_603 : decode code 603 = .ok (.laload, 1) := by decide +kernel
theorem d_law_604 : decode code 604 = .ok (.iload 6, 2) := by decide +kernel
theorem d_law_606 : decode code 606 = .ok (.i2l, 1) := by decide +kernel
theorem d_law_607 : decode code 607 = .ok (.lcmp, 1) := by decide +kernel
theorem d_law_608 : decode code 608 = .ok (.ifCond .eq 5, 3) := by decide +kernel
theorem d_law_611 : decode code 611 = .ok (.iconst 0, 1) := by decide +kernel
theorem d_law_612 : decode code 612 = .ok (.ireturn, 1) := by decide +kernel
theorem d_law_613 : decode code 613 = .ok (.goto 2236, 3) := by decide +kernel
theorem d_law_616 : decode code 616 = .ok (.aload_n 1, 1) := by decide +kernel
theorem d_law_617 : decode code 617 = .ok (.aload_n 0, 1) := by decide +kernel
theorem d_law_618 : decode code 618 = .ok (.iload 4, 2) := by decide +kernel
theorem d_law_620 : decode code 620 = .ok (.iconst 1, 1) := by decide +kernel
theorem d_law_621 : decode code 621 = .ok (.iadd, 1) := by decide +kernel
theorem d_law_622 : decode code 622 = .ok (.iaload, 1) := by decide +kernel
theorem d_law_623 : decode code 623 = .ok (.aload_n 0, 1) := by decide +kernel
theorem d_law_624 : decode code 624 = .ok (.iload 4, 2) := by decide +kernel
theorem d_law_626 : decode code 626 = .ok (.iconst 2, 1) := by decide +kernel
theorem d_law_627 : decode code 627 = .ok (.iadd, 1) := by decide +kernel
theorem d_law_628 : decode code 628 = .ok (.iaload, 1) := by decide +kernel
theorem d_law_629 : decode code 629 = .ok (.aload_n 3, 1) := by decide +kernel
theorem d_law_630 : decode code 630 = .ok (.invokestatic 174, 3) := by decide +kernel
theorem d_law_633 : decode code 633 = .ok (.istore 5, 2) := by decide +kernel
theorem d_law_635 : decode code 635 = .ok (.aload_n 2, 1) := by decide +kernel
theorem d_law_636 : decode code 636 = .ok (.aload_n 0, 1) := by decide +kernel
theorem d_law_637 : decode code 637 = .ok (.iload 4, 2) := by decide +kernel
theorem d_law_639 : decode code 639 = .ok (.iconst 1, 1) := by decide +kernel
theorem d_law_640 : decode code 640 = .ok (.iadd, 1) := by decide +kernel
theorem d_law_641 : decode code 641 = .ok (.iaload, 1) := by decide +kernel
theorem d_law_642 : decode code 642 = .ok (.aload_n 0, 1) := by decide +kernel
theorem d_law_643 : decode code 643 = .ok (.iload 4, 2) := by decide +kernel
theorem d_law_645 : decode code 645 = .ok (.iconst 2, 1) := by decide +kernel
theorem d_law_646 : decode code 646 = .ok (.iadd, 1) := by decide +kernel
theorem d_law_647 : decode code 647 = .ok (.iaload, 1) := by decide +kernel
theorem d_law_648 : decode code 648 = .ok (.invokevirtual 176, 3) := by decide +kernel
theorem d_law_651 : decode code 651 = .ok (.istore 6, 2) := by decide +kernel
theorem d_law_653 : decode code 653 = .ok (.aload_n 2, 1) := by decide +kernel
theorem d_law_654 : decode code 654 = .ok (.invokevirtual 153, 3) := by decide +kernel
theorem d_law_657 : decode code 657 = .ok (.iload 5, 2) := by decide +kernel
theorem d_law_659 : decode code 659 = .ok (.if_icmp .eq 5, 3) := by decide +kernel
theorem d_law_662 : decode code 662 = .ok (.iconst 0, 1) := by decide +kernel
theorem d_law_663 : decode code 663 = .ok (.ireturn, 1) := by decide +kernel
theorem d_law_664 : decode code 664 = .ok (.iload 5, 2) := by decide +kernel
theorem d_law_666 : decode code 666 = .ok (.ifCond .ne 15, 3) := by decide +kernel
theorem d_law_669 : decode code 669 = .ok (.aload_n 3, 1) := by decide +kernel
theorem d_law_670 : decode code 670 = .ok (.iconst 0, 1) := by decide +kernel
theorem d_law_671 : decode code 671 = .ok (.laload, 1) := by decide +kernel
theorem d_law_672 : decode code 672 = .ok (.iload 6, 2) := by decide +kernel
theorem d_law_674 : decode code 674 = .ok (.i2l, 1) := by decide +kernel
theorem d_law_675 : decode code 675 = .ok (.lcmp, 1) := by decide +kernel
theorem d_law_676 : decode code 676 = .ok (.ifCond .eq 5, 3) := by decide +kernel
theorem d_law_679 : decode code 679 = .ok (.iconst 0, 1) := by decide +kernel
theorem d_law_680 : decode code 680 = .ok (.ireturn, 1) := by decide +kernel
theorem d_law_681 : decode code 681 = .ok (.goto 2168, 3) := by decide +kernel
theorem d_law_684 : decode code 684 = .ok (.aload_n 1, 1) := by decide +kernel
theorem d_law_685 : decode code 685 = .ok (.aload_n 0, 1) := by decide +kernel
theorem d_law_686 : decode code 686 = .ok (.iload 4, 2) := by decide +kernel
theorem d_law_688 : decode code 688 = .ok (.iconst 1, 1) := by decide +kernel
theorem d_law_689 : decode code 689 = .ok (.iadd, 1) := by decide +kernel
theorem d_law_690 : decode code 690 = .ok (.iaload, 1) := by decide +kernel
theorem d_law_691 : decode code 691 = .ok (.aload_n 3, 1) := by decide +kernel
theorem d_law_692 : decode code 692 = .ok (.invokestatic 177, 3) := by decide +kernel
theorem d_law_695 : decode code 695 = .ok (.istore 5, 2) := by decide +kernel
theorem d_law_697 : decode code 697 = .ok (.aload_n 2, 1) := by decide +kernel
theorem d_law_698 : decode code 698 = .ok (.aload_n 0, 1) := by decide +kernel
theorem d_law_699 : decode code 699 = .ok (.iload 4, 2) := by decide +kernel
theorem d_law_701 : decode code 701 = .ok (.iconst 1, 1) := by decide +kernel
theorem d_law_702 : decode code 702 = .ok (.iadd, 1) := by decide +kernel
theorem d_law_703 : decode code 703 = .ok (.iaload, 1) := by decide +kernel
theorem d_law_704 : decode code 704 = .ok (.invokevirtual 179, 3) := by decide +kernel
theorem d_law_707 : decode code 707 = .ok (.istore 6, 2) := by decide +kernel
theorem d_law_709 : decode code 709 = .ok (.aload_n 2, 1) := by decide +kernel
theorem d_law_710 : decode code 710 = .ok (.invokevirtual 153, 3) := by decide +kernel
theorem d_law_713 : decode code 713 = .ok (.iload 5, 2) := by decide +kernel
theorem d_law_715 : decode code 715 = .ok (.if_icmp .eq 5, 3) := by decide +kernel
theorem d_law_718 : decode code 718 = .ok (.iconst 0, 1) := by decide +kernel
theorem d_law_719 : decode code 719 = .ok (.ireturn, 1) := by decide +kernel
theorem d_law_720 : decode code 720 = .ok (.iload 5, 2) := by decide +kernel
theorem d_law_722 : decode code 722 = .ok (.ifCond .ne 15, 3) := by decide +kernel
theorem d_law_725 : decode code 725 = .ok (.aload_n 3, 1) := by decide +kernel
theorem d_law_726 : decode code 726 = .ok (.iconst 0, 1) := by decide +kernel
theorem d_law_727 : decode code 727 = .ok (.laload, 1) := by decide +kernel
theorem d_law_728 : decode code 728 = .ok (.iload 6, 2) := by decide +kernel
theorem d_law_730 : decode code 730 = .ok (.i2l, 1) := by decide +kernel
theorem d_law_731 : decode code 731 = .ok (.lcmp, 1) := by decide +kernel
theorem d_law_732 : decode code 732 = .ok (.ifCond .eq 5, 3) := by decide +kernel
theorem d_law_735 : decode code 735 = .ok (.iconst 0, 1) := by decide +kernel
theorem d_law_736 : decode code 736 = .ok (.ireturn, 1) := by decide +kernel
theorem d_law_737 : decode code 737 = .ok (.goto 2112, 3) := by decide +kernel
theorem d_law_740 : decode code 740 = .ok (.aload_n 1, 1) := by decide +kernel
theorem d_law_741 : decode code 741 = .ok (.aload_n 0, 1) := by decide +kernel
theorem d_law_742 : decode code 742 = .ok (.iload 4, 2) := by decide +kernel
theorem d_law_744 : decode code 744 = .ok (.iconst 1, 1) := by decide +kernel
theorem d_law_745 : decode code 745 = .ok (.iadd, 1) := by decide +kernel
theorem d_law_746 : decode code 746 = .ok (.iaload, 1) := by decide +kernel
theorem d_law_747 : decode code 747 = .ok (.aload_n 0, 1) := by decide +kernel
theorem d_law_748 : decode code 748 = .ok (.iload 4, 2) := by decide +kernel
theorem d_law_750 : decode code 750 = .ok (.iconst 2, 1) := by decide +kernel
theorem d_law_751 : decode code 751 = .ok (.iadd, 1) := by decide +kernel
theorem d_law_752 : decode code 752 = .ok (.iaload, 1) := by decide +kernel
theorem d_law_753 : decode code 753 = .ok (.aload_n 0, 1) := by decide +kernel
theorem d_law_754 : decode code 754 = .ok (.iload 4, 2) := by decide +kernel
theorem d_law_756 : decode code 756 = .ok (.iconst 3, 1) := by decide +kernel
theorem d_law_757 : decode code 757 = .ok (.iadd, 1) := by decide +kernel
theorem d_law_758 : decode code 758 = .ok (.iaload, 1) := by decide +kernel
theorem d_law_759 : decode code 759 = .ok (.aload_n 0, 1) := by decide +kernel
theorem d_law_760 : decode code 760 = .ok (.iload 4, 2) := by decide +kernel
theorem d_law_762 : decode code 762 = .ok (.iconst 4, 1) := by decide +kernel
theorem d_law_763 : decode code 763 = .ok (.iadd, 1) := by decide +kernel
theorem d_law_764 : decode code 764 = .ok (.iaload, 1) := by decide +kernel
theorem d_law_765 : decode code 765 = .ok (.aload_n 3, 1) := by decide +kernel
theorem d_law_766 : decode code 766 = .ok (.invokestatic 180, 3) := by decide +kernel
theorem d_law_769 : decode code 769 = .ok (.istore 5, 2) := by decide +kernel
theorem d_law_771 : decode code 771 = .ok (.aload_n 2, 1) := by decide +kernel
theorem d_law_772 : decode code 772 = .ok (.aload_n 0, 1) := by decide +kernel
theorem d_law_773 : decode code 773 = .ok (.iload 4, 2) := by decide +kernel
theorem d_law_775 : decode code 775 = .ok (.iconst 1, 1) := by decide +kernel
theorem d_law_776 : decode code 776 = .ok (.iadd, 1) := by decide +kernel
theorem d_law_777 : decode code 777 = .ok (.iaload, 1) := by decide +kernel
theorem d_law_778 : decode code 778 = .ok (.aload_n 0, 1) := by decide +kernel
theorem d_law_779 : decode code 779 = .ok (.iload 4, 2) := by decide +kernel
theorem d_law_781 : decode code 781 = .ok (.iconst 2, 1) := by decide +kernel
theorem d_law_782 : decode code 782 = .ok (.iadd, 1) := by decide +kernel
theorem d_law_783 : decode code 783 = .ok (.iaload, 1) := by decide +kernel
theorem d_law_784 : decode code 784 = .ok (.aload_n 0, 1) := by decide +kernel
theorem d_law_785 : decode code 785 = .ok (.iload 4, 2) := by decide +kernel
theorem d_law_787 : decode code 787 = .ok (.iconst 3, 1) := by decide +kernel
theorem d_law_788 : decode code 788 = .ok (.iadd, 1) := by decide +kernel
theorem d_law_789 : decode code 789 = .ok (.iaload, 1) := by decide +kernel
theorem d_law_790 : decode code 790 = .ok (.aload_n 0, 1) := by decide +kernel
theorem d_law_791 : decode code 791 = .ok (.iload 4, 2) := by decide +kernel
theorem d_law_793 : decode code 793 = .ok (.iconst 4, 1) := by decide +kernel
theorem d_law_794 : decode code 794 = .ok (.iadd, 1) := by decide +kernel
theorem d_law_795 : decode code 795 = .ok (.iaload, 1) := by decide +kernel
theorem d_law_796 : decode code 796 = .ok (.invokevirtual 183, 3) := by decide +kernel
theorem d_law_799 : decode code 799 = .ok (.istore 6, 2) := by decide +kernel
theorem d_law_801 : decode code 801 = .ok (.aload_n 2, 1) := by decide +kernel
theorem d_law_802 : decode code 802 = .ok (.invokevirtual 153, 3) := by decide +kernel
theorem d_law_805 : decode code 805 = .ok (.iload 5, 2) := by decide +kernel
theorem d_law_807 : decode code 807 = .ok (.if_icmp .eq 5, 3) := by decide +kernel
theorem d_law_810 : decode code 810 = .ok (.iconst 0, 1) := by decide +kernel
theorem d_law_811 : decode code 811 = .ok (.ireturn, 1) := by decide +kernel
theorem d_law_812 : decode code 812 = .ok (.iload 5, 2) := by decide +kernel
theorem d_law_814 : decode code 814 = .ok (.ifCond .ne 15, 3) := by decide +kernel
theorem d_law_817 : decode code 817 = .ok (.aload_n 3, 1) := by decide +kernel
theorem d_law_818 : decode code 818 = .ok (.iconst 0, 1) := by decide +kernel
theorem d_law_819 : decode code 819 = .ok (.laload, 1) := by decide +kernel
theorem d_law_820 : decode code 820 = .ok (.iload 6, 2) := by decide +kernel
theorem d_law_822 : decode code 822 = .ok (.i2l, 1) := by decide +kernel
theorem d_law_823 : decode code 823 = .ok (.lcmp, 1) := by decide +kernel
theorem d_law_824 : decode code 824 = .ok (.ifCond .eq 5, 3) := by decide +kernel
theorem d_law_827 : decode code 827 = .ok (.iconst 0, 1) := by decide +kernel
theorem d_law_828 : decode code 828 = .ok (.ireturn, 1) := by decide +kernel
theorem d_law_829 : decode code 829 = .ok (.goto 2020, 3) := by decide +kernel
theorem d_law_832 : decode code 832 = .ok (.aload_n 1, 1) := by decide +kernel
theorem d_law_833 : decode code 833 = .ok (.aload_n 0, 1) := by decide +kernel
theorem d_law_834 : decode code 834 = .ok (.iload 4, 2) := by decide +kernel
theorem d_law_836 : decode code 836 = .ok (.iconst 1, 1) := by decide +kernel
theorem d_law_837 : decode code 837 = .ok (.iadd, 1) := by decide +kernel
theorem d_law_838 : decode code 838 = .ok (.iaload, 1) := by decide +kernel
theorem d_law_839 : decode code 839 = .ok (.aload_n 3, 1) := by decide +kernel
theorem d_law_840 : decode code 840 = .ok (.invokestatic 184, 3) := by decide +kernel
theorem d_law_843 : decode code 843 = .ok (.istore 5, 2) := by decide +kernel
theorem d_law_845 : decode code 845 = .ok (.aload_n 2, 1) := by decide +kernel
theorem d_law_846 : decode code 846 = .ok (.aload_n 0, 1) := by decide +kernel
theorem d_law_847 : decode code 847 = .ok (.iload 4, 2) := by decide +kernel
theorem d_law_849 : decode code 849 = .ok (.iconst 1, 1) := by decide +kernel
theorem d_law_850 : decode code 850 = .ok (.iadd, 1) := by decide +kernel
theorem d_law_851 : decode code 851 = .ok (.iaload, 1) := by decide +kernel
theorem d_law_852 : decode code 852 = .ok (.invokevirtual 186, 3) := by decide +kernel
theorem d_law_855 : decode code 855 = .ok (.istore 6, 2) := by decide +kernel
theorem d_law_857 : decode code 857 = .ok (.aload_n 2, 1) := by decide +kernel
theorem d_law_858 : decode code 858 = .ok (.invokevirtual 153, 3) := by decide +kernel
theorem d_law_861 : decode code 861 = .ok (.iload 5, 2) := by decide +kernel
theorem d_law_863 : decode code 863 = .ok (.if_icmp .eq 5, 3) := by decide +kernel
theorem d_law_866 : decode code 866 = .ok (.iconst 0, 1) := by decide +kernel
theorem d_law_867 : decode code 867 = .ok (.ireturn, 1) := by decide +kernel
theorem d_law_868 : decode code 868 = .ok (.iload 5, 2) := by decide +kernel
theorem d_law_870 : decode code 870 = .ok (.ifCond .ne 15, 3) := by decide +kernel
theorem d_law_873 : decode code 873 = .ok (.aload_n 3, 1) := by decide +kernel
theorem d_law_874 : decode code 874 = .ok (.iconst 0, 1) := by decide +kernel
theorem d_law_875 : decode code 875 = .ok (.laload, 1) := by decide +kernel
theorem d_law_876 : decode code 876 = .ok (.iload 6, 2) := by decide +kernel
theorem d_law_878 : decode code 878 = .ok (.i2l, 1) := by decide +kernel
theorem d_law_879 : decode code 879 = .ok (.lcmp, 1) := by decide +kernel
theorem d_law_880 : decode code 880 = .ok (.ifCond .eq 5, 3) := by decide +kernel
theorem d_law_883 : decode code 883 = .ok (.iconst 0, 1) := by decide +kernel
theorem d_law_884 : decode code 884 = .ok (.ireturn, 1) := by decide +kernel
theorem d_law_885 : decode code 885 = .ok (.goto 1964, 3) := by decide +kernel
theorem d_law_888 : decode code 888 = .ok (.aload_n 1, 1) := by decide +kernel
theorem d_law_889 : decode code 889 = .ok (.aload_n 0, 1) := by decide +kernel
theorem d_law_890 : decode code 890 = .ok (.iload 4, 2) := by decide +kernel
theorem d_law_892 : decode code 892 = .ok (.iconst 1, 1) := by decide +kernel
theorem d_law_893 : decode code 893 = .ok (.iadd, 1) := by decide +kernel
theorem d_law_894 : decode code 894 = .ok (.iaload, 1) := by decide +kernel
theorem d_law_895 : decode code 895 = .ok (.aload_n 3, 1) := by decide +kernel
theorem d_law_896 : decode code 896 = .ok (.invokestatic 187, 3) := by decide +kernel
theorem d_law_899 : decode code 899 = .ok (.istore 5, 2) := by decide +kernel
theorem d_law_901 : decode code 901 = .ok (.aload_n 2, 1) := by decide +kernel
theorem d_law_902 : decode code 902 = .ok (.aload_n 0, 1) := by decide +kernel
theorem d_law_903 : decode code 903 = .ok (.iload 4, 2) := by decide +kernel
theorem d_law_905 : decode code 905 = .ok (.iconst 1, 1) := by decide +kernel
theorem d_law_906 : decode code 906 = .ok (.iadd, 1) := by decide +kernel
theorem d_law_907 : decode code 907 = .ok (.iaload, 1) := by decide +kernel
theorem d_law_908 : decode code 908 = .ok (.invokevirtual 189, 3) := by decide +kernel
theorem d_law_911 : decode code 911 = .ok (.istore 6, 2) := by decide +kernel
theorem d_law_913 : decode code 913 = .ok (.aload_n 2, 1) := by decide +kernel
theorem d_law_914 : decode code 914 = .ok (.invokevirtual 153, 3) := by decide +kernel
theorem d_law_917 : decode code 917 = .ok (.iload 5, 2) := by decide +kernel
theorem d_law_919 : decode code 919 = .ok (.if_icmp .eq 5, 3) := by decide +kernel
theorem d_law_922 : decode code 922 = .ok (.iconst 0, 1) := by decide +kernel
theorem d_law_923 : decode code 923 = .ok (.ireturn, 1) := by decide +kernel
theorem d_law_924 : decode code 924 = .ok (.iload 5, 2) := by decide +kernel
theorem d_law_926 : decode code 926 = .ok (.ifCond .ne 15, 3) := by decide +kernel
theorem d_law_929 : decode code 929 = .ok (.aload_n 3, 1) := by decide +kernel
theorem d_law_930 : decode code 930 = .ok (.iconst 0, 1) := by decide +kernel
theorem d_law_931 : decode code 931 = .ok (.laload, 1) := by decide +kernel
theorem d_law_932 : decode code 932 = .ok (.iload 6, 2) := by decide +kernel
theorem d_law_934 : decode code 934 = .ok (.i2l, 1) := by decide +kernel
theorem d_law_935 : decode code 935 = .ok (.lcmp, 1) := by decide +kernel
theorem d_law_936 : decode code 936 = .ok (.ifCond .eq 5, 3) := by decide +kernel
theorem d_law_939 : decode code 939 = .ok (.iconst 0, 1) := by decide +kernel
theorem d_law_940 : decode code 940 = .ok (.ireturn, 1) := by decide +kernel
theorem d_law_941 : decode code 941 = .ok (.goto 1908, 3) := by decide +kernel
theorem d_law_944 : decode code 944 = .ok (.aload_n 1, 1) := by decide +kernel
theorem d_law_945 : decode code 945 = .ok (.aload_n 0, 1) := by decide +kernel
theorem d_law_946 : decode code 946 = .ok (.iload 4, 2) := by decide +kernel
theorem d_law_948 : decode code 948 = .ok (.iconst 1, 1) := by decide +kernel
theorem d_law_949 : decode code 949 = .ok (.iadd, 1) := by decide +kernel
theorem d_law_950 : decode code 950 = .ok (.iaload, 1) := by decide +kernel
theorem d_law_951 : decode code 951 = .ok (.aload_n 0, 1) := by decide +kernel
theorem d_law_952 : decode code 952 = .ok (.iload 4, 2) := by decide +kernel
theorem d_law_954 : decode code 954 = .ok (.iconst 2, 1) := by decide +kernel
theorem d_law_955 : decode code 955 = .ok (.iadd, 1) := by decide +kernel
theorem d_law_956 : decode code 956 = .ok (.iaload, 1) := by decide +kernel
theorem d_law_957 : decode code 957 = .ok (.aload_n 0, 1) := by decide +kernel
theorem d_law_958 : decode code 958 = .ok (.iload 4, 2) := by decide +kernel
theorem d_law_960 : decode code 960 = .ok (.iconst 3, 1) := by decide +kernel
theorem d_law_961 : decode code 961 = .ok (.iadd, 1) := by decide +kernel
theorem d_law_962 : decode code 962 = .ok (.iaload, 1) := by decide +kernel
theorem d_law_963 : decode code 963 = .ok (.aload_n 0, 1) := by decide +kernel
theorem d_law_964 : decode code 964 = .ok (.iload 4, 2) := by decide +kernel
theorem d_law_966 : decode code 966 = .ok (.iconst 4, 1) := by decide +kernel
theorem d_law_967 : decode code 967 = .ok (.iadd, 1) := by decide +kernel
theorem d_law_968 : decode code 968 = .ok (.iaload, 1) := by decide +kernel
theorem d_law_969 : decode code 969 = .ok (.aload_n 3, 1) := by decide +kernel
theorem d_law_970 : decode code 970 = .ok (.invokestatic 190, 3) := by decide +kernel
theorem d_law_973 : decode code 973 = .ok (.istore 5, 2) := by decide +kernel
theorem d_law_975 : decode code 975 = .ok (.aload_n 2, 1) := by decide +kernel
theorem d_law_976 : decode code 976 = .ok (.aload_n 0, 1) := by decide +kernel
theorem d_law_977 : decode code 977 = .ok (.iload 4, 2) := by decide +kernel
theorem d_law_979 : decode code 979 = .ok (.iconst 1, 1) := by decide +kernel
theorem d_law_980 : decode code 980 = .ok (.iadd, 1) := by decide +kernel
theorem d_law_981 : decode code 981 = .ok (.iaload, 1) := by decide +kernel
theorem d_law_982 : decode code 982 = .ok (.aload_n 0, 1) := by decide +kernel
theorem d_law_983 : decode code 983 = .ok (.iload 4, 2) := by decide +kernel
theorem d_law_985 : decode code 985 = .ok (.iconst 2, 1) := by decide +kernel
theorem d_law_986 : decode code 986 = .ok (.iadd, 1) := by decide +kernel
theorem d_law_987 : decode code 987 = .ok (.iaload, 1) := by decide +kernel
theorem d_law_988 : decode code 988 = .ok (.aload_n 0, 1) := by decide +kernel
theorem d_law_989 : decode code 989 = .ok (.iload 4, 2) := by decide +kernel
theorem d_law_991 : decode code 991 = .ok (.iconst 3, 1) := by decide +kernel
theorem d_law_992 : decode code 992 = .ok (.iadd, 1) := by decide +kernel
theorem d_law_993 : decode code 993 = .ok (.iaload, 1) := by decide +kernel
theorem d_law_994 : decode code 994 = .ok (.aload_n 0, 1) := by decide +kernel
theorem d_law_995 : decode code 995 = .ok (.iload 4, 2) := by decide +kernel
theorem d_law_997 : decode code 997 = .ok (.iconst 4, 1) := by decide +kernel
theorem d_law_998 : decode code 998 = .ok (.iadd, 1) := by decide +kernel
theorem d_law_999 : decode code 999 = .ok (.iaload, 1) := by decide +kernel
theorem d_law_1000 : decode code 1000 = .ok (.invokevirtual 192, 3) := by decide +kernel
theorem d_law_1003 : decode code 1003 = .ok (.istore 6, 2) := by decide +kernel
theorem d_law_1005 : decode code 1005 = .ok (.aload_n 2, 1) := by decide +kernel
theorem d_law_1006 : decode code 1006 = .ok (.invokevirtual 153, 3) := by decide +kernel
theorem d_law_1009 : decode code 1009 = .ok (.iload 5, 2) := by decide +kernel
theorem d_law_1011 : decode code 1011 = .ok (.if_icmp .eq 5, 3) := by decide +kernel
theorem d_law_1014 : decode code 1014 = .ok (.iconst 0, 1) := by decide +kernel
theorem d_law_1015 : decode code 1015 = .ok (.ireturn, 1) := by decide +kernel
theorem d_law_1016 : decode code 1016 = .ok (.iload 5, 2) := by decide +kernel
theorem d_law_1018 : decode code 1018 = .ok (.ifCond .ne 15, 3) := by decide +kernel
theorem d_law_1021 : decode code 1021 = .ok (.aload_n 3, 1) := by decide +kernel
theorem d_law_1022 : decode code 1022 = .ok (.iconst 0, 1) := by decide +kernel
theorem d_law_1023 : decode code 1023 = .ok (.laload, 1) := by decide +kernel
theorem d_law_1024 : decode code 1024 = .ok (.iload 6, 2) := by decide +kernel
theorem d_law_1026 : decode code 1026 = .ok (.i2l, 1) := by decide +kernel
theorem d_law_1027 : decode code 1027 = .ok (.lcmp, 1) := by decide +kernel
theorem d_law_1028 : decode code 1028 = .ok (.ifCond .eq 5, 3) := by decide +kernel
theorem d_law_1031 : decode code 1031 = .ok (.iconst 0, 1) := by decide +kernel
theorem d_law_1032 : decode code 1032 = .ok (.ireturn, 1) := by decide +kernel
theorem d_law_1033 : decode code 1033 = .ok (.goto 1816, 3) := by decide +kernel
theorem d_law_1036 : decode code 1036 = .ok (.aload_n 1, 1) := by decide +kernel
theorem d_law_1037 : decode code 1037 = .ok (.aload_n 0, 1) := by decide +kernel
theorem d_law_1038 : decode code 1038 = .ok (.iload 4, 2) := by decide +kernel
theorem d_law_1040 : decode code 1040 = .ok (.iconst 1, 1) := by decide +kernel
theorem d_law_1041 : decode code 1041 = .ok (.iadd, 1) := by decide +kernel
theorem d_law_1042 : decode code 1042 = .ok (.iaload, 1) := by decide +kernel
theorem d_law_1043 : decode code 1043 = .ok (.invokestatic 193, 3) := by decide +kernel
theorem d_law_1046 : decode code 1046 = .ok (.istore 5, 2) := by decide +kernel
theorem d_law_1048 : decode code 1048 = .ok (.aload_n 2, 1) := by decide +kernel
theorem d_law_1049 : decode code 1049 = .ok (.aload_n 0, 1) := by decide +kernel
theorem d_law_1050 : decode code 1050 = .ok (.iload 4, 2) := by decide +kernel
theorem d_law_1052 : decode code 1052 = .ok (.iconst 1, 1) := by decide +kernel
theorem d_law_1053 : decode code 1053 = .ok (.iadd, 1) := by decide +kernel
theorem d_law_1054 : decode code 1054 = .ok (.iaload, 1) := by decide +kernel
theorem d_law_1055 : decode code 1055 = .ok (.invokevirtual 196, 3) := by decide +kernel
theorem d_law_1058 : decode code 1058 = .ok (.aload_n 2, 1) := by decide +kernel
theorem d_law_1059 : decode code 1059 = .ok (.invokevirtual 153, 3) := by decide +kernel
theorem d_law_1062 : decode code 1062 = .ok (.iload 5, 2) := by decide +kernel
theorem d_law_1064 : decode code 1064 = .ok (.if_icmp .eq 5, 3) := by decide +kernel
theorem d_law_1067 : decode code 1067 = .ok (.iconst 0, 1) := by decide +kernel
theorem d_law_1068 : decode code 1068 = .ok (.ireturn, 1) := by decide +kernel
theorem d_law_1069 : decode code 1069 = .ok (.goto 1780, 3) := by decide +kernel
theorem d_law_1072 : decode code 1072 = .ok (.aload_n 1, 1) := by decide +kernel
theorem d_law_1073 : decode code 1073 = .ok (.aload_n 0, 1) := by decide +kernel
theorem d_law_1074 : decode code 1074 = .ok (.iload 4, 2) := by decide +kernel
theorem d_law_1076 : decode code 1076 = .ok (.iconst 1, 1) := by decide +kernel
theorem d_law_1077 : decode code 1077 = .ok (.iadd, 1) := by decide +kernel
theorem d_law_1078 : decode code 1078 = .ok (.iaload, 1) := by decide +kernel
theorem d_law_1079 : decode code 1079 = .ok (.invokestatic 197, 3) := by decide +kernel
theorem d_law_1082 : decode code 1082 = .ok (.istore 5, 2) := by decide +kernel
theorem d_law_1084 : decode code 1084 = .ok (.aload_n 2, 1) := by decide +kernel
theorem d_law_1085 : decode code 1085 = .ok (.aload_n 0, 1) := by decide +kernel
theorem d_law_1086 : decode code 1086 = .ok (.iload 4, 2) := by decide +kernel
theorem d_law_1088 : decode code 1088 = .ok (.iconst 1, 1) := by decide +kernel
theorem d_law_1089 : decode code 1089 = .ok (.iadd, 1) := by decide +kernel
theorem d_law_1090 : decode code 1090 = .ok (.iaload, 1) := by decide +kernel
theorem d_law_1091 : decode code 1091 = .ok (.invokevirtual 199, 3) := by decide +kernel
theorem d_law_1094 : decode code 1094 = .ok (.aload_n 2, 1) := by decide +kernel
theorem d_law_1095 : decode code 1095 = .ok (.invokevirtual 153, 3) := by decide +kernel
theorem d_law_1098 : decode code 1098 = .ok (.iload 5, 2) := by decide +kernel
theorem d_law_1100 : decode code 1100 = .ok (.if_icmp .eq 5, 3) := by decide +kernel
theorem d_law_1103 : decode code 1103 = .ok (.iconst 0, 1) := by decide +kernel
theorem d_law_1104 : decode code 1104 = .ok (.ireturn, 1) := by decide +kernel
theorem d_law_1105 : decode code 1105 = .ok (.goto 1744, 3) := by decide +kernel
theorem d_law_1108 : decode code 1108 = .ok (.aload_n 1, 1) := by decide +kernel
theorem d_law_1109 : decode code 1109 = .ok (.aload_n 0, 1) := by decide +kernel
theorem d_law_1110 : decode code 1110 = .ok (.iload 4, 2) := by decide +kernel
theorem d_law_1112 : decode code 1112 = .ok (.iconst 1, 1) := by decide +kernel
theorem d_law_1113 : decode code 1113 = .ok (.iadd, 1) := by decide +kernel
theorem d_law_1114 : decode code 1114 = .ok (.iaload, 1) := by decide +kernel
theorem d_law_1115 : decode code 1115 = .ok (.aload_n 3, 1) := by decide +kernel
theorem d_law_1116 : decode code 1116 = .ok (.invokestatic 200, 3) := by decide +kernel
theorem d_law_1119 : decode code 1119 = .ok (.istore 5, 2) := by decide +kernel
theorem d_law_1121 : decode code 1121 = .ok (.aload_n 2, 1) := by decide +kernel
theorem d_law_1122 : decode code 1122 = .ok (.aload_n 0, 1) := by decide +kernel
theorem d_law_1123 : decode code 1123 = .ok (.iload 4, 2) := by decide +kernel
theorem d_law_1125 : decode code 1125 = .ok (.iconst 1, 1) := by decide +kernel
theorem d_law_1126 : decode code 1126 = .ok (.iadd, 1) := by decide +kernel
theorem d_law_1127 : decode code 1127 = .ok (.iaload, 1) := by decide +kernel
theorem d_law_1128 : decode code 1128 = .ok (.invokevirtual 202, 3) := by decide +kernel
theorem d_law_1131 : decode code 1131 = .ok (.istore 6, 2) := by decide +kernel
theorem d_law_1133 : decode code 1133 = .ok (.aload_n 2, 1) := by decide +kernel
theorem d_law_1134 : decode code 1134 = .ok (.invokevirtual 153, 3) := by decide +kernel
theorem d_law_1137 : decode code 1137 = .ok (.iload 5, 2) := by decide +kernel
theorem d_law_1139 : decode code 1139 = .ok (.if_icmp .eq 5, 3) := by decide +kernel
theorem d_law_1142 : decode code 1142 = .ok (.iconst 0, 1) := by decide +kernel
theorem d_law_1143 : decode code 1143 = .ok (.ireturn, 1) := by decide +kernel
theorem d_law_1144 : decode code 1144 = .ok (.iload 5, 2) := by decide +kernel
theorem d_law_1146 : decode code 1146 = .ok (.ifCond .ne 15, 3) := by decide +kernel
theorem d_law_1149 : decode code 1149 = .ok (.aload_n 3, 1) := by decide +kernel
theorem d_law_1150 : decode code 1150 = .ok (.iconst 0, 1) := by decide +kernel
theorem d_law_1151 : decode code 1151 = .ok (.laload, 1) := by decide +kernel
theorem d_law_1152 : decode code 1152 = .ok (.iload 6, 2) := by decide +kernel
theorem d_law_1154 : decode code 1154 = .ok (.i2l, 1) := by decide +kernel
theorem d_law_1155 : decode code 1155 = .ok (.lcmp, 1) := by decide +kernel
theorem d_law_1156 : decode code 1156 = .ok (.ifCond .eq 5, 3) := by decide +kernel
theorem d_law_1159 : decode code 1159 = .ok (.iconst 0, 1) := by decide +kernel
theorem d_law_1160 : decode code 1160 = .ok (.ireturn, 1) := by decide +kernel
theorem d_law_1161 : decode code 1161 = .ok (.goto 1688, 3) := by decide +kernel
theorem d_law_1164 : decode code 1164 = .ok (.aload_n 1, 1) := by decide +kernel
theorem d_law_1165 : decode code 1165 = .ok (.aload_n 0, 1) := by decide +kernel
theorem d_law_1166 : decode code 1166 = .ok (.iload 4, 2) := by decide +kernel
theorem d_law_1168 : decode code 1168 = .ok (.iconst 1, 1) := by decide +kernel
theorem d_law_1169 : decode code 1169 = .ok (.iadd, 1) := by decide +kernel
theorem d_law_1170 : decode code 1170 = .ok (.iaload, 1) := by decide +kernel
theorem d_law_1171 : decode code 1171 = .ok (.aload_n 0, 1) := by decide +kernel
theorem d_law_1172 : decode code 1172 = .ok (.iload 4, 2) := by decide +kernel
theorem d_law_1174 : decode code 1174 = .ok (.iconst 2, 1) := by decide +kernel
theorem d_law_1175 : decode code 1175 = .ok (.iadd, 1) := by decide +kernel
theorem d_law_1176 : decode code 1176 = .ok (.iaload, 1) := by decide +kernel
theorem d_law_1177 : decode code 1177 = .ok (.aload_n 3, 1) := by decide +kernel
theorem d_law_1178 : decode code 1178 = .ok (.invokestatic 203, 3) := by decide +kernel
theorem d_law_1181 : decode code 1181 = .ok (.istore 5, 2) := by decide +kernel
theorem d_law_1183 : decode code 1183 = .ok (.aload_n 2, 1) := by decide +kernel
theorem d_law_1184 : decode code 1184 = .ok (.aload_n 0, 1) := by decide +kernel
theorem d_law_1185 : decode code 1185 = .ok (.iload 4, 2) := by decide +kernel
theorem d_law_1187 : decode code 1187 = .ok (.iconst 1, 1) := by decide +kernel
theorem d_law_1188 : decode code 1188 = .ok (.iadd, 1) := by decide +kernel
theorem d_law_1189 : decode code 1189 = .ok (.iaload, 1) := by decide +kernel
theorem d_law_1190 : decode code 1190 = .ok (.aload_n 0, 1) := by decide +kernel
theorem d_law_1191 : decode code 1191 = .ok (.iload 4, 2) := by decide +kernel
theorem d_law_1193 : decode code 1193 = .ok (.iconst 2, 1) := by decide +kernel
theorem d_law_1194 : decode code 1194 = .ok (.iadd, 1) := by decide +kernel
theorem d_law_1195 : decode code 1195 = .ok (.iaload, 1) := by decide +kernel
theorem d_law_1196 : decode code 1196 = .ok (.invokevirtual 205, 3) := by decide +kernel
theorem d_law_1199 : decode code 1199 = .ok (.istore 6, 2) := by decide +kernel
theorem d_law_1201 : decode code 1201 = .ok (.aload_n 2, 1) := by decide +kernel
theorem d_law_1202 : decode code 1202 = .ok (.invokevirtual 153, 3) := by decide +kernel
theorem d_law_1205 : decode code 1205 = .ok (.iload 5, 2) := by decide +kernel
theorem d_law_1207 : decode code 1207 = .ok (.if_icmp .eq 5, 3) := by decide +kernel
theorem d_law_1210 : decode code 1210 = .ok (.iconst 0, 1) := by decide +kernel
theorem d_law_1211 : decode code 1211 = .ok (.ireturn, 1) := by decide +kernel
theorem d_law_1212 : decode code 1212 = .ok (.iload 5, 2) := by decide +kernel
theorem d_law_1214 : decode code 1214 = .ok (.ifCond .ne 15, 3) := by decide +kernel
theorem d_law_1217 : decode code 1217 = .ok (.aload_n 3, 1) := by decide +kernel
theorem d_law_1218 : decode code 1218 = .ok (.iconst 0, 1) := by decide +kernel
theorem d_law_1219 : decode code 1219 = .ok (.laload, 1) := by decide +kernel
theorem d_law_1220 : decode code 1220 = .ok (.iload 6, 2) := by decide +kernel
theorem d_law_1222 : decode code 1222 = .ok (.i2l, 1) := by decide +kernel
theorem d_law_1223 : decode code 1223 = .ok (.lcmp, 1) := by decide +kernel
theorem d_law_1224 : decode code 1224 = .ok (.ifCond .eq 5, 3) := by decide +kernel
theorem d_law_1227 : decode code 1227 = .ok (.iconst 0, 1) := by decide +kernel
theorem d_law_1228 : decode code 1228 = .ok (.ireturn, 1) := by decide +kernel
theorem d_law_1229 : decode code 1229 = .ok (.goto 1620, 3) := by decide +kernel
theorem d_law_1232 : decode code 1232 = .ok (.aload_n 1, 1) := by decide +kernel
theorem d_law_1233 : decode code 1233 = .ok (.aload_n 0, 1) := by decide +kernel
theorem d_law_1234 : decode code 1234 = .ok (.iload 4, 2) := by decide +kernel
theorem d_law_1236 : decode code 1236 = .ok (.iconst 1, 1) := by decide +kernel
theorem d_law_1237 : decode code 1237 = .ok (.iadd, 1) := by decide +kernel
theorem d_law_1238 : decode code 1238 = .ok (.iaload, 1) := by decide +kernel
theorem d_law_1239 : decode code 1239 = .ok (.aload_n 0, 1) := by decide +kernel
theorem d_law_1240 : decode code 1240 = .ok (.iload 4, 2) := by decide +kernel
theorem d_law_1242 : decode code 1242 = .ok (.iconst 2, 1) := by decide +kernel
theorem d_law_1243 : decode code 1243 = .ok (.iadd, 1) := by decide +kernel
theorem d_law_1244 : decode code 1244 = .ok (.iaload, 1) := by decide +kernel
theorem d_law_1245 : decode code 1245 = .ok (.aload_n 3, 1) := by decide +kernel
theorem d_law_1246 : decode code 1246 = .ok (.invokestatic 206, 3) := by decide +kernel
theorem d_law_1249 : decode code 1249 = .ok (.istore 5, 2) := by decide +kernel
theorem d_law_1251 : decode code 1251 = .ok (.aload_n 2, 1) := by decide +kernel
theorem d_law_1252 : decode code 1252 = .ok (.aload_n 0, 1) := by decide +kernel
theorem d_law_1253 : decode code 1253 = .ok (.iload 4, 2) := by decide +kernel
theorem d_law_1255 : decode code 1255 = .ok (.iconst 1, 1) := by decide +kernel
theorem d_law_1256 : decode code 1256 = .ok (.iadd, 1) := by decide +kernel
theorem d_law_1257 : decode code 1257 = .ok (.iaload, 1) := by decide +kernel
theorem d_law_1258 : decode code 1258 = .ok (.aload_n 0, 1) := by decide +kernel
theorem d_law_1259 : decode code 1259 = .ok (.iload 4, 2) := by decide +kernel
theorem d_law_1261 : decode code 1261 = .ok (.iconst 2, 1) := by decide +kernel
theorem d_law_1262 : decode code 1262 = .ok (.iadd, 1) := by decide +kernel
theorem d_law_1263 : decode code 1263 = .ok (.iaload, 1) := by decide +kernel
theorem d_law_1264 : decode code 1264 = .ok (.invokevirtual 208, 3) := by decide +kernel
theorem d_law_1267 : decode code 1267 = .ok (.istore 6, 2) := by decide +kernel
theorem d_law_1269 : decode code 1269 = .ok (.aload_n 2, 1) := by decide +kernel
theorem d_law_1270 : decode code 1270 = .ok (.invokevirtual 153, 3) := by decide +kernel
theorem d_law_1273 : decode code 1273 = .ok (.iload 5, 2) := by decide +kernel
theorem d_law_1275 : decode code 1275 = .ok (.if_icmp .eq 5, 3) := by decide +kernel
theorem d_law_1278 : decode code 1278 = .ok (.iconst 0, 1) := by decide +kernel
theorem d_law_1279 : decode code 1279 = .ok (.ireturn, 1) := by decide +kernel
theorem d_law_1280 : decode code 1280 = .ok (.iload 5, 2) := by decide +kernel
theorem d_law_1282 : decode code 1282 = .ok (.ifCond .ne 15, 3) := by decide +kernel
theorem d_law_1285 : decode code 1285 = .ok (.aload_n 3, 1) := by decide +kernel
theorem d_law_1286 : decode code 1286 = .ok (.iconst 0, 1) := by decide +kernel
theorem d_law_1287 : decode code 1287 = .ok (.laload, 1) := by decide +kernel
theorem d_law_1288 : decode code 1288 = .ok (.iload 6, 2) := by decide +kernel
theorem d_law_1290 : decode code 1290 = .ok (.i2l, 1) := by decide +kernel
theorem d_law_1291 : decode code 1291 = .ok (.lcmp, 1) := by decide +kernel
theorem d_law_1292 : decode code 1292 = .ok (.ifCond .eq 5, 3) := by decide +kernel
theorem d_law_1295 : decode code 1295 = .ok (.iconst 0, 1) := by decide +kernel
theorem d_law_1296 : decode code 1296 = .ok (.ireturn, 1) := by decide +kernel
theorem d_law_1297 : decode code 1297 = .ok (.goto 1552, 3) := by decide +kernel
theorem d_law_1300 : decode code 1300 = .ok (.aload_n 1, 1) := by decide +kernel
theorem d_law_1301 : decode code 1301 = .ok (.aload_n 0, 1) := by decide +kernel
theorem d_law_1302 : decode code 1302 = .ok (.iload 4, 2) := by decide +kernel
theorem d_law_1304 : decode code 1304 = .ok (.iconst 1, 1) := by decide +kernel
theorem d_law_1305 : decode code 1305 = .ok (.iadd, 1) := by decide +kernel
theorem d_law_1306 : decode code 1306 = .ok (.iaload, 1) := by decide +kernel
theorem d_law_1307 : decode code 1307 = .ok (.aload_n 3, 1) := by decide +kernel
theorem d_law_1308 : decode code 1308 = .ok (.invokestatic 209, 3) := by decide +kernel
theorem d_law_1311 : decode code 1311 = .ok (.istore 5, 2) := by decide +kernel
theorem d_law_1313 : decode code 1313 = .ok (.aload_n 2, 1) := by decide +kernel
theorem d_law_1314 : decode code 1314 = .ok (.aload_n 0, 1) := by decide +kernel
theorem d_law_1315 : decode code 1315 = .ok (.iload 4, 2) := by decide +kernel
theorem d_law_1317 : decode code 1317 = .ok (.iconst 1, 1) := by decide +kernel
theorem d_law_1318 : decode code 1318 = .ok (.iadd, 1) := by decide +kernel
theorem d_law_1319 : decode code 1319 = .ok (.iaload, 1) := by decide +kernel
theorem d_law_1320 : decode code 1320 = .ok (.invokevirtual 211, 3) := by decide +kernel
theorem d_law_1323 : decode code 1323 = .ok (.istore 6, 2) := by decide +kernel
theorem d_law_1325 : decode code 1325 = .ok (.aload_n 2, 1) := by decide +kernel
theorem d_law_1326 : decode code 1326 = .ok (.invokevirtual 153, 3) := by decide +kernel
theorem d_law_1329 : decode code 1329 = .ok (.iload 5, 2) := by decide +kernel
theorem d_law_1331 : decode code 1331 = .ok (.if_icmp .eq 5, 3) := by decide +kernel
theorem d_law_1334 : decode code 1334 = .ok (.iconst 0, 1) := by decide +kernel
theorem d_law_1335 : decode code 1335 = .ok (.ireturn, 1) := by decide +kernel
theorem d_law_1336 : decode code 1336 = .ok (.iload 5, 2) := by decide +kernel
theorem d_law_1338 : decode code 1338 = .ok (.ifCond .ne 15, 3) := by decide +kernel
theorem d_law_1341 : decode code 1341 = .ok (.aload_n 3, 1) := by decide +kernel
theorem d_law_1342 : decode code 1342 = .ok (.iconst 0, 1) := by decide +kernel
theorem d_law_1343 : decode code 1343 = .ok (.laload, 1) := by decide +kernel
theorem d_law_1344 : decode code 1344 = .ok (.iload 6, 2) := by decide +kernel
theorem d_law_1346 : decode code 1346 = .ok (.i2l, 1) := by decide +kernel
theorem d_law_1347 : decode code 1347 = .ok (.lcmp, 1) := by decide +kernel
theorem d_law_1348 : decode code 1348 = .ok (.ifCond .eq 5, 3) := by decide +kernel
theorem d_law_1351 : decode code 1351 = .ok (.iconst 0, 1) := by decide +kernel
theorem d_law_1352 : decode code 1352 = .ok (.ireturn, 1) := by decide +kernel
theorem d_law_1353 : decode code 1353 = .ok (.goto 1496, 3) := by decide +kernel
theorem d_law_1356 : decode code 1356 = .ok (.aload_n 1, 1) := by decide +kernel
theorem d_law_1357 : decode code 1357 = .ok (.aload_n 0, 1) := by decide +kernel
theorem d_law_1358 : decode code 1358 = .ok (.iload 4, 2) := by decide +kernel
theorem d_law_1360 : decode code 1360 = .ok (.iconst 1, 1) := by decide +kernel
theorem d_law_1361 : decode code 1361 = .ok (.iadd, 1) := by decide +kernel
theorem d_law_1362 : decode code 1362 = .ok (.iaload, 1) := by decide +kernel
theorem d_law_1363 : decode code 1363 = .ok (.aload_n 3, 1) := by decide +kernel
theorem d_law_1364 : decode code 1364 = .ok (.invokestatic 212, 3) := by decide +kernel
theorem d_law_1367 : decode code 1367 = .ok (.istore 5, 2) := by decide +kernel
theorem d_law_1369 : decode code 1369 = .ok (.aload_n 2, 1) := by decide +kernel
theorem d_law_1370 : decode code 1370 = .ok (.aload_n 0, 1) := by decide +kernel
theorem d_law_1371 : decode code 1371 = .ok (.iload 4, 2) := by decide +kernel
theorem d_law_1373 : decode code 1373 = .ok (.iconst 1, 1) := by decide +kernel
theorem d_law_1374 : decode code 1374 = .ok (.iadd, 1) := by decide +kernel
theorem d_law_1375 : decode code 1375 = .ok (.iaload, 1) := by decide +kernel
theorem d_law_1376 : decode code 1376 = .ok (.invokevirtual 214, 3) := by decide +kernel
theorem d_law_1379 : decode code 1379 = .ok (.istore 6, 2) := by decide +kernel
theorem d_law_1381 : decode code 1381 = .ok (.aload_n 2, 1) := by decide +kernel
theorem d_law_1382 : decode code 1382 = .ok (.invokevirtual 153, 3) := by decide +kernel
theorem d_law_1385 : decode code 1385 = .ok (.iload 5, 2) := by decide +kernel
theorem d_law_1387 : decode code 1387 = .ok (.if_icmp .eq 5, 3) := by decide +kernel
theorem d_law_1390 : decode code 1390 = .ok (.iconst 0, 1) := by decide +kernel
theorem d_law_1391 : decode code 1391 = .ok (.ireturn, 1) := by decide +kernel
theorem d_law_1392 : decode code 1392 = .ok (.iload 5, 2) := by decide +kernel
theorem d_law_1394 : decode code 1394 = .ok (.ifCond .ne 15, 3) := by decide +kernel
theorem d_law_1397 : decode code 1397 = .ok (.aload_n 3, 1) := by decide +kernel
theorem d_law_1398 : decode code 1398 = .ok (.iconst 0, 1) := by decide +kernel
theorem d_law_1399 : decode code 1399 = .ok (.laload, 1) := by decide +kernel
theorem d_law_1400 : decode code 1400 = .ok (.iload 6, 2) := by decide +kernel
theorem d_law_1402 : decode code 1402 = .ok (.i2l, 1) := by decide +kernel
theorem d_law_1403 : decode code 1403 = .ok (.lcmp, 1) := by decide +kernel
theorem d_law_1404 : decode code 1404 = .ok (.ifCond .eq 5, 3) := by decide +kernel
theorem d_law_1407 : decode code 1407 = .ok (.iconst 0, 1) := by decide +kernel
theorem d_law_1408 : decode code 1408 = .ok (.ireturn, 1) := by decide +kernel
theorem d_law_1409 : decode code 1409 = .ok (.goto 1440, 3) := by decide +kernel
theorem d_law_1412 : decode code 1412 = .ok (.aload_n 1, 1) := by decide +kernel
theorem d_law_1413 : decode code 1413 = .ok (.aload_n 0, 1) := by decide +kernel
theorem d_law_1414 : decode code 1414 = .ok (.iload 4, 2) := by decide +kernel
theorem d_law_1416 : decode code 1416 = .ok (.iconst 1, 1) := by decide +kernel
theorem d_law_1417 : decode code 1417 = .ok (.iadd, 1) := by decide +kernel
theorem d_law_1418 : decode code 1418 = .ok (.iaload, 1) := by decide +kernel
theorem d_law_1419 : decode code 1419 = .ok (.aload_n 3, 1) := by decide +kernel
theorem d_law_1420 : decode code 1420 = .ok (.invokestatic 215, 3) := by decide +kernel
theorem d_law_1423 : decode code 1423 = .ok (.istore 5, 2) := by decide +kernel
theorem d_law_1425 : decode code 1425 = .ok (.aload_n 2, 1) := by decide +kernel
theorem d_law_1426 : decode code 1426 = .ok (.aload_n 0, 1) := by decide +kernel
theorem d_law_1427 : decode code 1427 = .ok (.iload 4, 2) := by decide +kernel
theorem d_law_1429 : decode code 1429 = .ok (.iconst 1, 1) := by decide +kernel
theorem d_law_1430 : decode code 1430 = .ok (.iadd, 1) := by decide +kernel
theorem d_law_1431 : decode code 1431 = .ok (.iaload, 1) := by decide +kernel
theorem d_law_1432 : decode code 1432 = .ok (.invokevirtual 217, 3) := by decide +kernel
theorem d_law_1435 : decode code 1435 = .ok (.istore 6, 2) := by decide +kernel
theorem d_law_1437 : decode code 1437 = .ok (.aload_n 2, 1) := by decide +kernel
theorem d_law_1438 : decode code 1438 = .ok (.invokevirtual 153, 3) := by decide +kernel
theorem d_law_1441 : decode code 1441 = .ok (.iload 5, 2) := by decide +kernel
theorem d_law_1443 : decode code 1443 = .ok (.if_icmp .eq 5, 3) := by decide +kernel
theorem d_law_1446 : decode code 1446 = .ok (.iconst 0, 1) := by decide +kernel
theorem d_law_1447 : decode code 1447 = .ok (.ireturn, 1) := by decide +kernel
theorem d_law_1448 : decode code 1448 = .ok (.iload 5, 2) := by decide +kernel
theorem d_law_1450 : decode code 1450 = .ok (.ifCond .ne 15, 3) := by decide +kernel
theorem d_law_1453 : decode code 1453 = .ok (.aload_n 3, 1) := by decide +kernel
theorem d_law_1454 : decode code 1454 = .ok (.iconst 0, 1) := by decide +kernel
theorem d_law_1455 : decode code 1455 = .ok (.laload, 1) := by decide +kernel
theorem d_law_1456 : decode code 1456 = .ok (.iload 6, 2) := by decide +kernel
theorem d_law_1458 : decode code 1458 = .ok (.i2l, 1) := by decide +kernel
theorem d_law_1459 : decode code 1459 = .ok (.lcmp, 1) := by decide +kernel
theorem d_law_1460 : decode code 1460 = .ok (.ifCond .eq 5, 3) := by decide +kernel
theorem d_law_1463 : decode code 1463 = .ok (.iconst 0, 1) := by decide +kernel
theorem d_law_1464 : decode code 1464 = .ok (.ireturn, 1) := by decide +kernel
theorem d_law_1465 : decode code 1465 = .ok (.goto 1384, 3) := by decide +kernel
theorem d_law_1468 : decode code 1468 = .ok (.aload_n 1, 1) := by decide +kernel
theorem d_law_1469 : decode code 1469 = .ok (.aload_n 0, 1) := by decide +kernel
theorem d_law_1470 : decode code 1470 = .ok (.iload 4, 2) := by decide +kernel
theorem d_law_1472 : decode code 1472 = .ok (.iconst 1, 1) := by decide +kernel
theorem d_law_1473 : decode code 1473 = .ok (.iadd, 1) := by decide +kernel
theorem d_law_1474 : decode code 1474 = .ok (.iaload, 1) := by decide +kernel
theorem d_law_1475 : decode code 1475 = .ok (.aload_n 0, 1) := by decide +kernel
theorem d_law_1476 : decode code 1476 = .ok (.iload 4, 2) := by decide +kernel
theorem d_law_1478 : decode code 1478 = .ok (.iconst 2, 1) := by decide +kernel
theorem d_law_1479 : decode code 1479 = .ok (.iadd, 1) := by decide +kernel
theorem d_law_1480 : decode code 1480 = .ok (.iaload, 1) := by decide +kernel
theorem d_law_1481 : decode code 1481 = .ok (.aload_n 0, 1) := by decide +kernel
theorem d_law_1482 : decode code 1482 = .ok (.iload 4, 2) := by decide +kernel
theorem d_law_1484 : decode code 1484 = .ok (.iconst 3, 1) := by decide +kernel
theorem d_law_1485 : decode code 1485 = .ok (.iadd, 1) := by decide +kernel
theorem d_law_1486 : decode code 1486 = .ok (.iaload, 1) := by decide +kernel
theorem d_law_1487 : decode code 1487 = .ok (.aload_n 3, 1) := by decide +kernel
theorem d_law_1488 : decode code 1488 = .ok (.invokestatic 218, 3) := by decide +kernel
theorem d_law_1491 : decode code 1491 = .ok (.istore 5, 2) := by decide +kernel
theorem d_law_1493 : decode code 1493 = .ok (.aload_n 2, 1) := by decide +kernel
theorem d_law_1494 : decode code 1494 = .ok (.aload_n 0, 1) := by decide +kernel
theorem d_law_1495 : decode code 1495 = .ok (.iload 4, 2) := by decide +kernel
theorem d_law_1497 : decode code 1497 = .ok (.iconst 1, 1) := by decide +kernel
theorem d_law_1498 : decode code 1498 = .ok (.iadd, 1) := by decide +kernel
theorem d_law_1499 : decode code 1499 = .ok (.iaload, 1) := by decide +kernel
theorem d_law_1500 : decode code 1500 = .ok (.aload_n 0, 1) := by decide +kernel
theorem d_law_1501 : decode code 1501 = .ok (.iload 4, 2) := by decide +kernel
theorem d_law_1503 : decode code 1503 = .ok (.iconst 2, 1) := by decide +kernel
theorem d_law_1504 : decode code 1504 = .ok (.iadd, 1) := by decide +kernel
theorem d_law_1505 : decode code 1505 = .ok (.iaload, 1) := by decide +kernel
theorem d_law_1506 : decode code 1506 = .ok (.aload_n 0, 1) := by decide +kernel
theorem d_law_1507 : decode code 1507 = .ok (.iload 4, 2) := by decide +kernel
theorem d_law_1509 : decode code 1509 = .ok (.iconst 3, 1) := by decide +kernel
theorem d_law_1510 : decode code 1510 = .ok (.iadd, 1) := by decide +kernel
theorem d_law_1511 : decode code 1511 = .ok (.iaload, 1) := by decide +kernel
theorem d_law_1512 : decode code 1512 = .ok (.invokevirtual 220, 3) := by decide +kernel
theorem d_law_1515 : decode code 1515 = .ok (.istore 6, 2) := by decide +kernel
theorem d_law_1517 : decode code 1517 = .ok (.aload_n 2, 1) := by decide +kernel
theorem d_law_1518 : decode code 1518 = .ok (.invokevirtual 153, 3) := by decide +kernel
theorem d_law_1521 : decode code 1521 = .ok (.iload 5, 2) := by decide +kernel
theorem d_law_1523 : decode code 1523 = .ok (.if_icmp .eq 5, 3) := by decide +kernel
theorem d_law_1526 : decode code 1526 = .ok (.iconst 0, 1) := by decide +kernel
theorem d_law_1527 : decode code 1527 = .ok (.ireturn, 1) := by decide +kernel
theorem d_law_1528 : decode code 1528 = .ok (.iload 5, 2) := by decide +kernel
theorem d_law_1530 : decode code 1530 = .ok (.ifCond .ne 15, 3) := by decide +kernel
theorem d_law_1533 : decode code 1533 = .ok (.aload_n 3, 1) := by decide +kernel
theorem d_law_1534 : decode code 1534 = .ok (.iconst 0, 1) := by decide +kernel
theorem d_law_1535 : decode code 1535 = .ok (.laload, 1) := by decide +kernel
theorem d_law_1536 : decode code 1536 = .ok (.iload 6, 2) := by decide +kernel
theorem d_law_1538 : decode code 1538 = .ok (.i2l, 1) := by decide +kernel
theorem d_law_1539 : decode code 1539 = .ok (.lcmp, 1) := by decide +kernel
theorem d_law_1540 : decode code 1540 = .ok (.ifCond .eq 5, 3) := by decide +kernel
theorem d_law_1543 : decode code 1543 = .ok (.iconst 0, 1) := by decide +kernel
theorem d_law_1544 : decode code 1544 = .ok (.ireturn, 1) := by decide +kernel
theorem d_law_1545 : decode code 1545 = .ok (.goto 1304, 3) := by decide +kernel
theorem d_law_1548 : decode code 1548 = .ok (.aload_n 1, 1) := by decide +kernel
theorem d_law_1549 : decode code 1549 = .ok (.aload_n 0, 1) := by decide +kernel
theorem d_law_1550 : decode code 1550 = .ok (.iload 4, 2) := by decide +kernel
theorem d_law_1552 : decode code 1552 = .ok (.iconst 1, 1) := by decide +kernel
theorem d_law_1553 : decode code 1553 = .ok (.iadd, 1) := by decide +kernel
theorem d_law_1554 : decode code 1554 = .ok (.iaload, 1) := by decide +kernel
theorem d_law_1555 : decode code 1555 = .ok (.aload_n 0, 1) := by decide +kernel
theorem d_law_1556 : decode code 1556 = .ok (.iload 4, 2) := by decide +kernel
theorem d_law_1558 : decode code 1558 = .ok (.iconst 2, 1) := by decide +kernel
theorem d_law_1559 : decode code 1559 = .ok (.iadd, 1) := by decide +kernel
theorem d_law_1560 : decode code 1560 = .ok (.iaload, 1) := by decide +kernel
theorem d_law_1561 : decode code 1561 = .ok (.aload_n 3, 1) := by decide +kernel
theorem d_law_1562 : decode code 1562 = .ok (.invokestatic 221, 3) := by decide +kernel
theorem d_law_1565 : decode code 1565 = .ok (.istore 5, 2) := by decide +kernel
theorem d_law_1567 : decode code 1567 = .ok (.aload_n 2, 1) := by decide +kernel
theorem d_law_1568 : decode code 1568 = .ok (.aload_n 0, 1) := by decide +kernel
theorem d_law_1569 : decode code 1569 = .ok (.iload 4, 2) := by decide +kernel
theorem d_law_1571 : decode code 1571 = .ok (.iconst 1, 1) := by decide +kernel
theorem d_law_1572 : decode code 1572 = .ok (.iadd, 1) := by decide +kernel
theorem d_law_1573 : decode code 1573 = .ok (.iaload, 1) := by decide +kernel
theorem d_law_1574 : decode code 1574 = .ok (.aload_n 0, 1) := by decide +kernel
theorem d_law_1575 : decode code 1575 = .ok (.iload 4, 2) := by decide +kernel
theorem d_law_1577 : decode code 1577 = .ok (.iconst 2, 1) := by decide +kernel
theorem d_law_1578 : decode code 1578 = .ok (.iadd, 1) := by decide +kernel
theorem d_law_1579 : decode code 1579 = .ok (.iaload, 1) := by decide +kernel
theorem d_law_1580 : decode code 1580 = .ok (.invokevirtual 223, 3) := by decide +kernel
theorem d_law_1583 : decode code 1583 = .ok (.istore 6, 2) := by decide +kernel
theorem d_law_1585 : decode code 1585 = .ok (.aload_n 2, 1) := by decide +kernel
theorem d_law_1586 : decode code 1586 = .ok (.invokevirtual 153, 3) := by decide +kernel
theorem d_law_1589 : decode code 1589 = .ok (.iload 5, 2) := by decide +kernel
theorem d_law_1591 : decode code 1591 = .ok (.if_icmp .eq 5, 3) := by decide +kernel
theorem d_law_1594 : decode code 1594 = .ok (.iconst 0, 1) := by decide +kernel
theorem d_law_1595 : decode code 1595 = .ok (.ireturn, 1) := by decide +kernel
theorem d_law_1596 : decode code 1596 = .ok (.iload 5, 2) := by decide +kernel
theorem d_law_1598 : decode code 1598 = .ok (.ifCond .ne 15, 3) := by decide +kernel
theorem d_law_1601 : decode code 1601 = .ok (.aload_n 3, 1) := by decide +kernel
theorem d_law_1602 : decode code 1602 = .ok (.iconst 0, 1) := by decide +kernel
theorem d_law_1603 : decode code 1603 = .ok (.laload, 1) := by decide +kernel
theorem d_law_1604 : decode code 1604 = .ok (.iload 6, 2) := by decide +kernel
theorem d_law_1606 : decode code 1606 = .ok (.i2l, 1) := by decide +kernel
theorem d_law_1607 : decode code 1607 = .ok (.lcmp, 1) := by decide +kernel
theorem d_law_1608 : decode code 1608 = .ok (.ifCond .eq 5, 3) := by decide +kernel
theorem d_law_1611 : decode code 1611 = .ok (.iconst 0, 1) := by decide +kernel
theorem d_law_1612 : decode code 1612 = .ok (.ireturn, 1) := by decide +kernel
theorem d_law_1613 : decode code 1613 = .ok (.goto 1236, 3) := by decide +kernel
theorem d_law_1616 : decode code 1616 = .ok (.aload_n 1, 1) := by decide +kernel
theorem d_law_1617 : decode code 1617 = .ok (.aload_n 0, 1) := by decide +kernel
theorem d_law_1618 : decode code 1618 = .ok (.iload 4, 2) := by decide +kernel
theorem d_law_1620 : decode code 1620 = .ok (.iconst 1, 1) := by decide +kernel
theorem d_law_1621 : decode code 1621 = .ok (.iadd, 1) := by decide +kernel
theorem d_law_1622 : decode code 1622 = .ok (.iaload, 1) := by decide +kernel
theorem d_law_1623 : decode code 1623 = .ok (.aload_n 0, 1) := by decide +kernel
theorem d_law_1624 : decode code 1624 = .ok (.iload 4, 2) := by decide +kernel
theorem d_law_1626 : decode code 1626 = .ok (.iconst 2, 1) := by decide +kernel
theorem d_law_1627 : decode code 1627 = .ok (.iadd, 1) := by decide +kernel
theorem d_law_1628 : decode code 1628 = .ok (.iaload, 1) := by decide +kernel
theorem d_law_1629 : decode code 1629 = .ok (.aload_n 3, 1) := by decide +kernel
theorem d_law_1630 : decode code 1630 = .ok (.invokestatic 224, 3) := by decide +kernel
theorem d_law_1633 : decode code 1633 = .ok (.istore 5, 2) := by decide +kernel
theorem d_law_1635 : decode code 1635 = .ok (.aload_n 2, 1) := by decide +kernel
theorem d_law_1636 : decode code 1636 = .ok (.aload_n 0, 1) := by decide +kernel
theorem d_law_1637 : decode code 1637 = .ok (.iload 4, 2) := by decide +kernel
theorem d_law_1639 : decode code 1639 = .ok (.iconst 1, 1) := by decide +kernel
theorem d_law_1640 : decode code 1640 = .ok (.iadd, 1) := by decide +kernel
theorem d_law_1641 : decode code 1641 = .ok (.iaload, 1) := by decide +kernel
theorem d_law_1642 : decode code 1642 = .ok (.aload_n 0, 1) := by decide +kernel
theorem d_law_1643 : decode code 1643 = .ok (.iload 4, 2) := by decide +kernel
theorem d_law_1645 : decode code 1645 = .ok (.iconst 2, 1) := by decide +kernel
theorem d_law_1646 : decode code 1646 = .ok (.iadd, 1) := by decide +kernel
theorem d_law_1647 : decode code 1647 = .ok (.iaload, 1) := by decide +kernel
theorem d_law_1648 : decode code 1648 = .ok (.invokevirtual 226, 3) := by decide +kernel
theorem d_law_1651 : decode code 1651 = .ok (.istore 6, 2) := by decide +kernel
theorem d_law_1653 : decode code 1653 = .ok (.aload_n 2, 1) := by decide +kernel
theorem d_law_1654 : decode code 1654 = .ok (.invokevirtual 153, 3) := by decide +kernel
theorem d_law_1657 : decode code 1657 = .ok (.iload 5, 2) := by decide +kernel
theorem d_law_1659 : decode code 1659 = .ok (.if_icmp .eq 5, 3) := by decide +kernel
theorem d_law_1662 : decode code 1662 = .ok (.iconst 0, 1) := by decide +kernel
theorem d_law_1663 : decode code 1663 = .ok (.ireturn, 1) := by decide +kernel
theorem d_law_1664 : decode code 1664 = .ok (.iload 5, 2) := by decide +kernel
theorem d_law_1666 : decode code 1666 = .ok (.ifCond .ne 15, 3) := by decide +kernel
theorem d_law_1669 : decode code 1669 = .ok (.aload_n 3, 1) := by decide +kernel
theorem d_law_1670 : decode code 1670 = .ok (.iconst 0, 1) := by decide +kernel
theorem d_law_1671 : decode code 1671 = .ok (.laload, 1) := by decide +kernel
theorem d_law_1672 : decode code 1672 = .ok (.iload 6, 2) := by decide +kernel
theorem d_law_1674 : decode code 1674 = .ok (.i2l, 1) := by decide +kernel
theorem d_law_1675 : decode code 1675 = .ok (.lcmp, 1) := by decide +kernel
theorem d_law_1676 : decode code 1676 = .ok (.ifCond .eq 5, 3) := by decide +kernel
theorem d_law_1679 : decode code 1679 = .ok (.iconst 0, 1) := by decide +kernel
theorem d_law_1680 : decode code 1680 = .ok (.ireturn, 1) := by decide +kernel
theorem d_law_1681 : decode code 1681 = .ok (.goto 1168, 3) := by decide +kernel
theorem d_law_1684 : decode code 1684 = .ok (.aload_n 1, 1) := by decide +kernel
theorem d_law_1685 : decode code 1685 = .ok (.aload_n 0, 1) := by decide +kernel
theorem d_law_1686 : decode code 1686 = .ok (.iload 4, 2) := by decide +kernel
theorem d_law_1688 : decode code 1688 = .ok (.iconst 1, 1) := by decide +kernel
theorem d_law_1689 : decode code 1689 = .ok (.iadd, 1) := by decide +kernel
theorem d_law_1690 : decode code 1690 = .ok (.iaload, 1) := by decide +kernel
theorem d_law_1691 : decode code 1691 = .ok (.aload_n 0, 1) := by decide +kernel
theorem d_law_1692 : decode code 1692 = .ok (.iload 4, 2) := by decide +kernel
theorem d_law_1694 : decode code 1694 = .ok (.iconst 2, 1) := by decide +kernel
theorem d_law_1695 : decode code 1695 = .ok (.iadd, 1) := by decide +kernel
theorem d_law_1696 : decode code 1696 = .ok (.iaload, 1) := by decide +kernel
theorem d_law_1697 : decode code 1697 = .ok (.aload_n 3, 1) := by decide +kernel
theorem d_law_1698 : decode code 1698 = .ok (.invokestatic 227, 3) := by decide +kernel
theorem d_law_1701 : decode code 1701 = .ok (.istore 5, 2) := by decide +kernel
theorem d_law_1703 : decode code 1703 = .ok (.aload_n 2, 1) := by decide +kernel
theorem d_law_1704 : decode code 1704 = .ok (.aload_n 0, 1) := by decide +kernel
theorem d_law_1705 : decode code 1705 = .ok (.iload 4, 2) := by decide +kernel
theorem d_law_1707 : decode code 1707 = .ok (.iconst 1, 1) := by decide +kernel
theorem d_law_1708 : decode code 1708 = .ok (.iadd, 1) := by decide +kernel
theorem d_law_1709 : decode code 1709 = .ok (.iaload, 1) := by decide +kernel
theorem d_law_1710 : decode code 1710 = .ok (.aload_n 0, 1) := by decide +kernel
theorem d_law_1711 : decode code 1711 = .ok (.iload 4, 2) := by decide +kernel
theorem d_law_1713 : decode code 1713 = .ok (.iconst 2, 1) := by decide +kernel
theorem d_law_1714 : decode code 1714 = .ok (.iadd, 1) := by decide +kernel
theorem d_law_1715 : decode code 1715 = .ok (.iaload, 1) := by decide +kernel
theorem d_law_1716 : decode code 1716 = .ok (.invokevirtual 229, 3) := by decide +kernel
theorem d_law_1719 : decode code 1719 = .ok (.istore 6, 2) := by decide +kernel
theorem d_law_1721 : decode code 1721 = .ok (.aload_n 2, 1) := by decide +kernel
theorem d_law_1722 : decode code 1722 = .ok (.invokevirtual 153, 3) := by decide +kernel
theorem d_law_1725 : decode code 1725 = .ok (.iload 5, 2) := by decide +kernel
theorem d_law_1727 : decode code 1727 = .ok (.if_icmp .eq 5, 3) := by decide +kernel
theorem d_law_1730 : decode code 1730 = .ok (.iconst 0, 1) := by decide +kernel
theorem d_law_1731 : decode code 1731 = .ok (.ireturn, 1) := by decide +kernel
theorem d_law_1732 : decode code 1732 = .ok (.iload 5, 2) := by decide +kernel
theorem d_law_1734 : decode code 1734 = .ok (.ifCond .ne 15, 3) := by decide +kernel
theorem d_law_1737 : decode code 1737 = .ok (.aload_n 3, 1) := by decide +kernel
theorem d_law_1738 : decode code 1738 = .ok (.iconst 0, 1) := by decide +kernel
theorem d_law_1739 : decode code 1739 = .ok (.laload, 1) := by decide +kernel
theorem d_law_1740 : decode code 1740 = .ok (.iload 6, 2) := by decide +kernel
theorem d_law_1742 : decode code 1742 = .ok (.i2l, 1) := by decide +kernel
theorem d_law_1743 : decode code 1743 = .ok (.lcmp, 1) := by decide +kernel
theorem d_law_1744 : decode code 1744 = .ok (.ifCond .eq 5, 3) := by decide +kernel
theorem d_law_1747 : decode code 1747 = .ok (.iconst 0, 1) := by decide +kernel
theorem d_law_1748 : decode code 1748 = .ok (.ireturn, 1) := by decide +kernel
theorem d_law_1749 : decode code 1749 = .ok (.goto 1100, 3) := by decide +kernel
theorem d_law_1752 : decode code 1752 = .ok (.aload_n 1, 1) := by decide +kernel
theorem d_law_1753 : decode code 1753 = .ok (.aload_n 0, 1) := by decide +kernel
theorem d_law_1754 : decode code 1754 = .ok (.iload 4, 2) := by decide +kernel
theorem d_law_1756 : decode code 1756 = .ok (.iconst 1, 1) := by decide +kernel
theorem d_law_1757 : decode code 1757 = .ok (.iadd, 1) := by decide +kernel
theorem d_law_1758 : decode code 1758 = .ok (.iaload, 1) := by decide +kernel
theorem d_law_1759 : decode code 1759 = .ok (.aload_n 0, 1) := by decide +kernel
theorem d_law_1760 : decode code 1760 = .ok (.iload 4, 2) := by decide +kernel
theorem d_law_1762 : decode code 1762 = .ok (.iconst 2, 1) := by decide +kernel
theorem d_law_1763 : decode code 1763 = .ok (.iadd, 1) := by decide +kernel
theorem d_law_1764 : decode code 1764 = .ok (.iaload, 1) := by decide +kernel
theorem d_law_1765 : decode code 1765 = .ok (.aload_n 3, 1) := by decide +kernel
theorem d_law_1766 : decode code 1766 = .ok (.invokestatic 230, 3) := by decide +kernel
theorem d_law_1769 : decode code 1769 = .ok (.istore 5, 2) := by decide +kernel
theorem d_law_1771 : decode code 1771 = .ok (.aload_n 2, 1) := by decide +kernel
theorem d_law_1772 : decode code 1772 = .ok (.aload_n 0, 1) := by decide +kernel
theorem d_law_1773 : decode code 1773 = .ok (.iload 4, 2) := by decide +kernel
theorem d_law_1775 : decode code 1775 = .ok (.iconst 1, 1) := by decide +kernel
theorem d_law_1776 : decode code 1776 = .ok (.iadd, 1) := by decide +kernel
theorem d_law_1777 : decode code 1777 = .ok (.iaload, 1) := by decide +kernel
theorem d_law_1778 : decode code 1778 = .ok (.aload_n 0, 1) := by decide +kernel
theorem d_law_1779 : decode code 1779 = .ok (.iload 4, 2) := by decide +kernel
theorem d_law_1781 : decode code 1781 = .ok (.iconst 2, 1) := by decide +kernel
theorem d_law_1782 : decode code 1782 = .ok (.iadd, 1) := by decide +kernel
theorem d_law_1783 : decode code 1783 = .ok (.iaload, 1) := by decide +kernel
theorem d_law_1784 : decode code 1784 = .ok (.invokevirtual 232, 3) := by decide +kernel
theorem d_law_1787 : decode code 1787 = .ok (.istore 6, 2) := by decide +kernel
theorem d_law_1789 : decode code 1789 = .ok (.aload_n 2, 1) := by decide +kernel
theorem d_law_1790 : decode code 1790 = .ok (.invokevirtual 153, 3) := by decide +kernel
theorem d_law_1793 : decode code 1793 = .ok (.iload 5, 2) := by decide +kernel
theorem d_law_1795 : decode code 1795 = .ok (.if_icmp .eq 5, 3) := by decide +kernel
theorem d_law_1798 : decode code 1798 = .ok (.iconst 0, 1) := by decide +kernel
theorem d_law_1799 : decode code 1799 = .ok (.ireturn, 1) := by decide +kernel
theorem d_law_1800 : decode code 1800 = .ok (.iload 5, 2) := by decide +kernel
theorem d_law_1802 : decode code 1802 = .ok (.ifCond .ne 15, 3) := by decide +kernel
theorem d_law_1805 : decode code 1805 = .ok (.aload_n 3, 1) := by decide +kernel
theorem d_law_1806 : decode code 1806 = .ok (.iconst 0, 1) := by decide +kernel
theorem d_law_1807 : decode code 1807 = .ok (.laload, 1) := by decide +kernel
theorem d_law_1808 : decode code 1808 = .ok (.iload 6, 2) := by decide +kernel
theorem d_law_1810 : decode code 1810 = .ok (.i2l, 1) := by decide +kernel
theorem d_law_1811 : decode code 1811 = .ok (.lcmp, 1) := by decide +kernel
theorem d_law_1812 : decode code 1812 = .ok (.ifCond .eq 5, 3) := by decide +kernel
theorem d_law_1815 : decode code 1815 = .ok (.iconst 0, 1) := by decide +kernel
theorem d_law_1816 : decode code 1816 = .ok (.ireturn, 1) := by decide +kernel
theorem d_law_1817 : decode code 1817 = .ok (.goto 1032, 3) := by decide +kernel
theorem d_law_1820 : decode code 1820 = .ok (.aload_n 1, 1) := by decide +kernel
theorem d_law_1821 : decode code 1821 = .ok (.aload_n 0, 1) := by decide +kernel
theorem d_law_1822 : decode code 1822 = .ok (.iload 4, 2) := by decide +kernel
theorem d_law_1824 : decode code 1824 = .ok (.iconst 1, 1) := by decide +kernel
theorem d_law_1825 : decode code 1825 = .ok (.iadd, 1) := by decide +kernel
theorem d_law_1826 : decode code 1826 = .ok (.iaload, 1) := by decide +kernel
theorem d_law_1827 : decode code 1827 = .ok (.aload_n 0, 1) := by decide +kernel
theorem d_law_1828 : decode code 1828 = .ok (.iload 4, 2) := by decide +kernel
theorem d_law_1830 : decode code 1830 = .ok (.iconst 2, 1) := by decide +kernel
theorem d_law_1831 : decode code 1831 = .ok (.iadd, 1) := by decide +kernel
theorem d_law_1832 : decode code 1832 = .ok (.iaload, 1) := by decide +kernel
theorem d_law_1833 : decode code 1833 = .ok (.aload_n 3, 1) := by decide +kernel
theorem d_law_1834 : decode code 1834 = .ok (.invokestatic 233, 3) := by decide +kernel
theorem d_law_1837 : decode code 1837 = .ok (.istore 5, 2) := by decide +kernel
theorem d_law_1839 : decode code 1839 = .ok (.aload_n 2, 1) := by decide +kernel
theorem d_law_1840 : decode code 1840 = .ok (.aload_n 0, 1) := by decide +kernel
theorem d_law_1841 : decode code 1841 = .ok (.iload 4, 2) := by decide +kernel
theorem d_law_1843 : decode code 1843 = .ok (.iconst 1, 1) := by decide +kernel
theorem d_law_1844 : decode code 1844 = .ok (.iadd, 1) := by decide +kernel
theorem d_law_1845 : decode code 1845 = .ok (.iaload, 1) := by decide +kernel
theorem d_law_1846 : decode code 1846 = .ok (.aload_n 0, 1) := by decide +kernel
theorem d_law_1847 : decode code 1847 = .ok (.iload 4, 2) := by decide +kernel
theorem d_law_1849 : decode code 1849 = .ok (.iconst 2, 1) := by decide +kernel
theorem d_law_1850 : decode code 1850 = .ok (.iadd, 1) := by decide +kernel
theorem d_law_1851 : decode code 1851 = .ok (.iaload, 1) := by decide +kernel
theorem d_law_1852 : decode code 1852 = .ok (.invokevirtual 235, 3) := by decide +kernel
theorem d_law_1855 : decode code 1855 = .ok (.istore 6, 2) := by decide +kernel
theorem d_law_1857 : decode code 1857 = .ok (.aload_n 2, 1) := by decide +kernel
theorem d_law_1858 : decode code 1858 = .ok (.invokevirtual 153, 3) := by decide +kernel
theorem d_law_1861 : decode code 1861 = .ok (.iload 5, 2) := by decide +kernel
theorem d_law_1863 : decode code 1863 = .ok (.if_icmp .eq 5, 3) := by decide +kernel
theorem d_law_1866 : decode code 1866 = .ok (.iconst 0, 1) := by decide +kernel
theorem d_law_1867 : decode code 1867 = .ok (.ireturn, 1) := by decide +kernel
theorem d_law_1868 : decode code 1868 = .ok (.iload 5, 2) := by decide +kernel
theorem d_law_1870 : decode code 1870 = .ok (.ifCond .ne 15, 3) := by decide +kernel
theorem d_law_1873 : decode code 1873 = .ok (.aload_n 3, 1) := by decide +kernel
theorem d_law_1874 : decode code 1874 = .ok (.iconst 0, 1) := by decide +kernel
theorem d_law_1875 : decode code 1875 = .ok (.laload, 1) := by decide +kernel
theorem d_law_1876 : decode code 1876 = .ok (.iload 6, 2) := by decide +kernel
theorem d_law_1878 : decode code 1878 = .ok (.i2l, 1) := by decide +kernel
theorem d_law_1879 : decode code 1879 = .ok (.lcmp, 1) := by decide +kernel
theorem d_law_1880 : decode code 1880 = .ok (.ifCond .eq 5, 3) := by decide +kernel
theorem d_law_1883 : decode code 1883 = .ok (.iconst 0, 1) := by decide +kernel
theorem d_law_1884 : decode code 1884 = .ok (.ireturn, 1) := by decide +kernel
theorem d_law_1885 : decode code 1885 = .ok (.goto 964, 3) := by decide +kernel
theorem d_law_1888 : decode code 1888 = .ok (.aload_n 1, 1) := by decide +kernel
theorem d_law_1889 : decode code 1889 = .ok (.aload_n 0, 1) := by decide +kernel
theorem d_law_1890 : decode code 1890 = .ok (.iload 4, 2) := by decide +kernel
theorem d_law_1892 : decode code 1892 = .ok (.iconst 1, 1) := by decide +kernel
theorem d_law_1893 : decode code 1893 = .ok (.iadd, 1) := by decide +kernel
theorem d_law_1894 : decode code 1894 = .ok (.iaload, 1) := by decide +kernel
theorem d_law_1895 : decode code 1895 = .ok (.aload_n 0, 1) := by decide +kernel
theorem d_law_1896 : decode code 1896 = .ok (.iload 4, 2) := by decide +kernel
theorem d_law_1898 : decode code 1898 = .ok (.iconst 2, 1) := by decide +kernel
theorem d_law_1899 : decode code 1899 = .ok (.iadd, 1) := by decide +kernel
theorem d_law_1900 : decode code 1900 = .ok (.iaload, 1) := by decide +kernel
theorem d_law_1901 : decode code 1901 = .ok (.aload_n 3, 1) := by decide +kernel
theorem d_law_1902 : decode code 1902 = .ok (.invokestatic 236, 3) := by decide +kernel
theorem d_law_1905 : decode code 1905 = .ok (.istore 5, 2) := by decide +kernel
theorem d_law_1907 : decode code 1907 = .ok (.aload_n 2, 1) := by decide +kernel
theorem d_law_1908 : decode code 1908 = .ok (.aload_n 0, 1) := by decide +kernel
theorem d_law_1909 : decode code 1909 = .ok (.iload 4, 2) := by decide +kernel
theorem d_law_1911 : decode code 1911 = .ok (.iconst 1, 1) := by decide +kernel
theorem d_law_1912 : decode code 1912 = .ok (.iadd, 1) := by decide +kernel
theorem d_law_1913 : decode code 1913 = .ok (.iaload, 1) := by decide +kernel
theorem d_law_1914 : decode code 1914 = .ok (.aload_n 0, 1) := by decide +kernel
theorem d_law_1915 : decode code 1915 = .ok (.iload 4, 2) := by decide +kernel
theorem d_law_1917 : decode code 1917 = .ok (.iconst 2, 1) := by decide +kernel
theorem d_law_1918 : decode code 1918 = .ok (.iadd, 1) := by decide +kernel
theorem d_law_1919 : decode code 1919 = .ok (.iaload, 1) := by decide +kernel
theorem d_law_1920 : decode code 1920 = .ok (.invokevirtual 238, 3) := by decide +kernel
theorem d_law_1923 : decode code 1923 = .ok (.istore 6, 2) := by decide +kernel
theorem d_law_1925 : decode code 1925 = .ok (.aload_n 2, 1) := by decide +kernel
theorem d_law_1926 : decode code 1926 = .ok (.invokevirtual 153, 3) := by decide +kernel
theorem d_law_1929 : decode code 1929 = .ok (.iload 5, 2) := by decide +kernel
theorem d_law_1931 : decode code 1931 = .ok (.if_icmp .eq 5, 3) := by decide +kernel
theorem d_law_1934 : decode code 1934 = .ok (.iconst 0, 1) := by decide +kernel
theorem d_law_1935 : decode code 1935 = .ok (.ireturn, 1) := by decide +kernel
theorem d_law_1936 : decode code 1936 = .ok (.iload 5, 2) := by decide +kernel
theorem d_law_1938 : decode code 1938 = .ok (.ifCond .ne 15, 3) := by decide +kernel
theorem d_law_1941 : decode code 1941 = .ok (.aload_n 3, 1) := by decide +kernel
theorem d_law_1942 : decode code 1942 = .ok (.iconst 0, 1) := by decide +kernel
theorem d_law_1943 : decode code 1943 = .ok (.laload, 1) := by decide +kernel
theorem d_law_1944 : decode code 1944 = .ok (.iload 6, 2) := by decide +kernel
theorem d_law_1946 : decode code 1946 = .ok (.i2l, 1) := by decide +kernel
theorem d_law_1947 : decode code 1947 = .ok (.lcmp, 1) := by decide +kernel
theorem d_law_1948 : decode code 1948 = .ok (.ifCond .eq 5, 3) := by decide +kernel
theorem d_law_1951 : decode code 1951 = .ok (.iconst 0, 1) := by decide +kernel
theorem d_law_1952 : decode code 1952 = .ok (.ireturn, 1) := by decide +kernel
theorem d_law_1953 : decode code 1953 = .ok (.goto 896, 3) := by decide +kernel
theorem d_law_1956 : decode code 1956 = .ok (.aload_n 1, 1) := by decide +kernel
theorem d_law_1957 : decode code 1957 = .ok (.aload_n 0, 1) := by decide +kernel
theorem d_law_1958 : decode code 1958 = .ok (.iload 4, 2) := by decide +kernel
theorem d_law_1960 : decode code 1960 = .ok (.iconst 1, 1) := by decide +kernel
theorem d_law_1961 : decode code 1961 = .ok (.iadd, 1) := by decide +kernel
theorem d_law_1962 : decode code 1962 = .ok (.iaload, 1) := by decide +kernel
theorem d_law_1963 : decode code 1963 = .ok (.aload_n 0, 1) := by decide +kernel
theorem d_law_1964 : decode code 1964 = .ok (.iload 4, 2) := by decide +kernel
theorem d_law_1966 : decode code 1966 = .ok (.iconst 2, 1) := by decide +kernel
theorem d_law_1967 : decode code 1967 = .ok (.iadd, 1) := by decide +kernel
theorem d_law_1968 : decode code 1968 = .ok (.iaload, 1) := by decide +kernel
theorem d_law_1969 : decode code 1969 = .ok (.aload_n 3, 1) := by decide +kernel
theorem d_law_1970 : decode code 1970 = .ok (.invokestatic 239, 3) := by decide +kernel
theorem d_law_1973 : decode code 1973 = .ok (.istore 5, 2) := by decide +kernel
theorem d_law_1975 : decode code 1975 = .ok (.aload_n 2, 1) := by decide +kernel
theorem d_law_1976 : decode code 1976 = .ok (.aload_n 0, 1) := by decide +kernel
theorem d_law_1977 : decode code 1977 = .ok (.iload 4, 2) := by decide +kernel
theorem d_law_1979 : decode code 1979 = .ok (.iconst 1, 1) := by decide +kernel
theorem d_law_1980 : decode code 1980 = .ok (.iadd, 1) := by decide +kernel
theorem d_law_1981 : decode code 1981 = .ok (.iaload, 1) := by decide +kernel
theorem d_law_1982 : decode code 1982 = .ok (.aload_n 0, 1) := by decide +kernel
theorem d_law_1983 : decode code 1983 = .ok (.iload 4, 2) := by decide +kernel
theorem d_law_1985 : decode code 1985 = .ok (.iconst 2, 1) := by decide +kernel
theorem d_law_1986 : decode code 1986 = .ok (.iadd, 1) := by decide +kernel
theorem d_law_1987 : decode code 1987 = .ok (.iaload, 1) := by decide +kernel
theorem d_law_1988 : decode code 1988 = .ok (.invokevirtual 241, 3) := by decide +kernel
theorem d_law_1991 : decode code 1991 = .ok (.istore 6, 2) := by decide +kernel
theorem d_law_1993 : decode code 1993 = .ok (.aload_n 2, 1) := by decide +kernel
theorem d_law_1994 : decode code 1994 = .ok (.invokevirtual 153, 3) := by decide +kernel
theorem d_law_1997 : decode code 1997 = .ok (.iload 5, 2) := by decide +kernel
theorem d_law_1999 : decode code 1999 = .ok (.if_icmp .eq 5, 3) := by decide +kernel
theorem d_law_2002 : decode code 2002 = .ok (.iconst 0, 1) := by decide +kernel
theorem d_law_2003 : decode code 2003 = .ok (.ireturn, 1) := by decide +kernel
theorem d_law_2004 : decode code 2004 = .ok (.iload 5, 2) := by decide +kernel
theorem d_law_2006 : decode code 2006 = .ok (.ifCond .ne 15, 3) := by decide +kernel
theorem d_law_2009 : decode code 2009 = .ok (.aload_n 3, 1) := by decide +kernel
theorem d_law_2010 : decode code 2010 = .ok (.iconst 0, 1) := by decide +kernel
theorem d_law_2011 : decode code 2011 = .ok (.laload, 1) := by decide +kernel
theorem d_law_2012 : decode code 2012 = .ok (.iload 6, 2) := by decide +kernel
theorem d_law_2014 : decode code 2014 = .ok (.i2l, 1) := by decide +kernel
theorem d_law_2015 : decode code 2015 = .ok (.lcmp, 1) := by decide +kernel
theorem d_law_2016 : decode code 2016 = .ok (.ifCond .eq 5, 3) := by decide +kernel
theorem d_law_2019 : decode code 2019 = .ok (.iconst 0, 1) := by decide +kernel
theorem d_law_2020 : decode code 2020 = .ok (.ireturn, 1) := by decide +kernel
theorem d_law_2021 : decode code 2021 = .ok (.goto 828, 3) := by decide +kernel
theorem d_law_2024 : decode code 2024 = .ok (.aload_n 1, 1) := by decide +kernel
theorem d_law_2025 : decode code 2025 = .ok (.aload_n 0, 1) := by decide +kernel
theorem d_law_2026 : decode code 2026 = .ok (.iload 4, 2) := by decide +kernel
theorem d_law_2028 : decode code 2028 = .ok (.iconst 1, 1) := by decide +kernel
theorem d_law_2029 : decode code 2029 = .ok (.iadd, 1) := by decide +kernel
theorem d_law_2030 : decode code 2030 = .ok (.iaload, 1) := by decide +kernel
theorem d_law_2031 : decode code 2031 = .ok (.aload_n 0, 1) := by decide +kernel
theorem d_law_2032 : decode code 2032 = .ok (.iload 4, 2) := by decide +kernel
theorem d_law_2034 : decode code 2034 = .ok (.iconst 2, 1) := by decide +kernel
theorem d_law_2035 : decode code 2035 = .ok (.iadd, 1) := by decide +kernel
theorem d_law_2036 : decode code 2036 = .ok (.iaload, 1) := by decide +kernel
theorem d_law_2037 : decode code 2037 = .ok (.aload_n 3, 1) := by decide +kernel
theorem d_law_2038 : decode code 2038 = .ok (.invokestatic 242, 3) := by decide +kernel
theorem d_law_2041 : decode code 2041 = .ok (.istore 5, 2) := by decide +kernel
theorem d_law_2043 : decode code 2043 = .ok (.aload_n 2, 1) := by decide +kernel
theorem d_law_2044 : decode code 2044 = .ok (.aload_n 0, 1) := by decide +kernel
theorem d_law_2045 : decode code 2045 = .ok (.iload 4, 2) := by decide +kernel
theorem d_law_2047 : decode code 2047 = .ok (.iconst 1, 1) := by decide +kernel
theorem d_law_2048 : decode code 2048 = .ok (.iadd, 1) := by decide +kernel
theorem d_law_2049 : decode code 2049 = .ok (.iaload, 1) := by decide +kernel
theorem d_law_2050 : decode code 2050 = .ok (.aload_n 0, 1) := by decide +kernel
theorem d_law_2051 : decode code 2051 = .ok (.iload 4, 2) := by decide +kernel
theorem d_law_2053 : decode code 2053 = .ok (.iconst 2, 1) := by decide +kernel
theorem d_law_2054 : decode code 2054 = .ok (.iadd, 1) := by decide +kernel
theorem d_law_2055 : decode code 2055 = .ok (.iaload, 1) := by decide +kernel
theorem d_law_2056 : decode code 2056 = .ok (.invokevirtual 244, 3) := by decide +kernel
theorem d_law_2059 : decode code 2059 = .ok (.istore 6, 2) := by decide +kernel
theorem d_law_2061 : decode code 2061 = .ok (.aload_n 2, 1) := by decide +kernel
theorem d_law_2062 : decode code 2062 = .ok (.invokevirtual 153, 3) := by decide +kernel
theorem d_law_2065 : decode code 2065 = .ok (.iload 5, 2) := by decide +kernel
theorem d_law_2067 : decode code 2067 = .ok (.if_icmp .eq 5, 3) := by decide +kernel
theorem d_law_2070 : decode code 2070 = .ok (.iconst 0, 1) := by decide +kernel
theorem d_law_2071 : decode code 2071 = .ok (.ireturn, 1) := by decide +kernel
theorem d_law_2072 : decode code 2072 = .ok (.iload 5, 2) := by decide +kernel
theorem d_law_2074 : decode code 2074 = .ok (.ifCond .ne 15, 3) := by decide +kernel
theorem d_law_2077 : decode code 2077 = .ok (.aload_n 3, 1) := by decide +kernel
theorem d_law_2078 : decode code 2078 = .ok (.iconst 0, 1) := by decide +kernel
theorem d_law_2079 : decode code 2079 = .ok (.laload, 1) := by decide +kernel
theorem d_law_2080 : decode code 2080 = .ok (.iload 6, 2) := by decide +kernel
theorem d_law_2082 : decode code 2082 = .ok (.i2l, 1) := by decide +kernel
theorem d_law_2083 : decode code 2083 = .ok (.lcmp, 1) := by decide +kernel
theorem d_law_2084 : decode code 2084 = .ok (.ifCond .eq 5, 3) := by decide +kernel
theorem d_law_2087 : decode code 2087 = .ok (.iconst 0, 1) := by decide +kernel
theorem d_law_2088 : decode code 2088 = .ok (.ireturn, 1) := by decide +kernel
theorem d_law_2089 : decode code 2089 = .ok (.goto 760, 3) := by decide +kernel
theorem d_law_2092 : decode code 2092 = .ok (.aload_n 1, 1) := by decide +kernel
theorem d_law_2093 : decode code 2093 = .ok (.aload_n 0, 1) := by decide +kernel
theorem d_law_2094 : decode code 2094 = .ok (.iload 4, 2) := by decide +kernel
theorem d_law_2096 : decode code 2096 = .ok (.iconst 1, 1) := by decide +kernel
theorem d_law_2097 : decode code 2097 = .ok (.iadd, 1) := by decide +kernel
theorem d_law_2098 : decode code 2098 = .ok (.iaload, 1) := by decide +kernel
theorem d_law_2099 : decode code 2099 = .ok (.aload_n 3, 1) := by decide +kernel
theorem d_law_2100 : decode code 2100 = .ok (.invokestatic 245, 3) := by decide +kernel
theorem d_law_2103 : decode code 2103 = .ok (.istore 5, 2) := by decide +kernel
theorem d_law_2105 : decode code 2105 = .ok (.aload_n 2, 1) := by decide +kernel
theorem d_law_2106 : decode code 2106 = .ok (.aload_n 0, 1) := by decide +kernel
theorem d_law_2107 : decode code 2107 = .ok (.iload 4, 2) := by decide +kernel
theorem d_law_2109 : decode code 2109 = .ok (.iconst 1, 1) := by decide +kernel
theorem d_law_2110 : decode code 2110 = .ok (.iadd, 1) := by decide +kernel
theorem d_law_2111 : decode code 2111 = .ok (.iaload, 1) := by decide +kernel
theorem d_law_2112 : decode code 2112 = .ok (.invokevirtual 247, 3) := by decide +kernel
theorem d_law_2115 : decode code 2115 = .ok (.istore 6, 2) := by decide +kernel
theorem d_law_2117 : decode code 2117 = .ok (.aload_n 2, 1) := by decide +kernel
theorem d_law_2118 : decode code 2118 = .ok (.invokevirtual 153, 3) := by decide +kernel
theorem d_law_2121 : decode code 2121 = .ok (.iload 5, 2) := by decide +kernel
theorem d_law_2123 : decode code 2123 = .ok (.if_icmp .eq 5, 3) := by decide +kernel
theorem d_law_2126 : decode code 2126 = .ok (.iconst 0, 1) := by decide +kernel
theorem d_law_2127 : decode code 2127 = .ok (.ireturn, 1) := by decide +kernel
theorem d_law_2128 : decode code 2128 = .ok (.iload 5, 2) := by decide +kernel
theorem d_law_2130 : decode code 2130 = .ok (.ifCond .ne 15, 3) := by decide +kernel
theorem d_law_2133 : decode code 2133 = .ok (.aload_n 3, 1) := by decide +kernel
theorem d_law_2134 : decode code 2134 = .ok (.iconst 0, 1) := by decide +kernel
theorem d_law_2135 : decode code 2135 = .ok (.laload, 1) := by decide +kernel
theorem d_law_2136 : decode code 2136 = .ok (.iload 6, 2) := by decide +kernel
theorem d_law_2138 : decode code 2138 = .ok (.i2l, 1) := by decide +kernel
theorem d_law_2139 : decode code 2139 = .ok (.lcmp, 1) := by decide +kernel
theorem d_law_2140 : decode code 2140 = .ok (.ifCond .eq 5, 3) := by decide +kernel
theorem d_law_2143 : decode code 2143 = .ok (.iconst 0, 1) := by decide +kernel
theorem d_law_2144 : decode code 2144 = .ok (.ireturn, 1) := by decide +kernel
theorem d_law_2145 : decode code 2145 = .ok (.goto 704, 3) := by decide +kernel
theorem d_law_2148 : decode code 2148 = .ok (.aload_n 1, 1) := by decide +kernel
theorem d_law_2149 : decode code 2149 = .ok (.aload_n 0, 1) := by decide +kernel
theorem d_law_2150 : decode code 2150 = .ok (.iload 4, 2) := by decide +kernel
theorem d_law_2152 : decode code 2152 = .ok (.iconst 1, 1) := by decide +kernel
theorem d_law_2153 : decode code 2153 = .ok (.iadd, 1) := by decide +kernel
theorem d_law_2154 : decode code 2154 = .ok (.iaload, 1) := by decide +kernel
theorem d_law_2155 : decode code 2155 = .ok (.aload_n 0, 1) := by decide +kernel
theorem d_law_2156 : decode code 2156 = .ok (.iload 4, 2) := by decide +kernel
theorem d_law_2158 : decode code 2158 = .ok (.iconst 2, 1) := by decide +kernel
theorem d_law_2159 : decode code 2159 = .ok (.iadd, 1) := by decide +kernel
theorem d_law_2160 : decode code 2160 = .ok (.iaload, 1) := by decide +kernel
theorem d_law_2161 : decode code 2161 = .ok (.aload_n 3, 1) := by decide +kernel
theorem d_law_2162 : decode code 2162 = .ok (.invokestatic 248, 3) := by decide +kernel
theorem d_law_2165 : decode code 2165 = .ok (.istore 5, 2) := by decide +kernel
theorem d_law_2167 : decode code 2167 = .ok (.aload_n 2, 1) := by decide +kernel
theorem d_law_2168 : decode code 2168 = .ok (.aload_n 0, 1) := by decide +kernel
theorem d_law_2169 : decode code 2169 = .ok (.iload 4, 2) := by decide +kernel
theorem d_law_2171 : decode code 2171 = .ok (.iconst 1, 1) := by decide +kernel
theorem d_law_2172 : decode code 2172 = .ok (.iadd, 1) := by decide +kernel
theorem d_law_2173 : decode code 2173 = .ok (.iaload, 1) := by decide +kernel
theorem d_law_2174 : decode code 2174 = .ok (.aload_n 0, 1) := by decide +kernel
theorem d_law_2175 : decode code 2175 = .ok (.iload 4, 2) := by decide +kernel
theorem d_law_2177 : decode code 2177 = .ok (.iconst 2, 1) := by decide +kernel
theorem d_law_2178 : decode code 2178 = .ok (.iadd, 1) := by decide +kernel
theorem d_law_2179 : decode code 2179 = .ok (.iaload, 1) := by decide +kernel
theorem d_law_2180 : decode code 2180 = .ok (.invokevirtual 250, 3) := by decide +kernel
theorem d_law_2183 : decode code 2183 = .ok (.istore 6, 2) := by decide +kernel
theorem d_law_2185 : decode code 2185 = .ok (.aload_n 2, 1) := by decide +kernel
theorem d_law_2186 : decode code 2186 = .ok (.invokevirtual 153, 3) := by decide +kernel
theorem d_law_2189 : decode code 2189 = .ok (.iload 5, 2) := by decide +kernel
theorem d_law_2191 : decode code 2191 = .ok (.if_icmp .eq 5, 3) := by decide +kernel
theorem d_law_2194 : decode code 2194 = .ok (.iconst 0, 1) := by decide +kernel
theorem d_law_2195 : decode code 2195 = .ok (.ireturn, 1) := by decide +kernel
theorem d_law_2196 : decode code 2196 = .ok (.iload 5, 2) := by decide +kernel
theorem d_law_2198 : decode code 2198 = .ok (.ifCond .ne 15, 3) := by decide +kernel
theorem d_law_2201 : decode code 2201 = .ok (.aload_n 3, 1) := by decide +kernel
theorem d_law_2202 : decode code 2202 = .ok (.iconst 0, 1) := by decide +kernel
theorem d_law_2203 : decode code 2203 = .ok (.laload, 1) := by decide +kernel
theorem d_law_2204 : decode code 2204 = .ok (.iload 6, 2) := by decide +kernel
theorem d_law_2206 : decode code 2206 = .ok (.i2l, 1) := by decide +kernel
theorem d_law_2207 : decode code 2207 = .ok (.lcmp, 1) := by decide +kernel
theorem d_law_2208 : decode code 2208 = .ok (.ifCond .eq 5, 3) := by decide +kernel
theorem d_law_2211 : decode code 2211 = .ok (.iconst 0, 1) := by decide +kernel
theorem d_law_2212 : decode code 2212 = .ok (.ireturn, 1) := by decide +kernel
theorem d_law_2213 : decode code 2213 = .ok (.goto 636, 3) := by decide +kernel
theorem d_law_2216 : decode code 2216 = .ok (.aload_n 1, 1) := by decide +kernel
theorem d_law_2217 : decode code 2217 = .ok (.aload_n 0, 1) := by decide +kernel
theorem d_law_2218 : decode code 2218 = .ok (.iload 4, 2) := by decide +kernel
theorem d_law_2220 : decode code 2220 = .ok (.iconst 1, 1) := by decide +kernel
theorem d_law_2221 : decode code 2221 = .ok (.iadd, 1) := by decide +kernel
theorem d_law_2222 : decode code 2222 = .ok (.iaload, 1) := by decide +kernel
theorem d_law_2223 : decode code 2223 = .ok (.aload_n 0, 1) := by decide +kernel
theorem d_law_2224 : decode code 2224 = .ok (.iload 4, 2) := by decide +kernel
theorem d_law_2226 : decode code 2226 = .ok (.iconst 2, 1) := by decide +kernel
theorem d_law_2227 : decode code 2227 = .ok (.iadd, 1) := by decide +kernel
theorem d_law_2228 : decode code 2228 = .ok (.iaload, 1) := by decide +kernel
theorem d_law_2229 : decode code 2229 = .ok (.aload_n 0, 1) := by decide +kernel
theorem d_law_2230 : decode code 2230 = .ok (.iload 4, 2) := by decide +kernel
theorem d_law_2232 : decode code 2232 = .ok (.iconst 3, 1) := by decide +kernel
theorem d_law_2233 : decode code 2233 = .ok (.iadd, 1) := by decide +kernel
theorem d_law_2234 : decode code 2234 = .ok (.iaload, 1) := by decide +kernel
theorem d_law_2235 : decode code 2235 = .ok (.aload_n 3, 1) := by decide +kernel
theorem d_law_2236 : decode code 2236 = .ok (.invokestatic 251, 3) := by decide +kernel
theorem d_law_2239 : decode code 2239 = .ok (.istore 5, 2) := by decide +kernel
theorem d_law_2241 : decode code 2241 = .ok (.aload_n 2, 1) := by decide +kernel
theorem d_law_2242 : decode code 2242 = .ok (.aload_n 0, 1) := by decide +kernel
theorem d_law_2243 : decode code 2243 = .ok (.iload 4, 2) := by decide +kernel
theorem d_law_2245 : decode code 2245 = .ok (.iconst 1, 1) := by decide +kernel
theorem d_law_2246 : decode code 2246 = .ok (.iadd, 1) := by decide +kernel
theorem d_law_2247 : decode code 2247 = .ok (.iaload, 1) := by decide +kernel
theorem d_law_2248 : decode code 2248 = .ok (.aload_n 0, 1) := by decide +kernel
theorem d_law_2249 : decode code 2249 = .ok (.iload 4, 2) := by decide +kernel
theorem d_law_2251 : decode code 2251 = .ok (.iconst 2, 1) := by decide +kernel
theorem d_law_2252 : decode code 2252 = .ok (.iadd, 1) := by decide +kernel
theorem d_law_2253 : decode code 2253 = .ok (.iaload, 1) := by decide +kernel
theorem d_law_2254 : decode code 2254 = .ok (.aload_n 0, 1) := by decide +kernel
theorem d_law_2255 : decode code 2255 = .ok (.iload 4, 2) := by decide +kernel
theorem d_law_2257 : decode code 2257 = .ok (.iconst 3, 1) := by decide +kernel
theorem d_law_2258 : decode code 2258 = .ok (.iadd, 1) := by decide +kernel
theorem d_law_2259 : decode code 2259 = .ok (.iaload, 1) := by decide +kernel
theorem d_law_2260 : decode code 2260 = .ok (.invokevirtual 253, 3) := by decide +kernel
theorem d_law_2263 : decode code 2263 = .ok (.istore 6, 2) := by decide +kernel
theorem d_law_2265 : decode code 2265 = .ok (.aload_n 2, 1) := by decide +kernel
theorem d_law_2266 : decode code 2266 = .ok (.invokevirtual 153, 3) := by decide +kernel
theorem d_law_2269 : decode code 2269 = .ok (.iload 5, 2) := by decide +kernel
theorem d_law_2271 : decode code 2271 = .ok (.if_icmp .eq 5, 3) := by decide +kernel
theorem d_law_2274 : decode code 2274 = .ok (.iconst 0, 1) := by decide +kernel
theorem d_law_2275 : decode code 2275 = .ok (.ireturn, 1) := by decide +kernel
theorem d_law_2276 : decode code 2276 = .ok (.iload 5, 2) := by decide +kernel
theorem d_law_2278 : decode code 2278 = .ok (.ifCond .ne 15, 3) := by decide +kernel
theorem d_law_2281 : decode code 2281 = .ok (.aload_n 3, 1) := by decide +kernel
theorem d_law_2282 : decode code 2282 = .ok (.iconst 0, 1) := by decide +kernel
theorem d_law_2283 : decode code 2283 = .ok (.laload, 1) := by decide +kernel
theorem d_law_2284 : decode code 2284 = .ok (.iload 6, 2) := by decide +kernel
theorem d_law_2286 : decode code 2286 = .ok (.i2l, 1) := by decide +kernel
theorem d_law_2287 : decode code 2287 = .ok (.lcmp, 1) := by decide +kernel
theorem d_law_2288 : decode code 2288 = .ok (.ifCond .eq 5, 3) := by decide +kernel
theorem d_law_2291 : decode code 2291 = .ok (.iconst 0, 1) := by decide +kernel
theorem d_law_2292 : decode code 2292 = .ok (.ireturn, 1) := by decide +kernel
theorem d_law_2293 : decode code 2293 = .ok (.goto 556, 3) := by decide +kernel
theorem d_law_2296 : decode code 2296 = .ok (.aload_n 1, 1) := by decide +kernel
theorem d_law_2297 : decode code 2297 = .ok (.aload_n 0, 1) := by decide +kernel
theorem d_law_2298 : decode code 2298 = .ok (.iload 4, 2) := by decide +kernel
theorem d_law_2300 : decode code 2300 = .ok (.iconst 1, 1) := by decide +kernel
theorem d_law_2301 : decode code 2301 = .ok (.iadd, 1) := by decide +kernel
theorem d_law_2302 : decode code 2302 = .ok (.iaload, 1) := by decide +kernel
theorem d_law_2303 : decode code 2303 = .ok (.aload_n 0, 1) := by decide +kernel
theorem d_law_2304 : decode code 2304 = .ok (.iload 4, 2) := by decide +kernel
theorem d_law_2306 : decode code 2306 = .ok (.iconst 2, 1) := by decide +kernel
theorem d_law_2307 : decode code 2307 = .ok (.iadd, 1) := by decide +kernel
theorem d_law_2308 : decode code 2308 = .ok (.iaload, 1) := by decide +kernel
theorem d_law_2309 : decode code 2309 = .ok (.aload_n 0, 1) := by decide +kernel
theorem d_law_2310 : decode code 2310 = .ok (.iload 4, 2) := by decide +kernel
theorem d_law_2312 : decode code 2312 = .ok (.iconst 3, 1) := by decide +kernel
theorem d_law_2313 : decode code 2313 = .ok (.iadd, 1) := by decide +kernel
theorem d_law_2314 : decode code 2314 = .ok (.iaload, 1) := by decide +kernel
theorem d_law_2315 : decode code 2315 = .ok (.aload_n 3, 1) := by decide +kernel
theorem d_law_2316 : decode code 2316 = .ok (.invokestatic 254, 3) := by decide +kernel
theorem d_law_2319 : decode code 2319 = .ok (.istore 5, 2) := by decide +kernel
theorem d_law_2321 : decode code 2321 = .ok (.aload_n 2, 1) := by decide +kernel
theorem d_law_2322 : decode code 2322 = .ok (.aload_n 0, 1) := by decide +kernel
theorem d_law_2323 : decode code 2323 = .ok (.iload 4, 2) := by decide +kernel
theorem d_law_2325 : decode code 2325 = .ok (.iconst 1, 1) := by decide +kernel
theorem d_law_2326 : decode code 2326 = .ok (.iadd, 1) := by decide +kernel
theorem d_law_2327 : decode code 2327 = .ok (.iaload, 1) := by decide +kernel
theorem d_law_2328 : decode code 2328 = .ok (.aload_n 0, 1) := by decide +kernel
theorem d_law_2329 : decode code 2329 = .ok (.iload 4, 2) := by decide +kernel
theorem d_law_2331 : decode code 2331 = .ok (.iconst 2, 1) := by decide +kernel
theorem d_law_2332 : decode code 2332 = .ok (.iadd, 1) := by decide +kernel
theorem d_law_2333 : decode code 2333 = .ok (.iaload, 1) := by decide +kernel
theorem d_law_2334 : decode code 2334 = .ok (.aload_n 0, 1) := by decide +kernel
theorem d_law_2335 : decode code 2335 = .ok (.iload 4, 2) := by decide +kernel
theorem d_law_2337 : decode code 2337 = .ok (.iconst 3, 1) := by decide +kernel
theorem d_law_2338 : decode code 2338 = .ok (.iadd, 1) := by decide +kernel
theorem d_law_2339 : decode code 2339 = .ok (.iaload, 1) := by decide +kernel
theorem d_law_2340 : decode code 2340 = .ok (.invokevirtual 256, 3) := by decide +kernel
theorem d_law_2343 : decode code 2343 = .ok (.istore 6, 2) := by decide +kernel
theorem d_law_2345 : decode code 2345 = .ok (.aload_n 2, 1) := by decide +kernel
theorem d_law_2346 : decode code 2346 = .ok (.invokevirtual 153, 3) := by decide +kernel
theorem d_law_2349 : decode code 2349 = .ok (.iload 5, 2) := by decide +kernel
theorem d_law_2351 : decode code 2351 = .ok (.if_icmp .eq 5, 3) := by decide +kernel
theorem d_law_2354 : decode code 2354 = .ok (.iconst 0, 1) := by decide +kernel
theorem d_law_2355 : decode code 2355 = .ok (.ireturn, 1) := by decide +kernel
theorem d_law_2356 : decode code 2356 = .ok (.iload 5, 2) := by decide +kernel
theorem d_law_2358 : decode code 2358 = .ok (.ifCond .ne 15, 3) := by decide +kernel
theorem d_law_2361 : decode code 2361 = .ok (.aload_n 3, 1) := by decide +kernel
theorem d_law_2362 : decode code 2362 = .ok (.iconst 0, 1) := by decide +kernel
theorem d_law_2363 : decode code 2363 = .ok (.laload, 1) := by decide +kernel
theorem d_law_2364 : decode code 2364 = .ok (.iload 6, 2) := by decide +kernel
theorem d_law_2366 : decode code 2366 = .ok (.i2l, 1) := by decide +kernel
theorem d_law_2367 : decode code 2367 = .ok (.lcmp, 1) := by decide +kernel
theorem d_law_2368 : decode code 2368 = .ok (.ifCond .eq 5, 3) := by decide +kernel
theorem d_law_2371 : decode code 2371 = .ok (.iconst 0, 1) := by decide +kernel
theorem d_law_2372 : decode code 2372 = .ok (.ireturn, 1) := by decide +kernel
theorem d_law_2373 : decode code 2373 = .ok (.goto 476, 3) := by decide +kernel
theorem d_law_2376 : decode code 2376 = .ok (.aload_n 1, 1) := by decide +kernel
theorem d_law_2377 : decode code 2377 = .ok (.aload_n 0, 1) := by decide +kernel
theorem d_law_2378 : decode code 2378 = .ok (.iload 4, 2) := by decide +kernel
theorem d_law_2380 : decode code 2380 = .ok (.iconst 1, 1) := by decide +kernel
theorem d_law_2381 : decode code 2381 = .ok (.iadd, 1) := by decide +kernel
theorem d_law_2382 : decode code 2382 = .ok (.iaload, 1) := by decide +kernel
theorem d_law_2383 : decode code 2383 = .ok (.aload_n 3, 1) := by decide +kernel
theorem d_law_2384 : decode code 2384 = .ok (.invokestatic 257, 3) := by decide +kernel
theorem d_law_2387 : decode code 2387 = .ok (.istore 5, 2) := by decide +kernel
theorem d_law_2389 : decode code 2389 = .ok (.aload_n 2, 1) := by decide +kernel
theorem d_law_2390 : decode code 2390 = .ok (.aload_n 0, 1) := by decide +kernel
theorem d_law_2391 : decode code 2391 = .ok (.iload 4, 2) := by decide +kernel
theorem d_law_2393 : decode code 2393 = .ok (.iconst 1, 1) := by decide +kernel
theorem d_law_2394 : decode code 2394 = .ok (.iadd, 1) := by decide +kernel
theorem d_law_2395 : decode code 2395 = .ok (.iaload, 1) := by decide +kernel
theorem d_law_2396 : decode code 2396 = .ok (.invokevirtual 259, 3) := by decide +kernel
theorem d_law_2399 : decode code 2399 = .ok (.istore 6, 2) := by decide +kernel
theorem d_law_2401 : decode code 2401 = .ok (.aload_n 2, 1) := by decide +kernel
theorem d_law_2402 : decode code 2402 = .ok (.invokevirtual 153, 3) := by decide +kernel
theorem d_law_2405 : decode code 2405 = .ok (.iload 5, 2) := by decide +kernel
theorem d_law_2407 : decode code 2407 = .ok (.if_icmp .eq 5, 3) := by decide +kernel
theorem d_law_2410 : decode code 2410 = .ok (.iconst 0, 1) := by decide +kernel
theorem d_law_2411 : decode code 2411 = .ok (.ireturn, 1) := by decide +kernel
theorem d_law_2412 : decode code 2412 = .ok (.iload 5, 2) := by decide +kernel
theorem d_law_2414 : decode code 2414 = .ok (.ifCond .ne 15, 3) := by decide +kernel
theorem d_law_2417 : decode code 2417 = .ok (.aload_n 3, 1) := by decide +kernel
theorem d_law_2418 : decode code 2418 = .ok (.iconst 0, 1) := by decide +kernel
theorem d_law_2419 : decode code 2419 = .ok (.laload, 1) := by decide +kernel
theorem d_law_2420 : decode code 2420 = .ok (.iload 6, 2) := by decide +kernel
theorem d_law_2422 : decode code 2422 = .ok (.i2l, 1) := by decide +kernel
theorem d_law_2423 : decode code 2423 = .ok (.lcmp, 1) := by decide +kernel
theorem d_law_2424 : decode code 2424 = .ok (.ifCond .eq 5, 3) := by decide +kernel
theorem d_law_2427 : decode code 2427 = .ok (.iconst 0, 1) := by decide +kernel
theorem d_law_2428 : decode code 2428 = .ok (.ireturn, 1) := by decide +kernel
theorem d_law_2429 : decode code 2429 = .ok (.goto 420, 3) := by decide +kernel
theorem d_law_2432 : decode code 2432 = .ok (.aload_n 1, 1) := by decide +kernel
theorem d_law_2433 : decode code 2433 = .ok (.aload_n 0, 1) := by decide +kernel
theorem d_law_2434 : decode code 2434 = .ok (.iload 4, 2) := by decide +kernel
theorem d_law_2436 : decode code 2436 = .ok (.iconst 1, 1) := by decide +kernel
theorem d_law_2437 : decode code 2437 = .ok (.iadd, 1) := by decide +kernel
theorem d_law_2438 : decode code 2438 = .ok (.iaload, 1) := by decide +kernel
theorem d_law_2439 : decode code 2439 = .ok (.aload_n 3, 1) := by decide +kernel
theorem d_law_2440 : decode code 2440 = .ok (.invokestatic 260, 3) := by decide +kernel
theorem d_law_2443 : decode code 2443 = .ok (.istore 5, 2) := by decide +kernel
theorem d_law_2445 : decode code 2445 = .ok (.aload_n 2, 1) := by decide +kernel
theorem d_law_2446 : decode code 2446 = .ok (.aload_n 0, 1) := by decide +kernel
theorem d_law_2447 : decode code 2447 = .ok (.iload 4, 2) := by decide +kernel
theorem d_law_2449 : decode code 2449 = .ok (.iconst 1, 1) := by decide +kernel
theorem d_law_2450 : decode code 2450 = .ok (.iadd, 1) := by decide +kernel
theorem d_law_2451 : decode code 2451 = .ok (.iaload, 1) := by decide +kernel
theorem d_law_2452 : decode code 2452 = .ok (.invokevirtual 262, 3) := by decide +kernel
theorem d_law_2455 : decode code 2455 = .ok (.istore 6, 2) := by decide +kernel
theorem d_law_2457 : decode code 2457 = .ok (.aload_n 2, 1) := by decide +kernel
theorem d_law_2458 : decode code 2458 = .ok (.invokevirtual 153, 3) := by decide +kernel
theorem d_law_2461 : decode code 2461 = .ok (.iload 5, 2) := by decide +kernel
theorem d_law_2463 : decode code 2463 = .ok (.if_icmp .eq 5, 3) := by decide +kernel
theorem d_law_2466 : decode code 2466 = .ok (.iconst 0, 1) := by decide +kernel
theorem d_law_2467 : decode code 2467 = .ok (.ireturn, 1) := by decide +kernel
theorem d_law_2468 : decode code 2468 = .ok (.iload 5, 2) := by decide +kernel
theorem d_law_2470 : decode code 2470 = .ok (.ifCond .ne 15, 3) := by decide +kernel
theorem d_law_2473 : decode code 2473 = .ok (.aload_n 3, 1) := by decide +kernel
theorem d_law_2474 : decode code 2474 = .ok (.iconst 0, 1) := by decide +kernel
theorem d_law_2475 : decode code 2475 = .ok (.laload, 1) := by decide +kernel
theorem d_law_2476 : decode code 2476 = .ok (.iload 6, 2) := by decide +kernel
theorem d_law_2478 : decode code 2478 = .ok (.i2l, 1) := by decide +kernel
theorem d_law_2479 : decode code 2479 = .ok (.lcmp, 1) := by decide +kernel
theorem d_law_2480 : decode code 2480 = .ok (.ifCond .eq 5, 3) := by decide +kernel
theorem d_law_2483 : decode code 2483 = .ok (.iconst 0, 1) := by decide +kernel
theorem d_law_2484 : decode code 2484 = .ok (.ireturn, 1) := by decide +kernel
theorem d_law_2485 : decode code 2485 = .ok (.goto 364, 3) := by decide +kernel
theorem d_law_2488 : decode code 2488 = .ok (.aload_n 1, 1) := by decide +kernel
theorem d_law_2489 : decode code 2489 = .ok (.aload_n 0, 1) := by decide +kernel
theorem d_law_2490 : decode code 2490 = .ok (.iload 4, 2) := by decide +kernel
theorem d_law_2492 : decode code 2492 = .ok (.iconst 1, 1) := by decide +kernel
theorem d_law_2493 : decode code 2493 = .ok (.iadd, 1) := by decide +kernel
theorem d_law_2494 : decode code 2494 = .ok (.iaload, 1) := by decide +kernel
theorem d_law_2495 : decode code 2495 = .ok (.aload_n 0, 1) := by decide +kernel
theorem d_law_2496 : decode code 2496 = .ok (.iload 4, 2) := by decide +kernel
theorem d_law_2498 : decode code 2498 = .ok (.iconst 2, 1) := by decide +kernel
theorem d_law_2499 : decode code 2499 = .ok (.iadd, 1) := by decide +kernel
theorem d_law_2500 : decode code 2500 = .ok (.iaload, 1) := by decide +kernel
theorem d_law_2501 : decode code 2501 = .ok (.aload_n 3, 1) := by decide +kernel
theorem d_law_2502 : decode code 2502 = .ok (.invokestatic 263, 3) := by decide +kernel
theorem d_law_2505 : decode code 2505 = .ok (.istore 5, 2) := by decide +kernel
theorem d_law_2507 : decode code 2507 = .ok (.aload_n 2, 1) := by decide +kernel
theorem d_law_2508 : decode code 2508 = .ok (.aload_n 0, 1) := by decide +kernel
theorem d_law_2509 : decode code 2509 = .ok (.iload 4, 2) := by decide +kernel
theorem d_law_2511 : decode code 2511 = .ok (.iconst 1, 1) := by decide +kernel
theorem d_law_2512 : decode code 2512 = .ok (.iadd, 1) := by decide +kernel
theorem d_law_2513 : decode code 2513 = .ok (.iaload, 1) := by decide +kernel
theorem d_law_2514 : decode code 2514 = .ok (.aload_n 0, 1) := by decide +kernel
theorem d_law_2515 : decode code 2515 = .ok (.iload 4, 2) := by decide +kernel
theorem d_law_2517 : decode code 2517 = .ok (.iconst 2, 1) := by decide +kernel
theorem d_law_2518 : decode code 2518 = .ok (.iadd, 1) := by decide +kernel
theorem d_law_2519 : decode code 2519 = .ok (.iaload, 1) := by decide +kernel
theorem d_law_2520 : decode code 2520 = .ok (.invokevirtual 265, 3) := by decide +kernel
theorem d_law_2523 : decode code 2523 = .ok (.istore 6, 2) := by decide +kernel
theorem d_law_2525 : decode code 2525 = .ok (.aload_n 2, 1) := by decide +kernel
theorem d_law_2526 : decode code 2526 = .ok (.invokevirtual 153, 3) := by decide +kernel
theorem d_law_2529 : decode code 2529 = .ok (.iload 5, 2) := by decide +kernel
theorem d_law_2531 : decode code 2531 = .ok (.if_icmp .eq 5, 3) := by decide +kernel
theorem d_law_2534 : decode code 2534 = .ok (.iconst 0, 1) := by decide +kernel
theorem d_law_2535 : decode code 2535 = .ok (.ireturn, 1) := by decide +kernel
theorem d_law_2536 : decode code 2536 = .ok (.iload 5, 2) := by decide +kernel
theorem d_law_2538 : decode code 2538 = .ok (.ifCond .ne 15, 3) := by decide +kernel
theorem d_law_2541 : decode code 2541 = .ok (.aload_n 3, 1) := by decide +kernel
theorem d_law_2542 : decode code 2542 = .ok (.iconst 0, 1) := by decide +kernel
theorem d_law_2543 : decode code 2543 = .ok (.laload, 1) := by decide +kernel
theorem d_law_2544 : decode code 2544 = .ok (.iload 6, 2) := by decide +kernel
theorem d_law_2546 : decode code 2546 = .ok (.i2l, 1) := by decide +kernel
theorem d_law_2547 : decode code 2547 = .ok (.lcmp, 1) := by decide +kernel
theorem d_law_2548 : decode code 2548 = .ok (.ifCond .eq 5, 3) := by decide +kernel
theorem d_law_2551 : decode code 2551 = .ok (.iconst 0, 1) := by decide +kernel
theorem d_law_2552 : decode code 2552 = .ok (.ireturn, 1) := by decide +kernel
theorem d_law_2553 : decode code 2553 = .ok (.goto 296, 3) := by decide +kernel
theorem d_law_2556 : decode code 2556 = .ok (.aload_n 1, 1) := by decide +kernel
theorem d_law_2557 : decode code 2557 = .ok (.invokevirtual 266, 3) := by decide +kernel
theorem d_law_2560 : decode code 2560 = .ok (.aload_n 2, 1) := by decide +kernel
theorem d_law_2561 : decode code 2561 = .ok (.invokevirtual 269, 3) := by decide +kernel
theorem d_law_2564 : decode code 2564 = .ok (.if_icmp .eq 285, 3) := by decide +kernel
theorem d_law_2567 : decode code 2567 = .ok (.iconst 0, 1) := by decide +kernel
theorem d_law_2568 : decode code 2568 = .ok (.ireturn, 1) := by decide +kernel
theorem d_law_2569 : decode code 2569 = .ok (.aload_n 1, 1) := by decide +kernel
theorem d_law_2570 : decode code 2570 = .ok (.aload_n 0, 1) := by decide +kernel
theorem d_law_2571 : decode code 2571 = .ok (.iload 4, 2) := by decide +kernel
theorem d_law_2573 : decode code 2573 = .ok (.iconst 1, 1) := by decide +kernel
theorem d_law_2574 : decode code 2574 = .ok (.iadd, 1) := by decide +kernel
theorem d_law_2575 : decode code 2575 = .ok (.iaload, 1) := by decide +kernel
theorem d_law_2576 : decode code 2576 = .ok (.aload_n 3, 1) := by decide +kernel
theorem d_law_2577 : decode code 2577 = .ok (.invokestatic 270, 3) := by decide +kernel
theorem d_law_2580 : decode code 2580 = .ok (.istore 5, 2) := by decide +kernel
theorem d_law_2582 : decode code 2582 = .ok (.aload_n 2, 1) := by decide +kernel
theorem d_law_2583 : decode code 2583 = .ok (.aload_n 0, 1) := by decide +kernel
theorem d_law_2584 : decode code 2584 = .ok (.iload 4, 2) := by decide +kernel
theorem d_law_2586 : decode code 2586 = .ok (.iconst 1, 1) := by decide +kernel
theorem d_law_2587 : decode code 2587 = .ok (.iadd, 1) := by decide +kernel
theorem d_law_2588 : decode code 2588 = .ok (.iaload, 1) := by decide +kernel
theorem d_law_2589 : decode code 2589 = .ok (.invokevirtual 272, 3) := by decide +kernel
theorem d_law_2592 : decode code 2592 = .ok (.istore 6, 2) := by decide +kernel
theorem d_law_2594 : decode code 2594 = .ok (.aload_n 2, 1) := by decide +kernel
theorem d_law_2595 : decode code 2595 = .ok (.invokevirtual 153, 3) := by decide +kernel
theorem d_law_2598 : decode code 2598 = .ok (.iload 5, 2) := by decide +kernel
theorem d_law_2600 : decode code 2600 = .ok (.if_icmp .eq 5, 3) := by decide +kernel
theorem d_law_2603 : decode code 2603 = .ok (.iconst 0, 1) := by decide +kernel
theorem d_law_2604 : decode code 2604 = .ok (.ireturn, 1) := by decide +kernel
theorem d_law_2605 : decode code 2605 = .ok (.iload 5, 2) := by decide +kernel
theorem d_law_2607 : decode code 2607 = .ok (.ifCond .ne 15, 3) := by decide +kernel
theorem d_law_2610 : decode code 2610 = .ok (.aload_n 3, 1) := by decide +kernel
theorem d_law_2611 : decode code 2611 = .ok (.iconst 0, 1) := by decide +kernel
theorem d_law_2612 : decode code 2612 = .ok (.laload, 1) := by decide +kernel
theorem d_law_2613 : decode code 2613 = .ok (.iload 6, 2) := by decide +kernel
theorem d_law_2615 : decode code 2615 = .ok (.i2l, 1) := by decide +kernel
theorem d_law_2616 : decode code 2616 = .ok (.lcmp, 1) := by decide +kernel
theorem d_law_2617 : decode code 2617 = .ok (.ifCond .eq 5, 3) := by decide +kernel
theorem d_law_2620 : decode code 2620 = .ok (.iconst 0, 1) := by decide +kernel
theorem d_law_2621 : decode code 2621 = .ok (.ireturn, 1) := by decide +kernel
theorem d_law_2622 : decode code 2622 = .ok (.goto 227, 3) := by decide +kernel
theorem d_law_2625 : decode code 2625 = .ok (.aload_n 1, 1) := by decide +kernel
theorem d_law_2626 : decode code 2626 = .ok (.aload_n 0, 1) := by decide +kernel
theorem d_law_2627 : decode code 2627 = .ok (.iload 4, 2) := by decide +kernel
theorem d_law_2629 : decode code 2629 = .ok (.iconst 1, 1) := by decide +kernel
theorem d_law_2630 : decode code 2630 = .ok (.iadd, 1) := by decide +kernel
theorem d_law_2631 : decode code 2631 = .ok (.iaload, 1) := by decide +kernel
theorem d_law_2632 : decode code 2632 = .ok (.aload_n 3, 1) := by decide +kernel
theorem d_law_2633 : decode code 2633 = .ok (.invokestatic 273, 3) := by decide +kernel
theorem d_law_2636 : decode code 2636 = .ok (.istore 5, 2) := by decide +kernel
theorem d_law_2638 : decode code 2638 = .ok (.aload_n 2, 1) := by decide +kernel
theorem d_law_2639 : decode code 2639 = .ok (.aload_n 0, 1) := by decide +kernel
theorem d_law_2640 : decode code 2640 = .ok (.iload 4, 2) := by decide +kernel
theorem d_law_2642 : decode code 2642 = .ok (.iconst 1, 1) := by decide +kernel
theorem d_law_2643 : decode code 2643 = .ok (.iadd, 1) := by decide +kernel
theorem d_law_2644 : decode code 2644 = .ok (.iaload, 1) := by decide +kernel
theorem d_law_2645 : decode code 2645 = .ok (.invokevirtual 275, 3) := by decide +kernel
theorem d_law_2648 : decode code 2648 = .ok (.istore 6, 2) := by decide +kernel
theorem d_law_2650 : decode code 2650 = .ok (.aload_n 2, 1) := by decide +kernel
theorem d_law_2651 : decode code 2651 = .ok (.invokevirtual 153, 3) := by decide +kernel
theorem d_law_2654 : decode code 2654 = .ok (.iload 5, 2) := by decide +kernel
theorem d_law_2656 : decode code 2656 = .ok (.if_icmp .eq 5, 3) := by decide +kernel
theorem d_law_2659 : decode code 2659 = .ok (.iconst 0, 1) := by decide +kernel
theorem d_law_2660 : decode code 2660 = .ok (.ireturn, 1) := by decide +kernel
theorem d_law_2661 : decode code 2661 = .ok (.iload 5, 2) := by decide +kernel
theorem d_law_2663 : decode code 2663 = .ok (.ifCond .ne 15, 3) := by decide +kernel
theorem d_law_2666 : decode code 2666 = .ok (.aload_n 3, 1) := by decide +kernel
theorem d_law_2667 : decode code 2667 = .ok (.iconst 0, 1) := by decide +kernel
theorem d_law_2668 : decode code 2668 = .ok (.laload, 1) := by decide +kernel
theorem d_law_2669 : decode code 2669 = .ok (.iload 6, 2) := by decide +kernel
theorem d_law_2671 : decode code 2671 = .ok (.i2l, 1) := by decide +kernel
theorem d_law_2672 : decode code 2672 = .ok (.lcmp, 1) := by decide +kernel
theorem d_law_2673 : decode code 2673 = .ok (.ifCond .eq 5, 3) := by decide +kernel
theorem d_law_2676 : decode code 2676 = .ok (.iconst 0, 1) := by decide +kernel
theorem d_law_2677 : decode code 2677 = .ok (.ireturn, 1) := by decide +kernel
theorem d_law_2678 : decode code 2678 = .ok (.goto 171, 3) := by decide +kernel
theorem d_law_2681 : decode code 2681 = .ok (.aload_n 1, 1) := by decide +kernel
theorem d_law_2682 : decode code 2682 = .ok (.aload_n 0, 1) := by decide +kernel
theorem d_law_2683 : decode code 2683 = .ok (.iload 4, 2) := by decide +kernel
theorem d_law_2685 : decode code 2685 = .ok (.iconst 1, 1) := by decide +kernel
theorem d_law_2686 : decode code 2686 = .ok (.iadd, 1) := by decide +kernel
theorem d_law_2687 : decode code 2687 = .ok (.iaload, 1) := by decide +kernel
theorem d_law_2688 : decode code 2688 = .ok (.aload_n 3, 1) := by decide +kernel
theorem d_law_2689 : decode code 2689 = .ok (.invokestatic 276, 3) := by decide +kernel
theorem d_law_2692 : decode code 2692 = .ok (.istore 5, 2) := by decide +kernel
theorem d_law_2694 : decode code 2694 = .ok (.aload_n 2, 1) := by decide +kernel
theorem d_law_2695 : decode code 2695 = .ok (.aload_n 0, 1) := by decide +kernel
theorem d_law_2696 : decode code 2696 = .ok (.iload 4, 2) := by decide +kernel
theorem d_law_2698 : decode code 2698 = .ok (.iconst 1, 1) := by decide +kernel
theorem d_law_2699 : decode code 2699 = .ok (.iadd, 1) := by decide +kernel
theorem d_law_2700 : decode code 2700 = .ok (.iaload, 1) := by decide +kernel
theorem d_law_2701 : decode code 2701 = .ok (.invokevirtual 278, 3) := by decide +kernel
theorem d_law_2704 : decode code 2704 = .ok (.istore 6, 2) := by decide +kernel
theorem d_law_2706 : decode code 2706 = .ok (.aload_n 2, 1) := by decide +kernel
theorem d_law_2707 : decode code 2707 = .ok (.invokevirtual 153, 3) := by decide +kernel
theorem d_law_2710 : decode code 2710 = .ok (.iload 5, 2) := by decide +kernel
theorem d_law_2712 : decode code 2712 = .ok (.if_icmp .eq 5, 3) := by decide +kernel
theorem d_law_2715 : decode code 2715 = .ok (.iconst 0, 1) := by decide +kernel
theorem d_law_2716 : decode code 2716 = .ok (.ireturn, 1) := by decide +kernel
theorem d_law_2717 : decode code 2717 = .ok (.iload 5, 2) := by decide +kernel
theorem d_law_2719 : decode code 2719 = .ok (.ifCond .ne 15, 3) := by decide +kernel
theorem d_law_2722 : decode code 2722 = .ok (.aload_n 3, 1) := by decide +kernel
theorem d_law_2723 : decode code 2723 = .ok (.iconst 0, 1) := by decide +kernel
theorem d_law_2724 : decode code 2724 = .ok (.laload, 1) := by decide +kernel
theorem d_law_2725 : decode code 2725 = .ok (.iload 6, 2) := by decide +kernel
theorem d_law_2727 : decode code 2727 = .ok (.i2l, 1) := by decide +kernel
theorem d_law_2728 : decode code 2728 = .ok (.lcmp, 1) := by decide +kernel
theorem d_law_2729 : decode code 2729 = .ok (.ifCond .eq 5, 3) := by decide +kernel
theorem d_law_2732 : decode code 2732 = .ok (.iconst 0, 1) := by decide +kernel
theorem d_law_2733 : decode code 2733 = .ok (.ireturn, 1) := by decide +kernel
theorem d_law_2734 : decode code 2734 = .ok (.goto 115, 3) := by decide +kernel
theorem d_law_2737 : decode code 2737 = .ok (.aload_n 1, 1) := by decide +kernel
theorem d_law_2738 : decode code 2738 = .ok (.aload_n 0, 1) := by decide +kernel
theorem d_law_2739 : decode code 2739 = .ok (.iload 4, 2) := by decide +kernel
theorem d_law_2741 : decode code 2741 = .ok (.iconst 1, 1) := by decide +kernel
theorem d_law_2742 : decode code 2742 = .ok (.iadd, 1) := by decide +kernel
theorem d_law_2743 : decode code 2743 = .ok (.iaload, 1) := by decide +kernel
theorem d_law_2744 : decode code 2744 = .ok (.aload_n 3, 1) := by decide +kernel
theorem d_law_2745 : decode code 2745 = .ok (.invokestatic 279, 3) := by decide +kernel
theorem d_law_2748 : decode code 2748 = .ok (.istore 5, 2) := by decide +kernel
theorem d_law_2750 : decode code 2750 = .ok (.aload_n 2, 1) := by decide +kernel
theorem d_law_2751 : decode code 2751 = .ok (.aload_n 0, 1) := by decide +kernel
theorem d_law_2752 : decode code 2752 = .ok (.iload 4, 2) := by decide +kernel
theorem d_law_2754 : decode code 2754 = .ok (.iconst 1, 1) := by decide +kernel
theorem d_law_2755 : decode code 2755 = .ok (.iadd, 1) := by decide +kernel
theorem d_law_2756 : decode code 2756 = .ok (.iaload, 1) := by decide +kernel
theorem d_law_2757 : decode code 2757 = .ok (.invokevirtual 281, 3) := by decide +kernel
theorem d_law_2760 : decode code 2760 = .ok (.istore 6, 2) := by decide +kernel
theorem d_law_2762 : decode code 2762 = .ok (.aload_n 2, 1) := by decide +kernel
theorem d_law_2763 : decode code 2763 = .ok (.invokevirtual 153, 3) := by decide +kernel
theorem d_law_2766 : decode code 2766 = .ok (.iload 5, 2) := by decide +kernel
theorem d_law_2768 : decode code 2768 = .ok (.if_icmp .eq 5, 3) := by decide +kernel
theorem d_law_2771 : decode code 2771 = .ok (.iconst 0, 1) := by decide +kernel
theorem d_law_2772 : decode code 2772 = .ok (.ireturn, 1) := by decide +kernel
theorem d_law_2773 : decode code 2773 = .ok (.iload 5, 2) := by decide +kernel
theorem d_law_2775 : decode code 2775 = .ok (.ifCond .ne 15, 3) := by decide +kernel
theorem d_law_2778 : decode code 2778 = .ok (.aload_n 3, 1) := by decide +kernel
theorem d_law_2779 : decode code 2779 = .ok (.iconst 0, 1) := by decide +kernel
theorem d_law_2780 : decode code 2780 = .ok (.laload, 1) := by decide +kernel
theorem d_law_2781 : decode code 2781 = .ok (.iload 6, 2) := by decide +kernel
theorem d_law_2783 : decode code 2783 = .ok (.i2l, 1) := by decide +kernel
theorem d_law_2784 : decode code 2784 = .ok (.lcmp, 1) := by decide +kernel
theorem d_law_2785 : decode code 2785 = .ok (.ifCond .eq 5, 3) := by decide +kernel
theorem d_law_2788 : decode code 2788 = .ok (.iconst 0, 1) := by decide +kernel
theorem d_law_2789 : decode code 2789 = .ok (.ireturn, 1) := by decide +kernel
theorem d_law_2790 : decode code 2790 = .ok (.goto 59, 3) := by decide +kernel
theorem d_law_2793 : decode code 2793 = .ok (.aload_n 1, 1) := by decide +kernel
theorem d_law_2794 : decode code 2794 = .ok (.aload_n 0, 1) := by decide +kernel
theorem d_law_2795 : decode code 2795 = .ok (.iload 4, 2) := by decide +kernel
theorem d_law_2797 : decode code 2797 = .ok (.iconst 1, 1) := by decide +kernel
theorem d_law_2798 : decode code 2798 = .ok (.iadd, 1) := by decide +kernel
theorem d_law_2799 : decode code 2799 = .ok (.iaload, 1) := by decide +kernel
theorem d_law_2800 : decode code 2800 = .ok (.aload_n 3, 1) := by decide +kernel
theorem d_law_2801 : decode code 2801 = .ok (.invokestatic 282, 3) := by decide +kernel
theorem d_law_2804 : decode code 2804 = .ok (.istore 5, 2) := by decide +kernel
theorem d_law_2806 : decode code 2806 = .ok (.aload_n 2, 1) := by decide +kernel
theorem d_law_2807 : decode code 2807 = .ok (.aload_n 0, 1) := by decide +kernel
theorem d_law_2808 : decode code 2808 = .ok (.iload 4, 2) := by decide +kernel
theorem d_law_2810 : decode code 2810 = .ok (.iconst 1, 1) := by decide +kernel
theorem d_law_2811 : decode code 2811 = .ok (.iadd, 1) := by decide +kernel
theorem d_law_2812 : decode code 2812 = .ok (.iaload, 1) := by decide +kernel
theorem d_law_2813 : decode code 2813 = .ok (.invokevirtual 284, 3) := by decide +kernel
theorem d_law_2816 : decode code 2816 = .ok (.istore 6, 2) := by decide +kernel
theorem d_law_2818 : decode code 2818 = .ok (.aload_n 2, 1) := by decide +kernel
theorem d_law_2819 : decode code 2819 = .ok (.invokevirtual 153, 3) := by decide +kernel
theorem d_law_2822 : decode code 2822 = .ok (.iload 5, 2) := by decide +kernel
theorem d_law_2824 : decode code 2824 = .ok (.if_icmp .eq 5, 3) := by decide +kernel
theorem d_law_2827 : decode code 2827 = .ok (.iconst 0, 1) := by decide +kernel
theorem d_law_2828 : decode code 2828 = .ok (.ireturn, 1) := by decide +kernel
theorem d_law_2829 : decode code 2829 = .ok (.iload 5, 2) := by decide +kernel
theorem d_law_2831 : decode code 2831 = .ok (.ifCond .ne 15, 3) := by decide +kernel
theorem d_law_2834 : decode code 2834 = .ok (.aload_n 3, 1) := by decide +kernel
theorem d_law_2835 : decode code 2835 = .ok (.iconst 0, 1) := by decide +kernel
theorem d_law_2836 : decode code 2836 = .ok (.laload, 1) := by decide +kernel
theorem d_law_2837 : decode code 2837 = .ok (.iload 6, 2) := by decide +kernel
theorem d_law_2839 : decode code 2839 = .ok (.i2l, 1) := by decide +kernel
theorem d_law_2840 : decode code 2840 = .ok (.lcmp, 1) := by decide +kernel
theorem d_law_2841 : decode code 2841 = .ok (.ifCond .eq 5, 3) := by decide +kernel
theorem d_law_2844 : decode code 2844 = .ok (.iconst 0, 1) := by decide +kernel
theorem d_law_2845 : decode code 2845 = .ok (.ireturn, 1) := by decide +kernel
theorem d_law_2846 : decode code 2846 = .ok (.goto 3, 3) := by decide +kernel
theorem d_law_2849 : decode code 2849 = .ok (.iinc 4 5, 3) := by decide +kernel
theorem d_law_2852 : decode code 2852 = .ok (.goto (-2829), 3) := by decide +kernel
theorem d_law_2855 : decode code 2855 = .ok (.iconst 1, 1) := by decide +kernel
theorem d_law_2856 : decode code 2856 = .ok (.ireturn, 1) := by decide +kernel
def callOkW (M N : xMeth) (y : MethodName) (wc : Cond) (index n : Nat) : Prop := wc = Cond.codeWith y N.2.1 N.2.2.1 N.2.2.2.1 N.2.2.2.2.2.1 ∧ wc ∈ lw_tbl ∧ Cond.methodLink M.1 index y ∈ lw_tbl ∧ Cond.initialized y.cls ∈ lw_tbl ∧ (y.cls ≠ "java/lang/invoke/MethodHandle" ∧ y.cls ≠ "java/lang/invoke/VarHandle") ∧ (parseMethodDescriptor y.desc).map (fun d => d.parameters.length) = some n ∧ N.2.2.2.2.2.2.frames + 1 ≤ M.2.2.2.2.2.2.frames ∧ 8 + (N.2.2.1 + 11) + N.2.2.2.2.2.2.locals ≤ M.2.2.2.2.2.2.locals
theorem q_law_143 (nm : String) (hh : List (Nat × Nat × Nat × Nat)) : callOk (M_law nm hh) M_h_init y_h_init k_h_init 143 0 := ⟨rfl, e_h_init, w27, w1, by decide, by decide +kernel, Nat.le_of_ble_eq_true rfl, Nat.le_of_ble_eq_true rfl⟩
theorem q_law_146 (nm : String) (hh : List (Nat × Nat × Nat × Nat)) : callOk (M_law nm hh) M_m_init y_m_init k_m_init 146 0 := ⟨rfl, e_m_init, w969, w11, by decide, by decide +kernel, Nat.le_of_ble_eq_true rfl, Nat.le_of_ble_eq_true rfl⟩
theorem q_law_147 (nm : String) (hh : List (Nat × Nat × Nat × Nat)) : callOkW (M_law nm hh) M_L_newImage y_L_newImage k_L_newImage 147 3 := ⟨rfl, e_L_newImage, w194, w0, by decide, by decide +kernel, Nat.le_of_ble_eq_true rfl, Nat.le_of_ble_eq_true rfl⟩
theorem q_law_152 (nm : String) (hh : List (Nat × Nat × Nat × Nat)) : callOk (M_law nm hh) M_m_newImage y_m_newImage k_m_newImage 152 1 := ⟨rfl, e_m_newImage, w1063, w11, by decide, by decide +kernel, Nat.le_of_ble_eq_true rfl, Nat.le_of_ble_eq_true rfl⟩
theorem q_law_153 (nm : String) (hh : List (Nat × Nat × Nat × Nat)) : callOk (M_law nm hh) M_m_thrown y_m_thrown k_m_thrown 153 0 := ⟨rfl, e_m_thrown, w1059, w11, by decide, by decide +kernel, Nat.le_of_ble_eq_true rfl, Nat.le_of_ble_eq_true rfl⟩
theorem q_law_157 (nm : String) (hh : List (Nat × Nat × Nat × Nat)) : callOkW (M_law nm hh) M_L_write y_L_write k_L_write 157 5 := ⟨rfl, e_L_write, w353, w0, by decide, by decide +kernel, Nat.le_of_ble_eq_true rfl, Nat.le_of_ble_eq_true rfl⟩
theorem q_law_160 (nm : String) (hh : List (Nat × Nat × Nat × Nat)) : callOk (M_law nm hh) M_m_write y_m_write k_m_write 160 3 := ⟨rfl, e_m_write, w1086, w11, by decide, by decide +kernel, Nat.le_of_ble_eq_true rfl, Nat.le_of_ble_eq_true rfl⟩
theorem q_law_161 (nm : String) (hh : List (Nat × Nat × Nat × Nat)) : callOkW (M_law nm hh) M_L_remove y_L_remove k_L_remove 161 4 := ⟨rfl, e_L_remove, w400, w0, by decide, by decide +kernel, Nat.le_of_ble_eq_true rfl, Nat.le_of_ble_eq_true rfl⟩
theorem q_law_164 (nm : String) (hh : List (Nat × Nat × Nat × Nat)) : callOk (M_law nm hh) M_m_remove y_m_remove k_m_remove 164 2 := ⟨rfl, e_m_remove, w1101, w11, by decide, by decide +kernel, Nat.le_of_ble_eq_true rfl, Nat.le_of_ble_eq_true rfl⟩
theorem q_law_165 (nm : String) (hh : List (Nat × Nat × Nat × Nat)) : callOkW (M_law nm hh) M_L_clear y_L_clear k_L_clear 165 4 := ⟨rfl, e_L_clear, w411, w0, by decide, by decide +kernel, Nat.le_of_ble_eq_true rfl, Nat.le_of_ble_eq_true rfl⟩
theorem q_law_167 (nm : String) (hh : List (Nat × Nat × Nat × Nat)) : callOk (M_law nm hh) M_m_clear y_m_clear k_m_clear 167 2 := ⟨rfl, e_m_clear, w1105, w11, by decide, by decide +kernel, Nat.le_of_ble_eq_true rfl, Nat.le_of_ble_eq_true rfl⟩
theorem q_law_168 (nm : String) (hh : List (Nat × Nat × Nat × Nat)) : callOkW (M_law nm hh) M_L_seal y_L_seal k_L_seal 168 3 := ⟨rfl, e_L_seal, w428, w0, by decide, by decide +kernel, Nat.le_of_ble_eq_true rfl, Nat.le_of_ble_eq_true rfl⟩
theorem q_law_170 (nm : String) (hh : List (Nat × Nat × Nat × Nat)) : callOk (M_law nm hh) M_m_seal y_m_seal k_m_seal 170 1 := ⟨rfl, e_m_seal, w1109, w11, by decide, by decide +kernel, Nat.le_of_ble_eq_true rfl, Nat.le_of_ble_eq_true rfl⟩
theorem q_law_171 (nm : String) (hh : List (Nat × Nat × Nat × Nat)) : callOkW (M_law nm hh) M_L_shown y_L_shown k_L_shown 171 4 := ⟨rfl, e_L_shown, w435, w0, by decide, by decide +kernel, Nat.le_of_ble_eq_true rfl, Nat.le_of_ble_eq_true rfl⟩
theorem q_law_173 (nm : String) (hh : List (Nat × Nat × Nat × Nat)) : callOk (M_law nm hh) M_m_shown y_m_shown k_m_shown 173 2 := ⟨rfl, e_m_shown, w1113, w11, by decide, by decide +kernel, Nat.le_of_ble_eq_true rfl, Nat.le_of_ble_eq_true rfl⟩
theorem q_law_174 (nm : String) (hh : List (Nat × Nat × Nat × Nat)) : callOkW (M_law nm hh) M_L_entries y_L_entries k_L_entries 174 4 := ⟨rfl, e_L_entries, w442, w0, by decide, by decide +kernel, Nat.le_of_ble_eq_true rfl, Nat.le_of_ble_eq_true rfl⟩
theorem q_law_176 (nm : String) (hh : List (Nat × Nat × Nat × Nat)) : callOk (M_law nm hh) M_m_entries y_m_entries k_m_entries 176 2 := ⟨rfl, e_m_entries, w1117, w11, by decide, by decide +kernel, Nat.le_of_ble_eq_true rfl, Nat.le_of_ble_eq_true rfl⟩
theorem q_law_177 (nm : String) (hh : List (Nat × Nat × Nat × Nat)) : callOkW (M_law nm hh) M_L_commit y_L_commit k_L_commit 177 3 := ⟨rfl, e_L_commit, w464, w0, by decide, by decide +kernel, Nat.le_of_ble_eq_true rfl, Nat.le_of_ble_eq_true rfl⟩
theorem q_law_179 (nm : String) (hh : List (Nat × Nat × Nat × Nat)) : callOk (M_law nm hh) M_m_commit y_m_commit k_m_commit 179 1 := ⟨rfl, e_m_commit, w1121, w11, by decide, by decide +kernel, Nat.le_of_ble_eq_true rfl, Nat.le_of_ble_eq_true rfl⟩
theorem q_law_180 (nm : String) (hh : List (Nat × Nat × Nat × Nat)) : callOkW (M_law nm hh) M_L_newGroup y_L_newGroup k_L_newGroup 180 6 := ⟨rfl, e_L_newGroup, w484, w0, by decide, by decide +kernel, Nat.le_of_ble_eq_true rfl, Nat.le_of_ble_eq_true rfl⟩
theorem q_law_183 (nm : String) (hh : List (Nat × Nat × Nat × Nat)) : callOk (M_law nm hh) M_m_newGroup y_m_newGroup k_m_newGroup 183 4 := ⟨rfl, e_m_newGroup, w1133, w11, by decide, by decide +kernel, Nat.le_of_ble_eq_true rfl, Nat.le_of_ble_eq_true rfl⟩
theorem q_law_184 (nm : String) (hh : List (Nat × Nat × Nat × Nat)) : callOkW (M_law nm hh) M_L_groupMemory y_L_groupMemory k_L_groupMemory 184 3 := ⟨rfl, e_L_groupMemory, w497, w0, by decide, by decide +kernel, Nat.le_of_ble_eq_true rfl, Nat.le_of_ble_eq_true rfl⟩
theorem q_law_186 (nm : String) (hh : List (Nat × Nat × Nat × Nat)) : callOk (M_law nm hh) M_m_groupMemory y_m_groupMemory k_m_groupMemory 186 1 := ⟨rfl, e_m_groupMemory, w1141, w11, by decide, by decide +kernel, Nat.le_of_ble_eq_true rfl, Nat.le_of_ble_eq_true rfl⟩
theorem q_law_187 (nm : String) (hh : List (Nat × Nat × Nat × Nat)) : callOkW (M_law nm hh) M_L_groupProcesses y_L_groupProcesses k_L_groupProcesses 187 3 := ⟨rfl, e_L_groupProcesses, w504, w0, by decide, by decide +kernel, Nat.le_of_ble_eq_true rfl, Nat.le_of_ble_eq_true rfl⟩
theorem q_law_189 (nm : String) (hh : List (Nat × Nat × Nat × Nat)) : callOk (M_law nm hh) M_m_groupProcesses y_m_groupProcesses k_m_groupProcesses 189 1 := ⟨rfl, e_m_groupProcesses, w1153, w11, by decide, by decide +kernel, Nat.le_of_ble_eq_true rfl, Nat.le_of_ble_eq_true rfl⟩
theorem q_law_190 (nm : String) (hh : List (Nat × Nat × Nat × Nat)) : callOkW (M_law nm hh) M_L_run y_L_run k_L_run 190 6 := ⟨rfl, e_L_run, w511, w0, by decide, by decide +kernel, Nat.le_of_ble_eq_true rfl, Nat.le_of_ble_eq_true rfl⟩
theorem q_law_192 (nm : String) (hh : List (Nat × Nat × Nat × Nat)) : callOk (M_law nm hh) M_m_run y_m_run k_m_run 192 4 := ⟨rfl, e_m_run, w1161, w11, by decide, by decide +kernel, Nat.le_of_ble_eq_true rfl, Nat.le_of_ble_eq_true rfl⟩
theorem q_law_193 (nm : String) (hh : List (Nat × Nat × Nat × Nat)) : callOkW (M_law nm hh) M_L_pause y_L_pause k_L_pause 193 2 := ⟨rfl, e_L_pause, w600, w0, by decide, by decide +kernel, Nat.le_of_ble_eq_true rfl, Nat.le_of_ble_eq_true rfl⟩
theorem q_law_196 (nm : String) (hh : List (Nat × Nat × Nat × Nat)) : callOk (M_law nm hh) M_m_pause y_m_pause k_m_pause 196 1 := ⟨rfl, e_m_pause, w1173, w11, by decide, by decide +kernel, Nat.le_of_ble_eq_true rfl, Nat.le_of_ble_eq_true rfl⟩
theorem q_law_197 (nm : String) (hh : List (Nat × Nat × Nat × Nat)) : callOkW (M_law nm hh) M_L_resume y_L_resume k_L_resume 197 2 := ⟨rfl, e_L_resume, w615, w0, by decide, by decide +kernel, Nat.le_of_ble_eq_true rfl, Nat.le_of_ble_eq_true rfl⟩
theorem q_law_199 (nm : String) (hh : List (Nat × Nat × Nat × Nat)) : callOk (M_law nm hh) M_m_resume y_m_resume k_m_resume 199 1 := ⟨rfl, e_m_resume, w1181, w11, by decide, by decide +kernel, Nat.le_of_ble_eq_true rfl, Nat.le_of_ble_eq_true rfl⟩
theorem q_law_200 (nm : String) (hh : List (Nat × Nat × Nat × Nat)) : callOkW (M_law nm hh) M_L_stop y_L_stop k_L_stop 200 3 := ⟨rfl, e_L_stop, w627, w0, by decide, by decide +kernel, Nat.le_of_ble_eq_true rfl, Nat.le_of_ble_eq_true rfl⟩
theorem q_law_202 (nm : String) (hh : List (Nat × Nat × Nat × Nat)) : callOk (M_law nm hh) M_m_stop y_m_stop k_m_stop 202 1 := ⟨rfl, e_m_stop, w1185, w11, by decide, by decide +kernel, Nat.le_of_ble_eq_true rfl, Nat.le_of_ble_eq_true rfl⟩
theorem q_law_203 (nm : String) (hh : List (Nat × Nat × Nat × Nat)) : callOkW (M_law nm hh) M_L_allocate y_L_allocate k_L_allocate 203 4 := ⟨rfl, e_L_allocate, w643, w0, by decide, by decide +kernel, Nat.le_of_ble_eq_true rfl, Nat.le_of_ble_eq_true rfl⟩
theorem q_law_205 (nm : String) (hh : List (Nat × Nat × Nat × Nat)) : callOk (M_law nm hh) M_m_allocate y_m_allocate k_m_allocate 205 2 := ⟨rfl, e_m_allocate, w1193, w11, by decide, by decide +kernel, Nat.le_of_ble_eq_true rfl, Nat.le_of_ble_eq_true rfl⟩
theorem q_law_206 (nm : String) (hh : List (Nat × Nat × Nat × Nat)) : callOkW (M_law nm hh) M_L_free y_L_free k_L_free 206 4 := ⟨rfl, e_L_free, w666, w0, by decide, by decide +kernel, Nat.le_of_ble_eq_true rfl, Nat.le_of_ble_eq_true rfl⟩
theorem q_law_208 (nm : String) (hh : List (Nat × Nat × Nat × Nat)) : callOk (M_law nm hh) M_m_free y_m_free k_m_free 208 2 := ⟨rfl, e_m_free, w1204, w11, by decide, by decide +kernel, Nat.le_of_ble_eq_true rfl, Nat.le_of_ble_eq_true rfl⟩
theorem q_law_209 (nm : String) (hh : List (Nat × Nat × Nat × Nat)) : callOkW (M_law nm hh) M_L_fork y_L_fork k_L_fork 209 3 := ⟨rfl, e_L_fork, w674, w0, by decide, by decide +kernel, Nat.le_of_ble_eq_true rfl, Nat.le_of_ble_eq_true rfl⟩
theorem q_law_211 (nm : String) (hh : List (Nat × Nat × Nat × Nat)) : callOk (M_law nm hh) M_m_fork y_m_fork k_m_fork 211 1 := ⟨rfl, e_m_fork, w1208, w11, by decide, by decide +kernel, Nat.le_of_ble_eq_true rfl, Nat.le_of_ble_eq_true rfl⟩
theorem q_law_212 (nm : String) (hh : List (Nat × Nat × Nat × Nat)) : callOkW (M_law nm hh) M_L_exit y_L_exit k_L_exit 212 3 := ⟨rfl, e_L_exit, w681, w0, by decide, by decide +kernel, Nat.le_of_ble_eq_true rfl, Nat.le_of_ble_eq_true rfl⟩
theorem q_law_214 (nm : String) (hh : List (Nat × Nat × Nat × Nat)) : callOk (M_law nm hh) M_m_exit y_m_exit k_m_exit 214 1 := ⟨rfl, e_m_exit, w1212, w11, by decide, by decide +kernel, Nat.le_of_ble_eq_true rfl, Nat.le_of_ble_eq_true rfl⟩
theorem q_law_215 (nm : String) (hh : List (Nat × Nat × Nat × Nat)) : callOkW (M_law nm hh) M_L_schedule y_L_schedule k_L_schedule 215 3 := ⟨rfl, e_L_schedule, w688, w0, by decide, by decide +kernel, Nat.le_of_ble_eq_true rfl, Nat.le_of_ble_eq_true rfl⟩
theorem q_law_217 (nm : String) (hh : List (Nat × Nat × Nat × Nat)) : callOk (M_law nm hh) M_m_schedule y_m_schedule k_m_schedule 217 1 := ⟨rfl, e_m_schedule, w1216, w11, by decide, by decide +kernel, Nat.le_of_ble_eq_true rfl, Nat.le_of_ble_eq_true rfl⟩
theorem q_law_218 (nm : String) (hh : List (Nat × Nat × Nat × Nat)) : callOkW (M_law nm hh) M_L_writeFile y_L_writeFile k_L_writeFile 218 5 := ⟨rfl, e_L_writeFile, w729, w0, by decide, by decide +kernel, Nat.le_of_ble_eq_true rfl, Nat.le_of_ble_eq_true rfl⟩
theorem q_law_220 (nm : String) (hh : List (Nat × Nat × Nat × Nat)) : callOk (M_law nm hh) M_m_writeFile y_m_writeFile k_m_writeFile 220 3 := ⟨rfl, e_m_writeFile, w1236, w11, by decide, by decide +kernel, Nat.le_of_ble_eq_true rfl, Nat.le_of_ble_eq_true rfl⟩
theorem q_law_221 (nm : String) (hh : List (Nat × Nat × Nat × Nat)) : callOkW (M_law nm hh) M_L_removeFile y_L_removeFile k_L_removeFile 221 4 := ⟨rfl, e_L_removeFile, w743, w0, by decide, by decide +kernel, Nat.le_of_ble_eq_true rfl, Nat.le_of_ble_eq_true rfl⟩
theorem q_law_223 (nm : String) (hh : List (Nat × Nat × Nat × Nat)) : callOk (M_law nm hh) M_m_removeFile y_m_removeFile k_m_removeFile 223 2 := ⟨rfl, e_m_removeFile, w1252, w11, by decide, by decide +kernel, Nat.le_of_ble_eq_true rfl, Nat.le_of_ble_eq_true rfl⟩
theorem q_law_224 (nm : String) (hh : List (Nat × Nat × Nat × Nat)) : callOkW (M_law nm hh) M_L_fileOf y_L_fileOf k_L_fileOf 224 4 := ⟨rfl, e_L_fileOf, w750, w0, by decide, by decide +kernel, Nat.le_of_ble_eq_true rfl, Nat.le_of_ble_eq_true rfl⟩
theorem q_law_226 (nm : String) (hh : List (Nat × Nat × Nat × Nat)) : callOk (M_law nm hh) M_m_fileOf y_m_fileOf k_m_fileOf 226 2 := ⟨rfl, e_m_fileOf, w1256, w11, by decide, by decide +kernel, Nat.le_of_ble_eq_true rfl, Nat.le_of_ble_eq_true rfl⟩
theorem q_law_227 (nm : String) (hh : List (Nat × Nat × Nat × Nat)) : callOkW (M_law nm hh) M_L_plainFileOf y_L_plainFileOf k_L_plainFileOf 227 4 := ⟨rfl, e_L_plainFileOf, w757, w0, by decide, by decide +kernel, Nat.le_of_ble_eq_true rfl, Nat.le_of_ble_eq_true rfl⟩
theorem q_law_229 (nm : String) (hh : List (Nat × Nat × Nat × Nat)) : callOk (M_law nm hh) M_m_plainFileOf y_m_plainFileOf k_m_plainFileOf 229 2 := ⟨rfl, e_m_plainFileOf, w1260, w11, by decide, by decide +kernel, Nat.le_of_ble_eq_true rfl, Nat.le_of_ble_eq_true rfl⟩
theorem q_law_230 (nm : String) (hh : List (Nat × Nat × Nat × Nat)) : callOkW (M_law nm hh) M_L_raise y_L_raise k_L_raise 230 4 := ⟨rfl, e_L_raise, w769, w0, by decide, by decide +kernel, Nat.le_of_ble_eq_true rfl, Nat.le_of_ble_eq_true rfl⟩
theorem q_law_232 (nm : String) (hh : List (Nat × Nat × Nat × Nat)) : callOk (M_law nm hh) M_m_raise y_m_raise k_m_raise 232 2 := ⟨rfl, e_m_raise, w1268, w11, by decide, by decide +kernel, Nat.le_of_ble_eq_true rfl, Nat.le_of_ble_eq_true rfl⟩
theorem q_law_233 (nm : String) (hh : List (Nat × Nat × Nat × Nat)) : callOkW (M_law nm hh) M_L_lower y_L_lower k_L_lower 233 4 := ⟨rfl, e_L_lower, w781, w0, by decide, by decide +kernel, Nat.le_of_ble_eq_true rfl, Nat.le_of_ble_eq_true rfl⟩
theorem q_law_235 (nm : String) (hh : List (Nat × Nat × Nat × Nat)) : callOk (M_law nm hh) M_m_lower y_m_lower k_m_lower 235 2 := ⟨rfl, e_m_lower, w1276, w11, by decide, by decide +kernel, Nat.le_of_ble_eq_true rfl, Nat.le_of_ble_eq_true rfl⟩
theorem q_law_236 (nm : String) (hh : List (Nat × Nat × Nat × Nat)) : callOkW (M_law nm hh) M_L_drop y_L_drop k_L_drop 236 4 := ⟨rfl, e_L_drop, w788, w0, by decide, by decide +kernel, Nat.le_of_ble_eq_true rfl, Nat.le_of_ble_eq_true rfl⟩
theorem q_law_238 (nm : String) (hh : List (Nat × Nat × Nat × Nat)) : callOk (M_law nm hh) M_m_drop y_m_drop k_m_drop 238 2 := ⟨rfl, e_m_drop, w1280, w11, by decide, by decide +kernel, Nat.le_of_ble_eq_true rfl, Nat.le_of_ble_eq_true rfl⟩
theorem q_law_239 (nm : String) (hh : List (Nat × Nat × Nat × Nat)) : callOkW (M_law nm hh) M_L_kill y_L_kill k_L_kill 239 4 := ⟨rfl, e_L_kill, w795, w0, by decide, by decide +kernel, Nat.le_of_ble_eq_true rfl, Nat.le_of_ble_eq_true rfl⟩
theorem q_law_241 (nm : String) (hh : List (Nat × Nat × Nat × Nat)) : callOk (M_law nm hh) M_m_kill y_m_kill k_m_kill 241 2 := ⟨rfl, e_m_kill, w1284, w11, by decide, by decide +kernel, Nat.le_of_ble_eq_true rfl, Nat.le_of_ble_eq_true rfl⟩
theorem q_law_242 (nm : String) (hh : List (Nat × Nat × Nat × Nat)) : callOkW (M_law nm hh) M_L_attach y_L_attach k_L_attach 242 4 := ⟨rfl, e_L_attach, w804, w0, by decide, by decide +kernel, Nat.le_of_ble_eq_true rfl, Nat.le_of_ble_eq_true rfl⟩
theorem q_law_244 (nm : String) (hh : List (Nat × Nat × Nat × Nat)) : callOk (M_law nm hh) M_m_attach y_m_attach k_m_attach 244 2 := ⟨rfl, e_m_attach, w1288, w11, by decide, by decide +kernel, Nat.le_of_ble_eq_true rfl, Nat.le_of_ble_eq_true rfl⟩
theorem q_law_245 (nm : String) (hh : List (Nat × Nat × Nat × Nat)) : callOkW (M_law nm hh) M_L_detach y_L_detach k_L_detach 245 3 := ⟨rfl, e_L_detach, w821, w0, by decide, by decide +kernel, Nat.le_of_ble_eq_true rfl, Nat.le_of_ble_eq_true rfl⟩
theorem q_law_247 (nm : String) (hh : List (Nat × Nat × Nat × Nat)) : callOk (M_law nm hh) M_m_detach y_m_detach k_m_detach 247 1 := ⟨rfl, e_m_detach, w1300, w11, by decide, by decide +kernel, Nat.le_of_ble_eq_true rfl, Nat.le_of_ble_eq_true rfl⟩
theorem q_law_248 (nm : String) (hh : List (Nat × Nat × Nat × Nat)) : callOkW (M_law nm hh) M_L_listen y_L_listen k_L_listen 248 4 := ⟨rfl, e_L_listen, w832, w0, by decide, by decide +kernel, Nat.le_of_ble_eq_true rfl, Nat.le_of_ble_eq_true rfl⟩
theorem q_law_250 (nm : String) (hh : List (Nat × Nat × Nat × Nat)) : callOk (M_law nm hh) M_m_listen y_m_listen k_m_listen 250 2 := ⟨rfl, e_m_listen, w1304, w11, by decide, by decide +kernel, Nat.le_of_ble_eq_true rfl, Nat.le_of_ble_eq_true rfl⟩
theorem q_law_251 (nm : String) (hh : List (Nat × Nat × Nat × Nat)) : callOkW (M_law nm hh) M_L_publish y_L_publish k_L_publish 251 5 := ⟨rfl, e_L_publish, w849, w0, by decide, by decide +kernel, Nat.le_of_ble_eq_true rfl, Nat.le_of_ble_eq_true rfl⟩
theorem q_law_253 (nm : String) (hh : List (Nat × Nat × Nat × Nat)) : callOk (M_law nm hh) M_m_publish y_m_publish k_m_publish 253 3 := ⟨rfl, e_m_publish, w1312, w11, by decide, by decide +kernel, Nat.le_of_ble_eq_true rfl, Nat.le_of_ble_eq_true rfl⟩
theorem q_law_254 (nm : String) (hh : List (Nat × Nat × Nat × Nat)) : callOkW (M_law nm hh) M_L_connect y_L_connect k_L_connect 254 5 := ⟨rfl, e_L_connect, w866, w0, by decide, by decide +kernel, Nat.le_of_ble_eq_true rfl, Nat.le_of_ble_eq_true rfl⟩
theorem q_law_256 (nm : String) (hh : List (Nat × Nat × Nat × Nat)) : callOk (M_law nm hh) M_m_connect y_m_connect k_m_connect 256 3 := ⟨rfl, e_m_connect, w1316, w11, by decide, by decide +kernel, Nat.le_of_ble_eq_true rfl, Nat.le_of_ble_eq_true rfl⟩
theorem q_law_257 (nm : String) (hh : List (Nat × Nat × Nat × Nat)) : callOkW (M_law nm hh) M_L_connectHost y_L_connectHost k_L_connectHost 257 3 := ⟨rfl, e_L_connectHost, w873, w0, by decide, by decide +kernel, Nat.le_of_ble_eq_true rfl, Nat.le_of_ble_eq_true rfl⟩
theorem q_law_259 (nm : String) (hh : List (Nat × Nat × Nat × Nat)) : callOk (M_law nm hh) M_m_connectHost y_m_connectHost k_m_connectHost 259 1 := ⟨rfl, e_m_connectHost, w1320, w11, by decide, by decide +kernel, Nat.le_of_ble_eq_true rfl, Nat.le_of_ble_eq_true rfl⟩
theorem q_law_260 (nm : String) (hh : List (Nat × Nat × Nat × Nat)) : callOkW (M_law nm hh) M_L_save y_L_save k_L_save 260 3 := ⟨rfl, e_L_save, w880, w0, by decide, by decide +kernel, Nat.le_of_ble_eq_true rfl, Nat.le_of_ble_eq_true rfl⟩
theorem q_law_262 (nm : String) (hh : List (Nat × Nat × Nat × Nat)) : callOk (M_law nm hh) M_m_save y_m_save k_m_save 262 1 := ⟨rfl, e_m_save, w1324, w11, by decide, by decide +kernel, Nat.le_of_ble_eq_true rfl, Nat.le_of_ble_eq_true rfl⟩
theorem q_law_263 (nm : String) (hh : List (Nat × Nat × Nat × Nat)) : callOkW (M_law nm hh) M_L_restore y_L_restore k_L_restore 263 4 := ⟨rfl, e_L_restore, w924, w0, by decide, by decide +kernel, Nat.le_of_ble_eq_true rfl, Nat.le_of_ble_eq_true rfl⟩
theorem q_law_265 (nm : String) (hh : List (Nat × Nat × Nat × Nat)) : callOk (M_law nm hh) M_m_restore y_m_restore k_m_restore 265 2 := ⟨rfl, e_m_restore, w1332, w11, by decide, by decide +kernel, Nat.le_of_ble_eq_true rfl, Nat.le_of_ble_eq_true rfl⟩
theorem q_law_266 (nm : String) (hh : List (Nat × Nat × Nat × Nat)) : callOk (M_law nm hh) M_h_containers y_h_containers k_h_containers 266 0 := ⟨rfl, e_h_containers, w186, w1, by decide, by decide +kernel, Nat.le_of_ble_eq_true rfl, Nat.le_of_ble_eq_true rfl⟩
theorem q_law_269 (nm : String) (hh : List (Nat × Nat × Nat × Nat)) : callOk (M_law nm hh) M_m_containers y_m_containers k_m_containers 269 0 := ⟨rfl, e_m_containers, w1336, w11, by decide, by decide +kernel, Nat.le_of_ble_eq_true rfl, Nat.le_of_ble_eq_true rfl⟩
theorem q_law_270 (nm : String) (hh : List (Nat × Nat × Nat × Nat)) : callOkW (M_law nm hh) M_L_stateOf y_L_stateOf k_L_stateOf 270 3 := ⟨rfl, e_L_stateOf, w932, w0, by decide, by decide +kernel, Nat.le_of_ble_eq_true rfl, Nat.le_of_ble_eq_true rfl⟩
theorem q_law_272 (nm : String) (hh : List (Nat × Nat × Nat × Nat)) : callOk (M_law nm hh) M_m_stateOf y_m_stateOf k_m_stateOf 272 1 := ⟨rfl, e_m_stateOf, w1340, w11, by decide, by decide +kernel, Nat.le_of_ble_eq_true rfl, Nat.le_of_ble_eq_true rfl⟩
theorem q_law_273 (nm : String) (hh : List (Nat × Nat × Nat × Nat)) : callOkW (M_law nm hh) M_L_memoryOf y_L_memoryOf k_L_memoryOf 273 3 := ⟨rfl, e_L_memoryOf, w939, w0, by decide, by decide +kernel, Nat.le_of_ble_eq_true rfl, Nat.le_of_ble_eq_true rfl⟩
theorem q_law_275 (nm : String) (hh : List (Nat × Nat × Nat × Nat)) : callOk (M_law nm hh) M_m_memoryOf y_m_memoryOf k_m_memoryOf 275 1 := ⟨rfl, e_m_memoryOf, w1348, w11, by decide, by decide +kernel, Nat.le_of_ble_eq_true rfl, Nat.le_of_ble_eq_true rfl⟩
theorem q_law_276 (nm : String) (hh : List (Nat × Nat × Nat × Nat)) : callOkW (M_law nm hh) M_L_timeOf y_L_timeOf k_L_timeOf 276 3 := ⟨rfl, e_L_timeOf, w946, w0, by decide, by decide +kernel, Nat.le_of_ble_eq_true rfl, Nat.le_of_ble_eq_true rfl⟩
theorem q_law_278 (nm : String) (hh : List (Nat × Nat × Nat × Nat)) : callOk (M_law nm hh) M_m_timeOf y_m_timeOf k_m_timeOf 278 1 := ⟨rfl, e_m_timeOf, w1352, w11, by decide, by decide +kernel, Nat.le_of_ble_eq_true rfl, Nat.le_of_ble_eq_true rfl⟩
theorem q_law_279 (nm : String) (hh : List (Nat × Nat × Nat × Nat)) : callOkW (M_law nm hh) M_L_capabilitiesOf y_L_capabilitiesOf k_L_capabilitiesOf 279 3 := ⟨rfl, e_L_capabilitiesOf, w953, w0, by decide, by decide +kernel, Nat.le_of_ble_eq_true rfl, Nat.le_of_ble_eq_true rfl⟩
theorem q_law_281 (nm : String) (hh : List (Nat × Nat × Nat × Nat)) : callOk (M_law nm hh) M_m_capabilitiesOf y_m_capabilitiesOf k_m_capabilitiesOf 281 1 := ⟨rfl, e_m_capabilitiesOf, w1356, w11, by decide, by decide +kernel, Nat.le_of_ble_eq_true rfl, Nat.le_of_ble_eq_true rfl⟩
theorem q_law_282 (nm : String) (hh : List (Nat × Nat × Nat × Nat)) : callOkW (M_law nm hh) M_L_addressOf y_L_addressOf k_L_addressOf 282 3 := ⟨rfl, e_L_addressOf, w960, w0, by decide, by decide +kernel, Nat.le_of_ble_eq_true rfl, Nat.le_of_ble_eq_true rfl⟩
theorem q_law_284 (nm : String) (hh : List (Nat × Nat × Nat × Nat)) : callOk (M_law nm hh) M_m_addressOf y_m_addressOf k_m_addressOf 284 1 := ⟨rfl, e_m_addressOf, w1360, w11, by decide, by decide +kernel, Nat.le_of_ble_eq_true rfl, Nat.le_of_ble_eq_true rfl⟩
