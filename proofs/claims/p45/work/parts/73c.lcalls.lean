theorem wl0 : Cond.initialized "ContainerHostLaw" ∈ lw_tbl := mt (i := 0) (by decide +kernel)
theorem wl1 : Cond.initialized "ContainerHost" ∈ lw_tbl := mt (i := 1) (by decide +kernel)
theorem wl24 : Cond.classLink "ContainerHostLaw" (13 : Nat) "ContainerHost" ∈ lw_tbl := mt (i := 24) (by decide +kernel)
theorem wl25 : Cond.instantiable "ContainerHost" (7 : Nat) ∈ lw_tbl := mt (i := 25) (by decide +kernel)
theorem wl26 : Cond.methodLink "ContainerHostLaw" (179 : Nat) ({ cls := "ContainerHost", name := "<init>", desc := "()V" } : MethodName) ∈ lw_tbl := mt (i := 26) (by decide +kernel)
theorem wl184 : Cond.methodLink "ContainerHostLaw" (33 : Nat) ({ cls := "ContainerHost", name := "groupMemory", desc := "(I)I" } : MethodName) ∈ lw_tbl := mt (i := 184) (by decide +kernel)
theorem wl278 : Cond.methodLink "ContainerHostLaw" (75 : Nat) ({ cls := "ContainerHost", name := "schedule", desc := "(I)I" } : MethodName) ∈ lw_tbl := mt (i := 278) (by decide +kernel)
theorem wl339 : Cond.methodLink "ContainerHostLaw" (46 : Nat) ({ cls := "ContainerHost", name := "containers", desc := "()I" } : MethodName) ∈ lw_tbl := mt (i := 339) (by decide +kernel)
theorem wl343 : Cond.methodLink "ContainerHostLaw" (180 : Nat) ({ cls := "ContainerHostLaw", name := "draw", desc := "([II)I" } : MethodName) ∈ lw_tbl := mt (i := 343) (by decide +kernel)
theorem wl344 : Cond.static ({ cls := "ContainerHostLaw", name := "draw", desc := "([II)I" } : MethodName) ∈ lw_tbl := mt (i := 344) (by decide +kernel)
theorem wl346 : Cond.constant "ContainerHostLaw" (7 : Nat) (2147483647 : Int32) ∈ lw_tbl := mt (i := 346) (by decide +kernel)
theorem wl347 : Cond.constant "ContainerHostLaw" (8 : Nat) (104729 : Int32) ∈ lw_tbl := mt (i := 347) (by decide +kernel)
theorem wl348 : Cond.constant "ContainerHostLaw" (9 : Nat) (65521 : Int32) ∈ lw_tbl := mt (i := 348) (by decide +kernel)
theorem wl349 : Cond.methodLink "ContainerHostLaw" (184 : Nat) ({ cls := "ContainerHostLaw", name := "step", desc := "(LContainerHost;[I[IIII)Z" } : MethodName) ∈ lw_tbl := mt (i := 349) (by decide +kernel)
theorem wl350 : Cond.static ({ cls := "ContainerHostLaw", name := "step", desc := "(LContainerHost;[I[IIII)Z" } : MethodName) ∈ lw_tbl := mt (i := 350) (by decide +kernel)
theorem wl352 : Cond.methodLink "ContainerHostLaw" (12 : Nat) ({ cls := "ContainerHost", name := "newImage", desc := "(I)I" } : MethodName) ∈ lw_tbl := mt (i := 352) (by decide +kernel)
theorem wl425 : Cond.methodLink "ContainerHostLaw" (18 : Nat) ({ cls := "ContainerHost", name := "entries", desc := "(II)I" } : MethodName) ∈ lw_tbl := mt (i := 425) (by decide +kernel)
theorem wl444 : Cond.methodLink "ContainerHostLaw" (22 : Nat) ({ cls := "ContainerHost", name := "shown", desc := "(II)I" } : MethodName) ∈ lw_tbl := mt (i := 444) (by decide +kernel)
theorem wl464 : Cond.methodLink "ContainerHostLaw" (25 : Nat) ({ cls := "ContainerHostLaw", name := "images", desc := "(LContainerHost;[I[IIII)Z" } : MethodName) ∈ lw_tbl := mt (i := 464) (by decide +kernel)
theorem wl465 : Cond.static ({ cls := "ContainerHostLaw", name := "images", desc := "(LContainerHost;[I[IIII)Z" } : MethodName) ∈ lw_tbl := mt (i := 465) (by decide +kernel)
theorem wl467 : Cond.methodLink "ContainerHostLaw" (81 : Nat) ({ cls := "ContainerHost", name := "write", desc := "(III)I" } : MethodName) ∈ lw_tbl := mt (i := 467) (by decide +kernel)
theorem wl475 : Cond.methodLink "ContainerHostLaw" (85 : Nat) ({ cls := "ContainerHost", name := "remove", desc := "(II)I" } : MethodName) ∈ lw_tbl := mt (i := 475) (by decide +kernel)
theorem wl483 : Cond.methodLink "ContainerHostLaw" (88 : Nat) ({ cls := "ContainerHost", name := "clear", desc := "(II)I" } : MethodName) ∈ lw_tbl := mt (i := 483) (by decide +kernel)
theorem wl497 : Cond.methodLink "ContainerHostLaw" (91 : Nat) ({ cls := "ContainerHost", name := "seal", desc := "(I)I" } : MethodName) ∈ lw_tbl := mt (i := 497) (by decide +kernel)
theorem wl501 : Cond.methodLink "ContainerHostLaw" (29 : Nat) ({ cls := "ContainerHost", name := "newGroup", desc := "(IIII)I" } : MethodName) ∈ lw_tbl := mt (i := 501) (by decide +kernel)
theorem wl506 : Cond.methodLink "ContainerHostLaw" (36 : Nat) ({ cls := "ContainerHost", name := "groupProcesses", desc := "(I)I" } : MethodName) ∈ lw_tbl := mt (i := 506) (by decide +kernel)
theorem wl510 : Cond.methodLink "ContainerHostLaw" (39 : Nat) ({ cls := "ContainerHostLaw", name := "isFull", desc := "(LContainerHost;[II)Z" } : MethodName) ∈ lw_tbl := mt (i := 510) (by decide +kernel)
theorem wl511 : Cond.static ({ cls := "ContainerHostLaw", name := "isFull", desc := "(LContainerHost;[II)Z" } : MethodName) ∈ lw_tbl := mt (i := 511) (by decide +kernel)
theorem wl513 : Cond.methodLink "ContainerHostLaw" (43 : Nat) ({ cls := "ContainerHost", name := "run", desc := "(IIII)I" } : MethodName) ∈ lw_tbl := mt (i := 513) (by decide +kernel)
theorem wl599 : Cond.methodLink "ContainerHostLaw" (50 : Nat) ({ cls := "ContainerHost", name := "stateOf", desc := "(I)I" } : MethodName) ∈ lw_tbl := mt (i := 599) (by decide +kernel)
theorem wl608 : Cond.methodLink "ContainerHostLaw" (53 : Nat) ({ cls := "ContainerHost", name := "memoryOf", desc := "(I)I" } : MethodName) ∈ lw_tbl := mt (i := 608) (by decide +kernel)
theorem wl612 : Cond.methodLink "ContainerHostLaw" (56 : Nat) ({ cls := "ContainerHost", name := "timeOf", desc := "(I)I" } : MethodName) ∈ lw_tbl := mt (i := 612) (by decide +kernel)
theorem wl616 : Cond.methodLink "ContainerHostLaw" (59 : Nat) ({ cls := "ContainerHost", name := "addressOf", desc := "(I)I" } : MethodName) ∈ lw_tbl := mt (i := 616) (by decide +kernel)
theorem wl620 : Cond.methodLink "ContainerHostLaw" (62 : Nat) ({ cls := "ContainerHost", name := "capabilitiesOf", desc := "(I)I" } : MethodName) ∈ lw_tbl := mt (i := 620) (by decide +kernel)
theorem wl624 : Cond.methodLink "ContainerHostLaw" (65 : Nat) ({ cls := "ContainerHost", name := "fileOf", desc := "(II)I" } : MethodName) ∈ lw_tbl := mt (i := 624) (by decide +kernel)
theorem wl628 : Cond.methodLink "ContainerHostLaw" (68 : Nat) ({ cls := "ContainerHostLaw", name := "checks", desc := "(LContainerHost;[I[IIII)Z" } : MethodName) ∈ lw_tbl := mt (i := 628) (by decide +kernel)
theorem wl629 : Cond.static ({ cls := "ContainerHostLaw", name := "checks", desc := "(LContainerHost;[I[IIII)Z" } : MethodName) ∈ lw_tbl := mt (i := 629) (by decide +kernel)
theorem wl631 : Cond.methodLink "ContainerHostLaw" (94 : Nat) ({ cls := "ContainerHost", name := "stop", desc := "(I)I" } : MethodName) ∈ lw_tbl := mt (i := 631) (by decide +kernel)
theorem wl644 : Cond.methodLink "ContainerHostLaw" (97 : Nat) ({ cls := "ContainerHost", name := "pause", desc := "(I)V" } : MethodName) ∈ lw_tbl := mt (i := 644) (by decide +kernel)
theorem wl656 : Cond.methodLink "ContainerHostLaw" (101 : Nat) ({ cls := "ContainerHostLaw", name := "commits", desc := "(LContainerHost;[I[II)Z" } : MethodName) ∈ lw_tbl := mt (i := 656) (by decide +kernel)
theorem wl657 : Cond.static ({ cls := "ContainerHostLaw", name := "commits", desc := "(LContainerHost;[I[II)Z" } : MethodName) ∈ lw_tbl := mt (i := 657) (by decide +kernel)
theorem wl659 : Cond.methodLink "ContainerHostLaw" (111 : Nat) ({ cls := "ContainerHost", name := "commit", desc := "(I)I" } : MethodName) ∈ lw_tbl := mt (i := 659) (by decide +kernel)
theorem wl671 : Cond.methodLink "ContainerHostLaw" (105 : Nat) ({ cls := "ContainerHostLaw", name := "saves", desc := "(LContainerHost;[I[II)Z" } : MethodName) ∈ lw_tbl := mt (i := 671) (by decide +kernel)
theorem wl672 : Cond.static ({ cls := "ContainerHostLaw", name := "saves", desc := "(LContainerHost;[I[II)Z" } : MethodName) ∈ lw_tbl := mt (i := 672) (by decide +kernel)
theorem wl674 : Cond.methodLink "ContainerHostLaw" (114 : Nat) ({ cls := "ContainerHost", name := "save", desc := "(I)I" } : MethodName) ∈ lw_tbl := mt (i := 674) (by decide +kernel)
theorem wl720 : Cond.methodLink "ContainerHostLaw" (117 : Nat) ({ cls := "ContainerHost", name := "restore", desc := "(II)I" } : MethodName) ∈ lw_tbl := mt (i := 720) (by decide +kernel)
theorem wl725 : Cond.methodLink "ContainerHostLaw" (108 : Nat) ({ cls := "ContainerHost", name := "resume", desc := "(I)V" } : MethodName) ∈ lw_tbl := mt (i := 725) (by decide +kernel)
theorem wl729 : Cond.methodLink "ContainerHostLaw" (71 : Nat) ({ cls := "ContainerHostLaw", name := "times", desc := "(LContainerHost;)I" } : MethodName) ∈ lw_tbl := mt (i := 729) (by decide +kernel)
theorem wl730 : Cond.static ({ cls := "ContainerHostLaw", name := "times", desc := "(LContainerHost;)I" } : MethodName) ∈ lw_tbl := mt (i := 730) (by decide +kernel)
theorem wl732 : Cond.methodLink "ContainerHostLaw" (78 : Nat) ({ cls := "ContainerHostLaw", name := "works", desc := "(LContainerHost;[I[IIII)Z" } : MethodName) ∈ lw_tbl := mt (i := 732) (by decide +kernel)
theorem wl733 : Cond.static ({ cls := "ContainerHostLaw", name := "works", desc := "(LContainerHost;[I[IIII)Z" } : MethodName) ∈ lw_tbl := mt (i := 733) (by decide +kernel)
theorem wl735 : Cond.methodLink "ContainerHostLaw" (120 : Nat) ({ cls := "ContainerHost", name := "allocate", desc := "(II)I" } : MethodName) ∈ lw_tbl := mt (i := 735) (by decide +kernel)
theorem wl751 : Cond.methodLink "ContainerHostLaw" (123 : Nat) ({ cls := "ContainerHost", name := "free", desc := "(II)I" } : MethodName) ∈ lw_tbl := mt (i := 751) (by decide +kernel)
theorem wl756 : Cond.methodLink "ContainerHostLaw" (126 : Nat) ({ cls := "ContainerHost", name := "fork", desc := "(I)I" } : MethodName) ∈ lw_tbl := mt (i := 756) (by decide +kernel)
theorem wl760 : Cond.methodLink "ContainerHostLaw" (129 : Nat) ({ cls := "ContainerHost", name := "exit", desc := "(I)I" } : MethodName) ∈ lw_tbl := mt (i := 760) (by decide +kernel)
theorem wl764 : Cond.methodLink "ContainerHostLaw" (132 : Nat) ({ cls := "ContainerHost", name := "writeFile", desc := "(III)I" } : MethodName) ∈ lw_tbl := mt (i := 764) (by decide +kernel)
theorem wl775 : Cond.methodLink "ContainerHostLaw" (135 : Nat) ({ cls := "ContainerHost", name := "removeFile", desc := "(II)I" } : MethodName) ∈ lw_tbl := mt (i := 775) (by decide +kernel)
theorem wl779 : Cond.methodLink "ContainerHostLaw" (138 : Nat) ({ cls := "ContainerHost", name := "lower", desc := "(II)I" } : MethodName) ∈ lw_tbl := mt (i := 779) (by decide +kernel)
theorem wl787 : Cond.methodLink "ContainerHostLaw" (141 : Nat) ({ cls := "ContainerHost", name := "drop", desc := "(II)I" } : MethodName) ∈ lw_tbl := mt (i := 787) (by decide +kernel)
theorem wl791 : Cond.methodLink "ContainerHostLaw" (144 : Nat) ({ cls := "ContainerHost", name := "raise", desc := "(II)I" } : MethodName) ∈ lw_tbl := mt (i := 791) (by decide +kernel)
theorem wl796 : Cond.methodLink "ContainerHostLaw" (147 : Nat) ({ cls := "ContainerHostLaw", name := "kills", desc := "(LContainerHost;[IIII)Z" } : MethodName) ∈ lw_tbl := mt (i := 796) (by decide +kernel)
theorem wl797 : Cond.static ({ cls := "ContainerHostLaw", name := "kills", desc := "(LContainerHost;[IIII)Z" } : MethodName) ∈ lw_tbl := mt (i := 797) (by decide +kernel)
theorem wl799 : Cond.methodLink "ContainerHostLaw" (158 : Nat) ({ cls := "ContainerHost", name := "kill", desc := "(II)I" } : MethodName) ∈ lw_tbl := mt (i := 799) (by decide +kernel)
theorem wl805 : Cond.methodLink "ContainerHostLaw" (151 : Nat) ({ cls := "ContainerHostLaw", name := "attaches", desc := "(LContainerHost;III)Z" } : MethodName) ∈ lw_tbl := mt (i := 805) (by decide +kernel)
theorem wl806 : Cond.static ({ cls := "ContainerHostLaw", name := "attaches", desc := "(LContainerHost;III)Z" } : MethodName) ∈ lw_tbl := mt (i := 806) (by decide +kernel)
theorem wl808 : Cond.methodLink "ContainerHostLaw" (161 : Nat) ({ cls := "ContainerHost", name := "detach", desc := "(I)I" } : MethodName) ∈ lw_tbl := mt (i := 808) (by decide +kernel)
theorem wl816 : Cond.methodLink "ContainerHostLaw" (164 : Nat) ({ cls := "ContainerHost", name := "attach", desc := "(II)I" } : MethodName) ∈ lw_tbl := mt (i := 816) (by decide +kernel)
theorem wl830 : Cond.methodLink "ContainerHostLaw" (155 : Nat) ({ cls := "ContainerHostLaw", name := "ports", desc := "(LContainerHost;III)Z" } : MethodName) ∈ lw_tbl := mt (i := 830) (by decide +kernel)
theorem wl831 : Cond.static ({ cls := "ContainerHostLaw", name := "ports", desc := "(LContainerHost;III)Z" } : MethodName) ∈ lw_tbl := mt (i := 831) (by decide +kernel)
theorem wl833 : Cond.methodLink "ContainerHostLaw" (167 : Nat) ({ cls := "ContainerHost", name := "connectHost", desc := "(I)I" } : MethodName) ∈ lw_tbl := mt (i := 833) (by decide +kernel)
theorem wl841 : Cond.methodLink "ContainerHostLaw" (170 : Nat) ({ cls := "ContainerHost", name := "connect", desc := "(III)I" } : MethodName) ∈ lw_tbl := mt (i := 841) (by decide +kernel)
theorem wl853 : Cond.methodLink "ContainerHostLaw" (173 : Nat) ({ cls := "ContainerHost", name := "listen", desc := "(II)I" } : MethodName) ∈ lw_tbl := mt (i := 853) (by decide +kernel)
theorem wl859 : Cond.methodLink "ContainerHostLaw" (187 : Nat) ({ cls := "ContainerHostLaw", name := "areGroups", desc := "(LContainerHost;[I[I)Z" } : MethodName) ∈ lw_tbl := mt (i := 859) (by decide +kernel)
theorem wl860 : Cond.static ({ cls := "ContainerHostLaw", name := "areGroups", desc := "(LContainerHost;[I[I)Z" } : MethodName) ∈ lw_tbl := mt (i := 860) (by decide +kernel)
theorem wl862 : Cond.methodLink "ContainerHostLaw" (191 : Nat) ({ cls := "ContainerHostLaw", name := "areContainers", desc := "(LContainerHost;)Z" } : MethodName) ∈ lw_tbl := mt (i := 862) (by decide +kernel)
theorem wl863 : Cond.static ({ cls := "ContainerHostLaw", name := "areContainers", desc := "(LContainerHost;)Z" } : MethodName) ∈ lw_tbl := mt (i := 863) (by decide +kernel)
theorem wl865 : Cond.methodLink "ContainerHostLaw" (176 : Nat) ({ cls := "ContainerHost", name := "plainFileOf", desc := "(II)I" } : MethodName) ∈ lw_tbl := mt (i := 865) (by decide +kernel)
abbrev M_L_draw : xMeth := ("ContainerHostLaw", c_L_draw, 2, (Option.some FieldType.int), "draw", [], ({ frames := 0, cells := 0, slots := 0, locals := 0 } : Room))
theorem e_L_draw : k_L_draw ∈ lw_tbl := mt (i := 345) (by decide +kernel)
abbrev M_L_step : xMeth := ("ContainerHostLaw", c_L_step, 14, (Option.some FieldType.boolean), "step", [], ({ frames := 12, cells := 955, slots := 12108, locals := 295 } : Room))
set_option maxRecDepth 100000 in
theorem e_L_step : k_L_step ∈ lw_tbl := mt (i := 351) rfl
abbrev M_L_images : xMeth := ("ContainerHostLaw", c_L_images, 10, (Option.some FieldType.boolean), "images", [], ({ frames := 8, cells := 33, slots := 198, locals := 138 } : Room))
theorem e_L_images : k_L_images ∈ lw_tbl := mt (i := 466) (by decide +kernel)
abbrev M_L_isFull : xMeth := ("ContainerHostLaw", c_L_isFull, 5, (Option.some FieldType.boolean), "isFull", [], ({ frames := 8, cells := 9, slots := 54, locals := 134 } : Room))
theorem e_L_isFull : k_L_isFull ∈ lw_tbl := mt (i := 512) (by decide +kernel)
abbrev M_L_checks : xMeth := ("ContainerHostLaw", c_L_checks, 7, (Option.some FieldType.boolean), "checks", [], ({ frames := 11, cells := 332, slots := 2173, locals := 269 } : Room))
theorem e_L_checks : k_L_checks ∈ lw_tbl := mt (i := 630) (by decide +kernel)
abbrev M_L_commits : xMeth := ("ContainerHostLaw", c_L_commits, 7, (Option.some FieldType.boolean), "commits", [], ({ frames := 10, cells := 153, slots := 973, locals := 235 } : Room))
theorem e_L_commits : k_L_commits ∈ lw_tbl := mt (i := 658) (by decide +kernel)
abbrev M_L_saves : xMeth := ("ContainerHostLaw", c_L_saves, 10, (Option.some FieldType.boolean), "saves", [], ({ frames := 10, cells := 168, slots := 1134, locals := 240 } : Room))
theorem e_L_saves : k_L_saves ∈ lw_tbl := mt (i := 673) (by decide +kernel)
abbrev M_L_times : xMeth := ("ContainerHostLaw", c_L_times, 3, (Option.some FieldType.int), "times", [], ({ frames := 8, cells := 21, slots := 126, locals := 134 } : Room))
theorem e_L_times : k_L_times ∈ lw_tbl := mt (i := 731) (by decide +kernel)
abbrev M_L_works : xMeth := ("ContainerHostLaw", c_L_works, 15, (Option.some FieldType.boolean), "works", [], ({ frames := 10, cells := 239, slots := 1434, locals := 186 } : Room))
set_option maxRecDepth 100000 in
theorem e_L_works : k_L_works ∈ lw_tbl := mt (i := 734) rfl
abbrev M_L_kills : xMeth := ("ContainerHostLaw", c_L_kills, 7, (Option.some FieldType.boolean), "kills", [], ({ frames := 8, cells := 10, slots := 60, locals := 137 } : Room))
theorem e_L_kills : k_L_kills ∈ lw_tbl := mt (i := 798) (by decide +kernel)
abbrev M_L_attaches : xMeth := ("ContainerHostLaw", c_L_attaches, 9, (Option.some FieldType.boolean), "attaches", [], ({ frames := 9, cells := 152, slots := 912, locals := 158 } : Room))
theorem e_L_attaches : k_L_attaches ∈ lw_tbl := mt (i := 807) (by decide +kernel)
abbrev M_L_ports : xMeth := ("ContainerHostLaw", c_L_ports, 9, (Option.some FieldType.boolean), "ports", [], ({ frames := 8, cells := 19, slots := 114, locals := 138 } : Room))
theorem e_L_ports : k_L_ports ∈ lw_tbl := mt (i := 832) (by decide +kernel)
abbrev M_L_areGroups : xMeth := ("ContainerHostLaw", c_L_areGroups, 9, (Option.some FieldType.boolean), "areGroups", [], ({ frames := 8, cells := 204, slots := 1224, locals := 134 } : Room))
theorem e_L_areGroups : k_L_areGroups ∈ lw_tbl := mt (i := 861) (by decide +kernel)
abbrev M_L_areContainers : xMeth := ("ContainerHostLaw", c_L_areContainers, 5, (Option.some FieldType.boolean), "areContainers", [], ({ frames := 8, cells := 3210, slots := 19260, locals := 136 } : Room))
theorem e_L_areContainers : k_L_areContainers ∈ lw_tbl := mt (i := 864) (by decide +kernel)
theorem q_L_step_12 : callOk M_L_step M_h_newImage y_h_newImage k_h_newImage 12 1 := ⟨rfl, e_h_newImage, wl352, wl1, by decide, by decide +kernel, by decide, by decide⟩
theorem q_L_step_18 : callOk M_L_step M_h_entries y_h_entries k_h_entries 18 2 := ⟨rfl, e_h_entries, wl425, wl1, by decide, by decide +kernel, by decide, by decide⟩
theorem q_L_step_22 : callOk M_L_step M_h_shown y_h_shown k_h_shown 22 2 := ⟨rfl, e_h_shown, wl444, wl1, by decide, by decide +kernel, by decide, by decide⟩
theorem q_L_step_25 : callOk M_L_step M_L_images y_L_images k_L_images 25 6 := ⟨rfl, e_L_images, wl464, wl0, by decide, by decide +kernel, by decide, by decide⟩
theorem q_L_step_29 : callOk M_L_step M_h_newGroup y_h_newGroup k_h_newGroup 29 4 := ⟨rfl, e_h_newGroup, wl501, wl1, by decide, by decide +kernel, by decide, by decide⟩
theorem q_L_step_33 : callOk M_L_step M_h_groupMemory y_h_groupMemory k_h_groupMemory 33 1 := ⟨rfl, e_h_groupMemory, wl184, wl1, by decide, by decide +kernel, by decide, by decide⟩
theorem q_L_step_36 : callOk M_L_step M_h_groupProcesses y_h_groupProcesses k_h_groupProcesses 36 1 := ⟨rfl, e_h_groupProcesses, wl506, wl1, by decide, by decide +kernel, by decide, by decide⟩
theorem q_L_step_39 : callOk M_L_step M_L_isFull y_L_isFull k_L_isFull 39 3 := ⟨rfl, e_L_isFull, wl510, wl0, by decide, by decide +kernel, by decide, by decide⟩
theorem q_L_step_43 : callOk M_L_step M_h_run y_h_run k_h_run 43 4 := ⟨rfl, e_h_run, wl513, wl1, by decide, by decide +kernel, by decide, by decide⟩
theorem q_L_step_46 : callOk M_L_step M_h_containers y_h_containers k_h_containers 46 0 := ⟨rfl, e_h_containers, wl339, wl1, by decide, by decide +kernel, by decide, by decide⟩
theorem q_L_step_50 : callOk M_L_step M_h_stateOf y_h_stateOf k_h_stateOf 50 1 := ⟨rfl, e_h_stateOf, wl599, wl1, by decide, by decide +kernel, by decide, by decide⟩
theorem q_L_step_53 : callOk M_L_step M_h_memoryOf y_h_memoryOf k_h_memoryOf 53 1 := ⟨rfl, e_h_memoryOf, wl608, wl1, by decide, by decide +kernel, by decide, by decide⟩
theorem q_L_step_56 : callOk M_L_step M_h_timeOf y_h_timeOf k_h_timeOf 56 1 := ⟨rfl, e_h_timeOf, wl612, wl1, by decide, by decide +kernel, by decide, by decide⟩
theorem q_L_step_59 : callOk M_L_step M_h_addressOf y_h_addressOf k_h_addressOf 59 1 := ⟨rfl, e_h_addressOf, wl616, wl1, by decide, by decide +kernel, by decide, by decide⟩
theorem q_L_step_62 : callOk M_L_step M_h_capabilitiesOf y_h_capabilitiesOf k_h_capabilitiesOf 62 1 := ⟨rfl, e_h_capabilitiesOf, wl620, wl1, by decide, by decide +kernel, by decide, by decide⟩
theorem q_L_step_65 : callOk M_L_step M_h_fileOf y_h_fileOf k_h_fileOf 65 2 := ⟨rfl, e_h_fileOf, wl624, wl1, by decide, by decide +kernel, by decide, by decide⟩
theorem q_L_step_68 : callOk M_L_step M_L_checks y_L_checks k_L_checks 68 6 := ⟨rfl, e_L_checks, wl628, wl0, by decide, by decide +kernel, by decide, by decide⟩
theorem q_L_step_71 : callOk M_L_step M_L_times y_L_times k_L_times 71 1 := ⟨rfl, e_L_times, wl729, wl0, by decide, by decide +kernel, by decide, by decide⟩
theorem q_L_step_75 : callOk M_L_step M_h_schedule y_h_schedule k_h_schedule 75 1 := ⟨rfl, e_h_schedule, wl278, wl1, by decide, by decide +kernel, by decide, by decide⟩
theorem q_L_step_78 : callOk M_L_step M_L_works y_L_works k_L_works 78 6 := ⟨rfl, e_L_works, wl732, wl0, by decide, by decide +kernel, by decide, by decide⟩
theorem q_L_images_22 : callOk M_L_images M_h_shown y_h_shown k_h_shown 22 2 := ⟨rfl, e_h_shown, wl444, wl1, by decide, by decide +kernel, by decide, by decide⟩
theorem q_L_images_81 : callOk M_L_images M_h_write y_h_write k_h_write 81 3 := ⟨rfl, e_h_write, wl467, wl1, by decide, by decide +kernel, by decide, by decide⟩
theorem q_L_images_85 : callOk M_L_images M_h_remove y_h_remove k_h_remove 85 2 := ⟨rfl, e_h_remove, wl475, wl1, by decide, by decide +kernel, by decide, by decide⟩
theorem q_L_images_88 : callOk M_L_images M_h_clear y_h_clear k_h_clear 88 2 := ⟨rfl, e_h_clear, wl483, wl1, by decide, by decide +kernel, by decide, by decide⟩
theorem q_L_images_91 : callOk M_L_images M_h_seal y_h_seal k_h_seal 91 1 := ⟨rfl, e_h_seal, wl497, wl1, by decide, by decide +kernel, by decide, by decide⟩
theorem q_L_isFull_36 : callOk M_L_isFull M_h_groupProcesses y_h_groupProcesses k_h_groupProcesses 36 1 := ⟨rfl, e_h_groupProcesses, wl506, wl1, by decide, by decide +kernel, by decide, by decide⟩
theorem q_L_checks_53 : callOk M_L_checks M_h_memoryOf y_h_memoryOf k_h_memoryOf 53 1 := ⟨rfl, e_h_memoryOf, wl608, wl1, by decide, by decide +kernel, by decide, by decide⟩
theorem q_L_checks_94 : callOk M_L_checks M_h_stop y_h_stop k_h_stop 94 1 := ⟨rfl, e_h_stop, wl631, wl1, by decide, by decide +kernel, by decide, by decide⟩
theorem q_L_checks_50 : callOk M_L_checks M_h_stateOf y_h_stateOf k_h_stateOf 50 1 := ⟨rfl, e_h_stateOf, wl599, wl1, by decide, by decide +kernel, by decide, by decide⟩
theorem q_L_checks_97 : callOk M_L_checks M_h_pause y_h_pause k_h_pause 97 1 := ⟨rfl, e_h_pause, wl644, wl1, by decide, by decide +kernel, by decide, by decide⟩
theorem q_L_checks_101 : callOk M_L_checks M_L_commits y_L_commits k_L_commits 101 4 := ⟨rfl, e_L_commits, wl656, wl0, by decide, by decide +kernel, by decide, by decide⟩
theorem q_L_checks_105 : callOk M_L_checks M_L_saves y_L_saves k_L_saves 105 4 := ⟨rfl, e_L_saves, wl671, wl0, by decide, by decide +kernel, by decide, by decide⟩
theorem q_L_checks_108 : callOk M_L_checks M_h_resume y_h_resume k_h_resume 108 1 := ⟨rfl, e_h_resume, wl725, wl1, by decide, by decide +kernel, by decide, by decide⟩
theorem q_L_commits_111 : callOk M_L_commits M_h_commit y_h_commit k_h_commit 111 1 := ⟨rfl, e_h_commit, wl659, wl1, by decide, by decide +kernel, by decide, by decide⟩
theorem q_L_commits_22 : callOk M_L_commits M_h_shown y_h_shown k_h_shown 22 2 := ⟨rfl, e_h_shown, wl444, wl1, by decide, by decide +kernel, by decide, by decide⟩
theorem q_L_commits_65 : callOk M_L_commits M_h_fileOf y_h_fileOf k_h_fileOf 65 2 := ⟨rfl, e_h_fileOf, wl624, wl1, by decide, by decide +kernel, by decide, by decide⟩
theorem q_L_commits_18 : callOk M_L_commits M_h_entries y_h_entries k_h_entries 18 2 := ⟨rfl, e_h_entries, wl425, wl1, by decide, by decide +kernel, by decide, by decide⟩
theorem q_L_saves_36 : callOk M_L_saves M_h_groupProcesses y_h_groupProcesses k_h_groupProcesses 36 1 := ⟨rfl, e_h_groupProcesses, wl506, wl1, by decide, by decide +kernel, by decide, by decide⟩
theorem q_L_saves_114 : callOk M_L_saves M_h_save y_h_save k_h_save 114 1 := ⟨rfl, e_h_save, wl674, wl1, by decide, by decide +kernel, by decide, by decide⟩
theorem q_L_saves_94 : callOk M_L_saves M_h_stop y_h_stop k_h_stop 94 1 := ⟨rfl, e_h_stop, wl631, wl1, by decide, by decide +kernel, by decide, by decide⟩
theorem q_L_saves_117 : callOk M_L_saves M_h_restore y_h_restore k_h_restore 117 2 := ⟨rfl, e_h_restore, wl720, wl1, by decide, by decide +kernel, by decide, by decide⟩
theorem q_L_saves_50 : callOk M_L_saves M_h_stateOf y_h_stateOf k_h_stateOf 50 1 := ⟨rfl, e_h_stateOf, wl599, wl1, by decide, by decide +kernel, by decide, by decide⟩
theorem q_L_saves_53 : callOk M_L_saves M_h_memoryOf y_h_memoryOf k_h_memoryOf 53 1 := ⟨rfl, e_h_memoryOf, wl608, wl1, by decide, by decide +kernel, by decide, by decide⟩
theorem q_L_saves_59 : callOk M_L_saves M_h_addressOf y_h_addressOf k_h_addressOf 59 1 := ⟨rfl, e_h_addressOf, wl616, wl1, by decide, by decide +kernel, by decide, by decide⟩
theorem q_L_saves_62 : callOk M_L_saves M_h_capabilitiesOf y_h_capabilitiesOf k_h_capabilitiesOf 62 1 := ⟨rfl, e_h_capabilitiesOf, wl620, wl1, by decide, by decide +kernel, by decide, by decide⟩
theorem q_L_saves_65 : callOk M_L_saves M_h_fileOf y_h_fileOf k_h_fileOf 65 2 := ⟨rfl, e_h_fileOf, wl624, wl1, by decide, by decide +kernel, by decide, by decide⟩
theorem q_L_times_46 : callOk M_L_times M_h_containers y_h_containers k_h_containers 46 0 := ⟨rfl, e_h_containers, wl339, wl1, by decide, by decide +kernel, by decide, by decide⟩
theorem q_L_times_56 : callOk M_L_times M_h_timeOf y_h_timeOf k_h_timeOf 56 1 := ⟨rfl, e_h_timeOf, wl612, wl1, by decide, by decide +kernel, by decide, by decide⟩
theorem q_L_works_62 : callOk M_L_works M_h_capabilitiesOf y_h_capabilitiesOf k_h_capabilitiesOf 62 1 := ⟨rfl, e_h_capabilitiesOf, wl620, wl1, by decide, by decide +kernel, by decide, by decide⟩
theorem q_L_works_53 : callOk M_L_works M_h_memoryOf y_h_memoryOf k_h_memoryOf 53 1 := ⟨rfl, e_h_memoryOf, wl608, wl1, by decide, by decide +kernel, by decide, by decide⟩
theorem q_L_works_65 : callOk M_L_works M_h_fileOf y_h_fileOf k_h_fileOf 65 2 := ⟨rfl, e_h_fileOf, wl624, wl1, by decide, by decide +kernel, by decide, by decide⟩
theorem q_L_works_120 : callOk M_L_works M_h_allocate y_h_allocate k_h_allocate 120 2 := ⟨rfl, e_h_allocate, wl735, wl1, by decide, by decide +kernel, by decide, by decide⟩
theorem q_L_works_50 : callOk M_L_works M_h_stateOf y_h_stateOf k_h_stateOf 50 1 := ⟨rfl, e_h_stateOf, wl599, wl1, by decide, by decide +kernel, by decide, by decide⟩
theorem q_L_works_123 : callOk M_L_works M_h_free y_h_free k_h_free 123 2 := ⟨rfl, e_h_free, wl751, wl1, by decide, by decide +kernel, by decide, by decide⟩
theorem q_L_works_36 : callOk M_L_works M_h_groupProcesses y_h_groupProcesses k_h_groupProcesses 36 1 := ⟨rfl, e_h_groupProcesses, wl506, wl1, by decide, by decide +kernel, by decide, by decide⟩
theorem q_L_works_39 : callOk M_L_works M_L_isFull y_L_isFull k_L_isFull 39 3 := ⟨rfl, e_L_isFull, wl510, wl0, by decide, by decide +kernel, by decide, by decide⟩
theorem q_L_works_126 : callOk M_L_works M_h_fork y_h_fork k_h_fork 126 1 := ⟨rfl, e_h_fork, wl756, wl1, by decide, by decide +kernel, by decide, by decide⟩
theorem q_L_works_129 : callOk M_L_works M_h_exit y_h_exit k_h_exit 129 1 := ⟨rfl, e_h_exit, wl760, wl1, by decide, by decide +kernel, by decide, by decide⟩
theorem q_L_works_132 : callOk M_L_works M_h_writeFile y_h_writeFile k_h_writeFile 132 3 := ⟨rfl, e_h_writeFile, wl764, wl1, by decide, by decide +kernel, by decide, by decide⟩
theorem q_L_works_135 : callOk M_L_works M_h_removeFile y_h_removeFile k_h_removeFile 135 2 := ⟨rfl, e_h_removeFile, wl775, wl1, by decide, by decide +kernel, by decide, by decide⟩
theorem q_L_works_138 : callOk M_L_works M_h_lower y_h_lower k_h_lower 138 2 := ⟨rfl, e_h_lower, wl779, wl1, by decide, by decide +kernel, by decide, by decide⟩
theorem q_L_works_141 : callOk M_L_works M_h_drop y_h_drop k_h_drop 141 2 := ⟨rfl, e_h_drop, wl787, wl1, by decide, by decide +kernel, by decide, by decide⟩
theorem q_L_works_144 : callOk M_L_works M_h_raise y_h_raise k_h_raise 144 2 := ⟨rfl, e_h_raise, wl791, wl1, by decide, by decide +kernel, by decide, by decide⟩
theorem q_L_works_147 : callOk M_L_works M_L_kills y_L_kills k_L_kills 147 5 := ⟨rfl, e_L_kills, wl796, wl0, by decide, by decide +kernel, by decide, by decide⟩
theorem q_L_works_151 : callOk M_L_works M_L_attaches y_L_attaches k_L_attaches 151 4 := ⟨rfl, e_L_attaches, wl805, wl0, by decide, by decide +kernel, by decide, by decide⟩
theorem q_L_works_155 : callOk M_L_works M_L_ports y_L_ports k_L_ports 155 4 := ⟨rfl, e_L_ports, wl830, wl0, by decide, by decide +kernel, by decide, by decide⟩
theorem q_L_kills_53 : callOk M_L_kills M_h_memoryOf y_h_memoryOf k_h_memoryOf 53 1 := ⟨rfl, e_h_memoryOf, wl608, wl1, by decide, by decide +kernel, by decide, by decide⟩
theorem q_L_kills_50 : callOk M_L_kills M_h_stateOf y_h_stateOf k_h_stateOf 50 1 := ⟨rfl, e_h_stateOf, wl599, wl1, by decide, by decide +kernel, by decide, by decide⟩
theorem q_L_kills_158 : callOk M_L_kills M_h_kill y_h_kill k_h_kill 158 2 := ⟨rfl, e_h_kill, wl799, wl1, by decide, by decide +kernel, by decide, by decide⟩
theorem q_L_attaches_59 : callOk M_L_attaches M_h_addressOf y_h_addressOf k_h_addressOf 59 1 := ⟨rfl, e_h_addressOf, wl616, wl1, by decide, by decide +kernel, by decide, by decide⟩
theorem q_L_attaches_161 : callOk M_L_attaches M_h_detach y_h_detach k_h_detach 161 1 := ⟨rfl, e_h_detach, wl808, wl1, by decide, by decide +kernel, by decide, by decide⟩
theorem q_L_attaches_46 : callOk M_L_attaches M_h_containers y_h_containers k_h_containers 46 0 := ⟨rfl, e_h_containers, wl339, wl1, by decide, by decide +kernel, by decide, by decide⟩
theorem q_L_attaches_164 : callOk M_L_attaches M_h_attach y_h_attach k_h_attach 164 2 := ⟨rfl, e_h_attach, wl816, wl1, by decide, by decide +kernel, by decide, by decide⟩
theorem q_L_ports_59 : callOk M_L_ports M_h_addressOf y_h_addressOf k_h_addressOf 59 1 := ⟨rfl, e_h_addressOf, wl616, wl1, by decide, by decide +kernel, by decide, by decide⟩
theorem q_L_ports_167 : callOk M_L_ports M_h_connectHost y_h_connectHost k_h_connectHost 167 1 := ⟨rfl, e_h_connectHost, wl833, wl1, by decide, by decide +kernel, by decide, by decide⟩
theorem q_L_ports_50 : callOk M_L_ports M_h_stateOf y_h_stateOf k_h_stateOf 50 1 := ⟨rfl, e_h_stateOf, wl599, wl1, by decide, by decide +kernel, by decide, by decide⟩
theorem q_L_ports_170 : callOk M_L_ports M_h_connect y_h_connect k_h_connect 170 3 := ⟨rfl, e_h_connect, wl841, wl1, by decide, by decide +kernel, by decide, by decide⟩
theorem q_L_ports_173 : callOk M_L_ports M_h_listen y_h_listen k_h_listen 173 2 := ⟨rfl, e_h_listen, wl853, wl1, by decide, by decide +kernel, by decide, by decide⟩
theorem q_L_areGroups_53 : callOk M_L_areGroups M_h_memoryOf y_h_memoryOf k_h_memoryOf 53 1 := ⟨rfl, e_h_memoryOf, wl608, wl1, by decide, by decide +kernel, by decide, by decide⟩
theorem q_L_areGroups_33 : callOk M_L_areGroups M_h_groupMemory y_h_groupMemory k_h_groupMemory 33 1 := ⟨rfl, e_h_groupMemory, wl184, wl1, by decide, by decide +kernel, by decide, by decide⟩
theorem q_L_areGroups_36 : callOk M_L_areGroups M_h_groupProcesses y_h_groupProcesses k_h_groupProcesses 36 1 := ⟨rfl, e_h_groupProcesses, wl506, wl1, by decide, by decide +kernel, by decide, by decide⟩
theorem q_L_areContainers_46 : callOk M_L_areContainers M_h_containers y_h_containers k_h_containers 46 0 := ⟨rfl, e_h_containers, wl339, wl1, by decide, by decide +kernel, by decide, by decide⟩
theorem q_L_areContainers_59 : callOk M_L_areContainers M_h_addressOf y_h_addressOf k_h_addressOf 59 1 := ⟨rfl, e_h_addressOf, wl616, wl1, by decide, by decide +kernel, by decide, by decide⟩
theorem q_L_areContainers_50 : callOk M_L_areContainers M_h_stateOf y_h_stateOf k_h_stateOf 50 1 := ⟨rfl, e_h_stateOf, wl599, wl1, by decide, by decide +kernel, by decide, by decide⟩
theorem q_L_areContainers_53 : callOk M_L_areContainers M_h_memoryOf y_h_memoryOf k_h_memoryOf 53 1 := ⟨rfl, e_h_memoryOf, wl608, wl1, by decide, by decide +kernel, by decide, by decide⟩
theorem q_L_areContainers_62 : callOk M_L_areContainers M_h_capabilitiesOf y_h_capabilitiesOf k_h_capabilitiesOf 62 1 := ⟨rfl, e_h_capabilitiesOf, wl620, wl1, by decide, by decide +kernel, by decide, by decide⟩
theorem q_L_areContainers_65 : callOk M_L_areContainers M_h_fileOf y_h_fileOf k_h_fileOf 65 2 := ⟨rfl, e_h_fileOf, wl624, wl1, by decide, by decide +kernel, by decide, by decide⟩
theorem q_L_areContainers_176 : callOk M_L_areContainers M_h_plainFileOf y_h_plainFileOf k_h_plainFileOf 176 2 := ⟨rfl, e_h_plainFileOf, wl865, wl1, by decide, by decide +kernel, by decide, by decide⟩
theorem s_L_draw : Cond.static y_L_draw ∈ lw_tbl := wl344
theorem s_L_step : Cond.static y_L_step ∈ lw_tbl := wl350
theorem s_L_images : Cond.static y_L_images ∈ lw_tbl := wl465
theorem s_L_isFull : Cond.static y_L_isFull ∈ lw_tbl := wl511
theorem s_L_checks : Cond.static y_L_checks ∈ lw_tbl := wl629
theorem s_L_commits : Cond.static y_L_commits ∈ lw_tbl := wl657
theorem s_L_saves : Cond.static y_L_saves ∈ lw_tbl := wl672
theorem s_L_times : Cond.static y_L_times ∈ lw_tbl := wl730
theorem s_L_works : Cond.static y_L_works ∈ lw_tbl := wl733
theorem s_L_kills : Cond.static y_L_kills ∈ lw_tbl := wl797
theorem s_L_attaches : Cond.static y_L_attaches ∈ lw_tbl := wl806
theorem s_L_ports : Cond.static y_L_ports ∈ lw_tbl := wl831
theorem s_L_areGroups : Cond.static y_L_areGroups ∈ lw_tbl := wl860
theorem s_L_areContainers : Cond.static y_L_areContainers ∈ lw_tbl := wl863
abbrev M_law (nm : String) (hh : List (Nat × Nat × Nat × Nat)) : xMeth := ("ContainerHostLaw", code, 7, ret, nm, hh, room_1)
theorem q_law_179 (nm : String) (hh : List (Nat × Nat × Nat × Nat)) : callOk (M_law nm hh) M_h_init y_h_init k_h_init 179 0 := ⟨rfl, e_h_init, wl26, wl1, by decide, by decide +kernel, Nat.le_of_ble_eq_true rfl, Nat.le_of_ble_eq_true rfl⟩
theorem q_law_46 (nm : String) (hh : List (Nat × Nat × Nat × Nat)) : callOk (M_law nm hh) M_h_containers y_h_containers k_h_containers 46 0 := ⟨rfl, e_h_containers, wl339, wl1, by decide, by decide +kernel, Nat.le_of_ble_eq_true rfl, Nat.le_of_ble_eq_true rfl⟩
theorem q_law_33 (nm : String) (hh : List (Nat × Nat × Nat × Nat)) : callOk (M_law nm hh) M_h_groupMemory y_h_groupMemory k_h_groupMemory 33 1 := ⟨rfl, e_h_groupMemory, wl184, wl1, by decide, by decide +kernel, Nat.le_of_ble_eq_true rfl, Nat.le_of_ble_eq_true rfl⟩
theorem q_law_75 (nm : String) (hh : List (Nat × Nat × Nat × Nat)) : callOk (M_law nm hh) M_h_schedule y_h_schedule k_h_schedule 75 1 := ⟨rfl, e_h_schedule, wl278, wl1, by decide, by decide +kernel, Nat.le_of_ble_eq_true rfl, Nat.le_of_ble_eq_true rfl⟩
theorem q_law_180 (nm : String) (hh : List (Nat × Nat × Nat × Nat)) : callOk (M_law nm hh) M_L_draw y_L_draw k_L_draw 180 2 := ⟨rfl, e_L_draw, wl343, wl0, by decide, by decide +kernel, Nat.le_of_ble_eq_true rfl, Nat.le_of_ble_eq_true rfl⟩
theorem q_law_184 (nm : String) (hh : List (Nat × Nat × Nat × Nat)) : callOk (M_law nm hh) M_L_step y_L_step k_L_step 184 6 := ⟨rfl, e_L_step, wl349, wl0, by decide, by decide +kernel, Nat.le_of_ble_eq_true rfl, Nat.le_of_ble_eq_true rfl⟩
theorem q_law_187 (nm : String) (hh : List (Nat × Nat × Nat × Nat)) : callOk (M_law nm hh) M_L_areGroups y_L_areGroups k_L_areGroups 187 3 := ⟨rfl, e_L_areGroups, wl859, wl0, by decide, by decide +kernel, Nat.le_of_ble_eq_true rfl, Nat.le_of_ble_eq_true rfl⟩
theorem q_law_191 (nm : String) (hh : List (Nat × Nat × Nat × Nat)) : callOk (M_law nm hh) M_L_areContainers y_L_areContainers k_L_areContainers 191 1 := ⟨rfl, e_L_areContainers, wl862, wl0, by decide, by decide +kernel, Nat.le_of_ble_eq_true rfl, Nat.le_of_ble_eq_true rfl⟩
