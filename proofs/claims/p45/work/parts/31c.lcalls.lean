theorem e_L_draw : k_L_draw ∈ lw_tbl := mt (i := 345) (by decide +kernel)
set_option maxRecDepth 100000 in
theorem e_L_step : k_L_step ∈ lw_tbl := mt (i := 351) rfl
theorem e_L_images : k_L_images ∈ lw_tbl := mt (i := 466) (by decide +kernel)
theorem e_L_isFull : k_L_isFull ∈ lw_tbl := mt (i := 512) (by decide +kernel)
theorem e_L_checks : k_L_checks ∈ lw_tbl := mt (i := 630) (by decide +kernel)
theorem e_L_commits : k_L_commits ∈ lw_tbl := mt (i := 658) (by decide +kernel)
theorem e_L_saves : k_L_saves ∈ lw_tbl := mt (i := 673) (by decide +kernel)
theorem e_L_times : k_L_times ∈ lw_tbl := mt (i := 731) (by decide +kernel)
set_option maxRecDepth 100000 in
theorem e_L_works : k_L_works ∈ lw_tbl := mt (i := 734) rfl
theorem e_L_kills : k_L_kills ∈ lw_tbl := mt (i := 798) (by decide +kernel)
theorem e_L_attaches : k_L_attaches ∈ lw_tbl := mt (i := 807) (by decide +kernel)
theorem e_L_ports : k_L_ports ∈ lw_tbl := mt (i := 832) (by decide +kernel)
theorem e_L_areGroups : k_L_areGroups ∈ lw_tbl := mt (i := 861) (by decide +kernel)
theorem e_L_areContainers : k_L_areContainers ∈ lw_tbl := mt (i := 864) (by decide +kernel)
theorem q_L_step_12 : callOk M_L_step M_h_newImage y_h_newImage k_h_newImage 12 1 := ⟨rfl, e_h_newImage, wl352, wl1, by decide, by decide +kernel, by decide, by decide⟩
theorem q_L_step_18 : callOk M_L_step M_h_entries y_h_entries k_h_entries 18 2 := ⟨rfl, e_h_entries, wl425, wl1, by decide, by decide +kernel, by decide, by decide⟩
theorem q_L_step_22 : callOk M_L_step M_h_shown y_h_shown k_h_shown 22 2 := ⟨rfl, e_h_shown, wl444, wl1, by decide, by decide +kernel, by decide, by decide⟩
theorem q_L_step_25 : callOk M_L_step M_L_images y_L_images k_L_images 25 6 := ⟨rfl, e_L_images, wl464, wl0, by decide, by decide +kernel, by decide, by decide⟩
theorem q_L_step_29 : callOk M_L_step M_h_newGroup y_h_newGroup k_h_newGroup 29 4 := ⟨rfl, e_h_newGroup, wl501, wl1, by decide, by decide +kernel, by decide, by decide⟩
theorem q_L_step_33 : callOk M_L_step M_h_groupMemory y_h_groupMemory k_h_groupMemory 33 1 := ⟨rfl, e_h_groupMemory, wl184, wl1, by decide, by decide +kernel, by decide, by decide⟩
theorem q_L_step_36 : callOk M_L_step M_h_groupProcesses y_h_groupProcesses k_h_groupProcesses 36 1 := ⟨rfl, e_h_groupProcesses, wl506, wl1, by decide, by decide +kernel, by decide, by decide⟩
theorem q_L_step_39 : callOk M_L_step M_L_isFull y_L_isFull k_L_isFull 39 3 := ⟨rfl, e_L_isFull, wl510, wl0, by decide, by decide +kernel, by decide, by decide⟩
theorem q_L_step_43 : callOk M_L_step M_h_run y_h_run k_h_run 43 4 := ⟨rfl, e_h_run, wl513, wl1, by decide, by decide +kernel, by decide, by decide⟩
theorem q_L_step_46 : callOk M_L_step M_h_containers y_h_containers k_h_containers 46 0 := ⟨rfl, e_h_containers, wl339, wl1, by decide, by decide +kernel, by decide, by decide⟩
theorem q_L_step_50 : callOk M_L_step M_h_stateOf y_h_stateOf k_h_stateOf 50 1 := ⟨rfl, e_h_stateOf, wl599, wl1, by decide, by decide +kernel, by decide, by decide⟩
theorem q_L_step_53 : callOk M_L_step M_h_memoryOf y_h_memoryOf k_h_memoryOf 53 1 := ⟨rfl, e_h_memoryOf, wl608, wl1, by decide, by decide +kernel, by decide, by decide⟩
theorem q_L_step_56 : callOk M_L_step M_h_timeOf y_h_timeOf k_h_timeOf 56 1 := ⟨rfl, e_h_timeOf, wl612, wl1, by decide, by decide +kernel, by decide, by decide⟩
theorem q_L_step_59 : callOk M_L_step M_h_addressOf y_h_addressOf k_h_addressOf 59 1 := ⟨rfl, e_h_addressOf, wl616, wl1, by decide, by decide +kernel, by decide, by decide⟩
theorem q_L_step_62 : callOk M_L_step M_h_capabilitiesOf y_h_capabilitiesOf k_h_capabilitiesOf 62 1 := ⟨rfl, e_h_capabilitiesOf, wl620, wl1, by decide, by decide +kernel, by decide, by decide⟩
theorem q_L_step_65 : callOk M_L_step M_h_fileOf y_h_fileOf k_h_fileOf 65 2 := ⟨rfl, e_h_fileOf, wl624, wl1, by decide, by decide +kernel, by decide, by decide⟩
theorem q_L_step_68 : callOk M_L_step M_L_checks y_L_checks k_L_checks 68 6 := ⟨rfl, e_L_checks, wl628, wl0, by decide, by decide +kernel, by decide, by decide⟩
theorem q_L_step_71 : callOk M_L_step M_L_times y_L_times k_L_times 71 1 := ⟨rfl, e_L_times, wl729, wl0, by decide, by decide +kernel, by decide, by decide⟩
theorem q_L_step_75 : callOk M_L_step M_h_schedule y_h_schedule k_h_schedule 75 1 := ⟨rfl, e_h_schedule, wl278, wl1, by decide, by decide +kernel, by decide, by decide⟩
theorem q_L_step_78 : callOk M_L_step M_L_works y_L_works k_L_works 78 6 := ⟨rfl, e_L_works, wl732, wl0, by decide, by decide +kernel, by decide, by decide⟩
theorem q_L_images_22 : callOk M_L_images M_h_shown y_h_shown k_h_shown 22 2 := ⟨rfl, e_h_shown, wl444, wl1, by decide, by decide +kernel, by decide, by decide⟩
theorem q_L_images_81 : callOk M_L_images M_h_write y_h_write k_h_write 81 3 := ⟨rfl, e_h_write, wl467, wl1, by decide, by decide +kernel, by decide, by decide⟩
theorem q_L_images_85 : callOk M_L_images M_h_remove y_h_remove k_h_remove 85 2 := ⟨rfl, e_h_remove, wl475, wl1, by decide, by decide +kernel, by decide, by decide⟩
theorem q_L_images_88 : callOk M_L_images M_h_clear y_h_clear k_h_clear 88 2 := ⟨rfl, e_h_clear, wl483, wl1, by decide, by decide +kernel, by decide, by decide⟩
theorem q_L_images_91 : callOk M_L_images M_h_seal y_h_seal k_h_seal 91 1 := ⟨rfl, e_h_seal, wl497, wl1, by decide, by decide +kernel, by decide, by decide⟩
theorem q_L_isFull_36 : callOk M_L_isFull M_h_groupProcesses y_h_groupProcesses k_h_groupProcesses 36 1 := ⟨rfl, e_h_groupProcesses, wl506, wl1, by decide, by decide +kernel, by decide, by decide⟩
theorem q_L_checks_53 : callOk M_L_checks M_h_memoryOf y_h_memoryOf k_h_memoryOf 53 1 := ⟨rfl, e_h_memoryOf, wl608, wl1, by decide, by decide +kernel, by decide, by decide⟩
theorem q_L_checks_94 : callOk M_L_checks M_h_stop y_h_stop k_h_stop 94 1 := ⟨rfl, e_h_stop, wl631, wl1, by decide, by decide +kernel, by decide, by decide⟩
theorem q_L_checks_50 : callOk M_L_checks M_h_stateOf y_h_stateOf k_h_stateOf 50 1 := ⟨rfl, e_h_stateOf, wl599, wl1, by decide, by decide +kernel, by decide, by decide⟩
theorem q_L_checks_97 : callOk M_L_checks M_h_pause y_h_pause k_h_pause 97 1 := ⟨rfl, e_h_pause, wl644, wl1, by decide, by decide +kernel, by decide, by decide⟩
theorem q_L_checks_101 : callOk M_L_checks M_L_commits y_L_commits k_L_commits 101 4 := ⟨rfl, e_L_commits, wl656, wl0, by decide, by decide +kernel, by decide, by decide⟩
theorem q_L_checks_105 : callOk M_L_checks M_L_saves y_L_saves k_L_saves 105 4 := ⟨rfl, e_L_saves, wl671, wl0, by decide, by decide +kernel, by decide, by decide⟩
theorem q_L_checks_108 : callOk M_L_checks M_h_resume y_h_resume k_h_resume 108 1 := ⟨rfl, e_h_resume, wl725, wl1, by decide, by decide +kernel, by decide, by decide⟩
theorem q_L_commits_111 : callOk M_L_commits M_h_commit y_h_commit k_h_commit 111 1 := ⟨rfl, e_h_commit, wl659, wl1, by decide, by decide +kernel, by decide, by decide⟩
theorem q_L_commits_22 : callOk M_L_commits M_h_shown y_h_shown k_h_shown 22 2 := ⟨rfl, e_h_shown, wl444, wl1, by decide, by decide +kernel, by decide, by decide⟩
theorem q_L_commits_65 : callOk M_L_commits M_h_fileOf y_h_fileOf k_h_fileOf 65 2 := ⟨rfl, e_h_fileOf, wl624, wl1, by decide, by decide +kernel, by decide, by decide⟩
theorem q_L_commits_18 : callOk M_L_commits M_h_entries y_h_entries k_h_entries 18 2 := ⟨rfl, e_h_entries, wl425, wl1, by decide, by decide +kernel, by decide, by decide⟩
theorem q_L_saves_36 : callOk M_L_saves M_h_groupProcesses y_h_groupProcesses k_h_groupProcesses 36 1 := ⟨rfl, e_h_groupProcesses, wl506, wl1, by decide, by decide +kernel, by decide, by decide⟩
theorem q_L_saves_114 : callOk M_L_saves M_h_save y_h_save k_h_save 114 1 := ⟨rfl, e_h_save, wl674, wl1, by decide, by decide +kernel, by decide, by decide⟩
theorem q_L_saves_94 : callOk M_L_saves M_h_stop y_h_stop k_h_stop 94 1 := ⟨rfl, e_h_stop, wl631, wl1, by decide, by decide +kernel, by decide, by decide⟩
theorem q_L_saves_117 : callOk M_L_saves M_h_restore y_h_restore k_h_restore 117 2 := ⟨rfl, e_h_restore, wl720, wl1, by decide, by decide +kernel, by decide, by decide⟩
theorem q_L_saves_50 : callOk M_L_saves M_h_stateOf y_h_stateOf k_h_stateOf 50 1 := ⟨rfl, e_h_stateOf, wl599, wl1, by decide, by decide +kernel, by decide, by decide⟩
theorem q_L_saves_53 : callOk M_L_saves M_h_memoryOf y_h_memoryOf k_h_memoryOf 53 1 := ⟨rfl, e_h_memoryOf, wl608, wl1, by decide, by decide +kernel, by decide, by decide⟩
theorem q_L_saves_59 : callOk M_L_saves M_h_addressOf y_h_addressOf k_h_addressOf 59 1 := ⟨rfl, e_h_addressOf, wl616, wl1, by decide, by decide +kernel, by decide, by decide⟩
theorem q_L_saves_62 : callOk M_L_saves M_h_capabilitiesOf y_h_capabilitiesOf k_h_capabilitiesOf 62 1 := ⟨rfl, e_h_capabilitiesOf, wl620, wl1, by decide, by decide +kernel, by decide, by decide⟩
theorem q_L_saves_65 : callOk M_L_saves M_h_fileOf y_h_fileOf k_h_fileOf 65 2 := ⟨rfl, e_h_fileOf, wl624, wl1, by decide, by decide +kernel, by decide, by decide⟩
theorem q_L_times_46 : callOk M_L_times M_h_containers y_h_containers k_h_containers 46 0 := ⟨rfl, e_h_containers, wl339, wl1, by decide, by decide +kernel, by decide, by decide⟩
theorem q_L_times_56 : callOk M_L_times M_h_timeOf y_h_timeOf k_h_timeOf 56 1 := ⟨rfl, e_h_timeOf, wl612, wl1, by decide, by decide +kernel, by decide, by decide⟩
theorem q_L_works_62 : callOk M_L_works M_h_capabilitiesOf y_h_capabilitiesOf k_h_capabilitiesOf 62 1 := ⟨rfl, e_h_capabilitiesOf, wl620, wl1, by decide, by decide +kernel, by decide, by decide⟩
theorem q_L_works_53 : callOk M_L_works M_h_memoryOf y_h_memoryOf k_h_memoryOf 53 1 := ⟨rfl, e_h_memoryOf, wl608, wl1, by decide, by decide +kernel, by decide, by decide⟩
theorem q_L_works_65 : callOk M_L_works M_h_fileOf y_h_fileOf k_h_fileOf 65 2 := ⟨rfl, e_h_fileOf, wl624, wl1, by decide, by decide +kernel, by decide, by decide⟩
theorem q_L_works_120 : callOk M_L_works M_h_allocate y_h_allocate k_h_allocate 120 2 := ⟨rfl, e_h_allocate, wl735, wl1, by decide, by decide +kernel, by decide, by decide⟩
theorem q_L_works_50 : callOk M_L_works M_h_stateOf y_h_stateOf k_h_stateOf 50 1 := ⟨rfl, e_h_stateOf, wl599, wl1, by decide, by decide +kernel, by decide, by decide⟩
theorem q_L_works_123 : callOk M_L_works M_h_free y_h_free k_h_free 123 2 := ⟨rfl, e_h_free, wl751, wl1, by decide, by decide +kernel, by decide, by decide⟩
theorem q_L_works_36 : callOk M_L_works M_h_groupProcesses y_h_groupProcesses k_h_groupProcesses 36 1 := ⟨rfl, e_h_groupProcesses, wl506, wl1, by decide, by decide +kernel, by decide, by decide⟩
theorem q_L_works_39 : callOk M_L_works M_L_isFull y_L_isFull k_L_isFull 39 3 := ⟨rfl, e_L_isFull, wl510, wl0, by decide, by decide +kernel, by decide, by decide⟩
theorem q_L_works_126 : callOk M_L_works M_h_fork y_h_fork k_h_fork 126 1 := ⟨rfl, e_h_fork, wl756, wl1, by decide, by decide +kernel, by decide, by decide⟩
theorem q_L_works_129 : callOk M_L_works M_h_exit y_h_exit k_h_exit 129 1 := ⟨rfl, e_h_exit, wl760, wl1, by decide, by decide +kernel, by decide, by decide⟩
theorem q_L_works_132 : callOk M_L_works M_h_writeFile y_h_writeFile k_h_writeFile 132 3 := ⟨rfl, e_h_writeFile, wl764, wl1, by decide, by decide +kernel, by decide, by decide⟩
theorem q_L_works_135 : callOk M_L_works M_h_removeFile y_h_removeFile k_h_removeFile 135 2 := ⟨rfl, e_h_removeFile, wl775, wl1, by decide, by decide +kernel, by decide, by decide⟩
theorem q_L_works_138 : callOk M_L_works M_h_lower y_h_lower k_h_lower 138 2 := ⟨rfl, e_h_lower, wl779, wl1, by decide, by decide +kernel, by decide, by decide⟩
theorem q_L_works_141 : callOk M_L_works M_h_drop y_h_drop k_h_drop 141 2 := ⟨rfl, e_h_drop, wl787, wl1, by decide, by decide +kernel, by decide, by decide⟩
theorem q_L_works_144 : callOk M_L_works M_h_raise y_h_raise k_h_raise 144 2 := ⟨rfl, e_h_raise, wl791, wl1, by decide, by decide +kernel, by decide, by decide⟩
theorem q_L_works_147 : callOk M_L_works M_L_kills y_L_kills k_L_kills 147 5 := ⟨rfl, e_L_kills, wl796, wl0, by decide, by decide +kernel, by decide, by decide⟩
theorem q_L_works_151 : callOk M_L_works M_L_attaches y_L_attaches k_L_attaches 151 4 := ⟨rfl, e_L_attaches, wl805, wl0, by decide, by decide +kernel, by decide, by decide⟩
theorem q_L_works_155 : callOk M_L_works M_L_ports y_L_ports k_L_ports 155 4 := ⟨rfl, e_L_ports, wl830, wl0, by decide, by decide +kernel, by decide, by decide⟩
theorem q_L_kills_53 : callOk M_L_kills M_h_memoryOf y_h_memoryOf k_h_memoryOf 53 1 := ⟨rfl, e_h_memoryOf, wl608, wl1, by decide, by decide +kernel, by decide, by decide⟩
theorem q_L_kills_50 : callOk M_L_kills M_h_stateOf y_h_stateOf k_h_stateOf 50 1 := ⟨rfl, e_h_stateOf, wl599, wl1, by decide, by decide +kernel, by decide, by decide⟩
theorem q_L_kills_158 : callOk M_L_kills M_h_kill y_h_kill k_h_kill 158 2 := ⟨rfl, e_h_kill, wl799, wl1, by decide, by decide +kernel, by decide, by decide⟩
theorem q_L_attaches_59 : callOk M_L_attaches M_h_addressOf y_h_addressOf k_h_addressOf 59 1 := ⟨rfl, e_h_addressOf, wl616, wl1, by decide, by decide +kernel, by decide, by decide⟩
theorem q_L_attaches_161 : callOk M_L_attaches M_h_detach y_h_detach k_h_detach 161 1 := ⟨rfl, e_h_detach, wl808, wl1, by decide, by decide +kernel, by decide, by decide⟩
theorem q_L_attaches_46 : callOk M_L_attaches M_h_containers y_h_containers k_h_containers 46 0 := ⟨rfl, e_h_containers, wl339, wl1, by decide, by decide +kernel, by decide, by decide⟩
theorem q_L_attaches_164 : callOk M_L_attaches M_h_attach y_h_attach k_h_attach 164 2 := ⟨rfl, e_h_attach, wl816, wl1, by decide, by decide +kernel, by decide, by decide⟩
theorem q_L_ports_59 : callOk M_L_ports M_h_addressOf y_h_addressOf k_h_addressOf 59 1 := ⟨rfl, e_h_addressOf, wl616, wl1, by decide, by decide +kernel, by decide, by decide⟩
theorem q_L_ports_167 : callOk M_L_ports M_h_connectHost y_h_connectHost k_h_connectHost 167 1 := ⟨rfl, e_h_connectHost, wl833, wl1, by decide, by decide +kernel, by decide, by decide⟩
theorem q_L_ports_50 : callOk M_L_ports M_h_stateOf y_h_stateOf k_h_stateOf 50 1 := ⟨rfl, e_h_stateOf, wl599, wl1, by decide, by decide +kernel, by decide, by decide⟩
theorem q_L_ports_170 : callOk M_L_ports M_h_connect y_h_connect k_h_connect 170 3 := ⟨rfl, e_h_connect, wl841, wl1, by decide, by decide +kernel, by decide, by decide⟩
theorem q_L_ports_173 : callOk M_L_ports M_h_listen y_h_listen k_h_listen 173 2 := ⟨rfl, e_h_listen, wl853, wl1, by decide, by decide +kernel, by decide, by decide⟩
theorem q_L_areGroups_53 : callOk M_L_areGroups M_h_memoryOf y_h_memoryOf k_h_memoryOf 53 1 := ⟨rfl, e_h_memoryOf, wl608, wl1, by decide, by decide +kernel, by decide, by decide⟩
theorem q_L_areGroups_33 : callOk M_L_areGroups M_h_groupMemory y_h_groupMemory k_h_groupMemory 33 1 := ⟨rfl, e_h_groupMemory, wl184, wl1, by decide, by decide +kernel, by decide, by decide⟩
theorem q_L_areGroups_36 : callOk M_L_areGroups M_h_groupProcesses y_h_groupProcesses k_h_groupProcesses 36 1 := ⟨rfl, e_h_groupProcesses, wl506, wl1, by decide, by decide +kernel, by decide, by decide⟩
theorem q_L_areContainers_46 : callOk M_L_areContainers M_h_containers y_h_containers k_h_containers 46 0 := ⟨rfl, e_h_containers, wl339, wl1, by decide, by decide +kernel, by decide, by decide⟩
theorem q_L_areContainers_59 : callOk M_L_areContainers M_h_addressOf y_h_addressOf k_h_addressOf 59 1 := ⟨rfl, e_h_addressOf, wl616, wl1, by decide, by decide +kernel, by decide, by decide⟩
theorem q_L_areContainers_50 : callOk M_L_areContainers M_h_stateOf y_h_stateOf k_h_stateOf 50 1 := ⟨rfl, e_h_stateOf, wl599, wl1, by decide, by decide +kernel, by decide, by decide⟩
theorem q_L_areContainers_53 : callOk M_L_areContainers M_h_memoryOf y_h_memoryOf k_h_memoryOf 53 1 := ⟨rfl, e_h_memoryOf, wl608, wl1, by decide, by decide +kernel, by decide, by decide⟩
theorem q_L_areContainers_62 : callOk M_L_areContainers M_h_capabilitiesOf y_h_capabilitiesOf k_h_capabilitiesOf 62 1 := ⟨rfl, e_h_capabilitiesOf, wl620, wl1, by decide, by decide +kernel, by decide, by decide⟩
theorem q_L_areContainers_65 : callOk M_L_areContainers M_h_fileOf y_h_fileOf k_h_fileOf 65 2 := ⟨rfl, e_h_fileOf, wl624, wl1, by decide, by decide +kernel, by decide, by decide⟩
theorem q_L_areContainers_176 : callOk M_L_areContainers M_h_plainFileOf y_h_plainFileOf k_h_plainFileOf 176 2 := ⟨rfl, e_h_plainFileOf, wl865, wl1, by decide, by decide +kernel, by decide, by decide⟩
theorem q_law_179 (nm : String) (hh : List (Nat × Nat × Nat × Nat)) : callOk (M_law nm hh) M_h_init y_h_init k_h_init 179 0 := ⟨rfl, e_h_init, wl26, wl1, by decide, by decide +kernel, Nat.le_of_ble_eq_true rfl, Nat.le_of_ble_eq_true rfl⟩
theorem q_law_46 (nm : String) (hh : List (Nat × Nat × Nat × Nat)) : callOk (M_law nm hh) M_h_containers y_h_containers k_h_containers 46 0 := ⟨rfl, e_h_containers, wl339, wl1, by decide, by decide +kernel, Nat.le_of_ble_eq_true rfl, Nat.le_of_ble_eq_true rfl⟩
theorem q_law_33 (nm : String) (hh : List (Nat × Nat × Nat × Nat)) : callOk (M_law nm hh) M_h_groupMemory y_h_groupMemory k_h_groupMemory 33 1 := ⟨rfl, e_h_groupMemory, wl184, wl1, by decide, by decide +kernel, Nat.le_of_ble_eq_true rfl, Nat.le_of_ble_eq_true rfl⟩
theorem q_law_75 (nm : String) (hh : List (Nat × Nat × Nat × Nat)) : callOk (M_law nm hh) M_h_schedule y_h_schedule k_h_schedule 75 1 := ⟨rfl, e_h_schedule, wl278, wl1, by decide, by decide +kernel, Nat.le_of_ble_eq_true rfl, Nat.le_of_ble_eq_true rfl⟩
theorem q_law_180 (nm : String) (hh : List (Nat × Nat × Nat × Nat)) : callOk (M_law nm hh) M_L_draw y_L_draw k_L_draw 180 2 := ⟨rfl, e_L_draw, wl343, wl0, by decide, by decide +kernel, Nat.le_of_ble_eq_true rfl, Nat.le_of_ble_eq_true rfl⟩
theorem q_law_184 (nm : String) (hh : List (Nat × Nat × Nat × Nat)) : callOk (M_law nm hh) M_L_step y_L_step k_L_step 184 6 := ⟨rfl, e_L_step, wl349, wl0, by decide, by decide +kernel, Nat.le_of_ble_eq_true rfl, Nat.le_of_ble_eq_true rfl⟩
theorem q_law_187 (nm : String) (hh : List (Nat × Nat × Nat × Nat)) : callOk (M_law nm hh) M_L_areGroups y_L_areGroups k_L_areGroups 187 3 := ⟨rfl, e_L_areGroups, wl859, wl0, by decide, by decide +kernel, Nat.le_of_ble_eq_true rfl, Nat.le_of_ble_eq_true rfl⟩
theorem q_law_191 (nm : String) (hh : List (Nat × Nat × Nat × Nat)) : callOk (M_law nm hh) M_L_areContainers y_L_areContainers k_L_areContainers 191 1 := ⟨rfl, e_L_areContainers, wl862, wl0, by decide, by decide +kernel, Nat.le_of_ble_eq_true rfl, Nat.le_of_ble_eq_true rfl⟩
