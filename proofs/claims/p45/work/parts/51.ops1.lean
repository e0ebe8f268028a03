theorem t_h_whiteOut {g : xG} {K : hp} {ad : cA} {S : gS} {QX : qKE} {l f : Int} (hI : Inv S) (hE : Ext S) (hv : lvl S l) (hf0 : 0 ≤ f) (hf1 : f < 32) (hX : see6 S l f = 0 → QX eIS ad S) : cM g y_h_whiteOut k_h_whiteOut M_h_whiteOut K [.ref (ad 6 l), .int (iI f)] ad S (fun v9 ad9 S9 => v9 = some (.int (iI (see6 S l f))) ∧ ad = ad9 ∧ S9 = sset S 1 (32 * l + f) (-1) ∧ see6 S l f ≠ 0) QX := by
  refine cM.of rfl (by decide) rfl rfl rfl (by simp [Value.category]) (Nat.le_of_ble_eq_true rfl) rfl ?_
  obtain ⟨hR, hI1, hI2, hI3, hI4, hI5, hI6, hI7⟩ := id hI
  unfold Inv1 at hI1
  have h0 := hE.h
  have hL1 := hE.l (n := 1) (by decide) (by decide)
  have hL2 := hE.l (n := 2) (by decide) (by decide)
  have hL3 := hE.l (n := 3) (by decide) (by decide)
  have hL4 := hE.l (n := 4) (by decide) (by decide)
  have hL5 := hE.l (n := 5) (by decide) (by decide)
  have hO := hE.o
  have hRm := hE.r
  have hsb := see6_b hI l f
  refine c_aload_n d_h_whiteOut_0 rfl ?_
  refine c_iload_n d_h_whiteOut_1 rfl ?_
  refine c_callV (r := (RX4, TX4, 4)) d_h_whiteOut_2 q_h_whiteOut_85 s_l_fileSeen v_l_fileSeen (t_l_fileSeen hI hE hI6 hf0 hf1 hv) (fun _ z => ⟨_, z.at 6 (by decide) (hE.y hv)⟩) rfl rfl rfl rfl (Nat.le_of_ble_eq_true rfl) rfl rfl rfl (fun _ _ _ z => z) ?_
  rintro _ _ _ ⟨rfl, rfl, rfl⟩
  refine c_istore_n d_h_whiteOut_5 (by decide) ?_
  refine c_iload_n d_h_whiteOut_6 rfl ?_
  refine c_if_ne (tgt := 21) d_h_whiteOut_7 (by decide) (by first | assumption | exact hR _ _ (by decide) | (unfold R32; omega)) (fun z7 => ?_) (fun z7 => ?_)
  · refine c_aload_n d_h_whiteOut_21 rfl ?_
    refine cg_h_89_5 (hE.y hv) d_h_whiteOut_22 rfl ?_
    refine c_iload_n d_h_whiteOut_25 rfl ?_
    refine c_iconst d_h_whiteOut_26 ?_
    refine c_fast (hE.f hv) d_h_whiteOut_27 (by omega) (by omega) ?_
    refine c_iload_n d_h_whiteOut_28 rfl ?_
    exact c_iret rfl d_h_whiteOut_29 (⟨rfl, rfl, rfl, z7⟩)
  · exact fun h hc => thw_3 rfl sr_366 d_h_whiteOut_10 d_h_whiteOut_13 d_h_whiteOut_14 d_h_whiteOut_17 d_h_whiteOut_20 rfl (by decide) (by decide) (by decide) (by decide) ⟨ad, S, hX (by omega), hc⟩
theorem t_h_requireRoom {g : xG} {K : hp} {ad : cA} {S : gS} {QX : qKE} {a u m : Int} (hI : Inv S) (hE : Ext S) (ha0 : 0 ≤ a) (ha1 : a < S 6 0) (hu0 : 0 ≤ u) (hu1 : u ≤ 10000) (hm0 : 0 ≤ m) (hm1 : m ≤ 10000) (hX : tm S a u m ≠ -1 → QX eIS ad S) : cM g y_h_requireRoom k_h_requireRoom M_h_requireRoom K [.ref (ad 3 a), .int (iI u), .int (iI m)] ad S (fun v9 ad9 S9 => v9 = none ∧ ad = ad9 ∧ S = S9 ∧ tm S a u m = -1) QX := by
  refine cM.of rfl (by decide) rfl rfl rfl (by simp [Value.category]) (Nat.le_of_ble_eq_true rfl) rfl ?_
  obtain ⟨hR, hI1, hI2, hI3, hI4, hI5, hI6, hI7⟩ := id hI
  unfold Inv1 at hI1
  have h0 := hE.h
  have hL1 := hE.l (n := 1) (by decide) (by decide)
  have hL2 := hE.l (n := 2) (by decide) (by decide)
  have hL3 := hE.l (n := 3) (by decide) (by decide)
  have hL4 := hE.l (n := 4) (by decide) (by decide)
  have hL5 := hE.l (n := 5) (by decide) (by decide)
  have hO := hE.o
  have hRm := hE.r
  have hz9 : (tm S a u m = -1 ∧ (if tm S a u m = -1 then (1 : Int) else 0) = 1) ∨ (tm S a u m ≠ -1 ∧ (if tm S a u m = -1 then (1 : Int) else 0) = 0) := by split <;> simp_all
  refine c_aload_n d_h_requireRoom_0 rfl ?_
  refine c_iload_n d_h_requireRoom_1 rfl ?_
  refine c_iload_n d_h_requireRoom_2 rfl ?_
  refine c_callV (r := (RX2, TX2, 7)) d_h_requireRoom_3 q_h_requireRoom_349 s_g_hasRoom v_g_hasRoom (t_g_hasRoom hI hI2 hI1 (fun p x y => hE.p x y) hE.2.1 ha0 ha1 hu0 hu1 hm0 hm1) (fun _ z => ⟨_, z.at 3 (by decide) (hE.p ha0 ha1)⟩) rfl rfl rfl rfl (Nat.le_of_ble_eq_true rfl) rfl rfl rfl (fun _ _ _ z => z) ?_
  rintro _ _ _ ⟨rfl, rfl, rfl⟩
  refine c_if_ne (tgt := 20) d_h_requireRoom_6 (by decide) (by first | assumption | exact hR _ _ (by decide) | (unfold R32; omega)) (fun z6 => ?_) (fun z6 => ?_)
  · exact c_vret rfl d_h_requireRoom_20 (⟨rfl, rfl, rfl, by omega⟩)
  · exact fun h hc => thw_3 rfl sr_353 d_h_requireRoom_9 d_h_requireRoom_12 d_h_requireRoom_13 d_h_requireRoom_16 d_h_requireRoom_19 rfl (by decide) (by decide) (by decide) (by decide) ⟨ad, S, hX (by omega), hc⟩
theorem t_h_requireImageSlot {g : xG} {K : hp} {ad : cA} {S : gS} {QX : qKE}  (hI : Inv S) (hE : Ext S) (hX : ¬ S 3 0 < 10 → QX eIS ad S) : cM g y_h_requireImageSlot k_h_requireImageSlot M_h_requireImageSlot K [.ref (ad 0 0)] ad S (fun v9 ad9 S9 => v9 = none ∧ ad = ad9 ∧ S = S9 ∧ S 3 0 < 10) QX := by
  refine cM.of rfl (by decide) rfl rfl rfl (by simp [Value.category]) (Nat.le_of_ble_eq_true rfl) rfl ?_
  obtain ⟨hR, hI1, hI2, hI3, hI4, hI5, hI6, hI7⟩ := id hI
  unfold Inv1 at hI1
  have h0 := hE.h
  have hL1 := hE.l (n := 1) (by decide) (by decide)
  have hL2 := hE.l (n := 2) (by decide) (by decide)
  have hL3 := hE.l (n := 3) (by decide) (by decide)
  have hL4 := hE.l (n := 4) (by decide) (by decide)
  have hL5 := hE.l (n := 5) (by decide) (by decide)
  have hO := hE.o
  have hRm := hE.r
  refine c_aload_n d_h_requireImageSlot_0 rfl ?_
  refine cg_h_12_6 h0 d_h_requireImageSlot_1 rfl ?_
  refine c_lsize1 hL1 d_h_requireImageSlot_4 q_h_requireImageSlot_147 (Nat.le_of_ble_eq_true rfl) rfl ?_
  refine c_bipush d_h_requireImageSlot_7 (by decide) ?_
  refine c_icmp_lt (tgt := 23) d_h_requireImageSlot_9 (by decide) (by first | assumption | exact hR _ _ (by decide) | (unfold R32; omega)) (by first | assumption | exact hR _ _ (by decide) | (unfold R32; omega)) (fun z9 => ?_) (fun z9 => ?_)
  · exact c_vret rfl d_h_requireImageSlot_23 (⟨rfl, rfl, rfl, by omega⟩)
  · exact fun h hc => thw_3 rfl sr_345 d_h_requireImageSlot_12 d_h_requireImageSlot_15 d_h_requireImageSlot_16 d_h_requireImageSlot_19 d_h_requireImageSlot_22 rfl (by decide) (by decide) (by decide) (by decide) ⟨ad, S, hX (by omega), hc⟩
theorem t_h_requireContainerSlot {g : xG} {K : hp} {ad : cA} {S : gS} {QX : qKE}  (hI : Inv S) (hE : Ext S) (hX : ¬ S 11 0 < 20 → QX eIS ad S) : cM g y_h_requireContainerSlot k_h_requireContainerSlot M_h_requireContainerSlot K [.ref (ad 0 0)] ad S (fun v9 ad9 S9 => v9 = none ∧ ad = ad9 ∧ S = S9 ∧ S 11 0 < 20) QX := by
  refine cM.of rfl (by decide) rfl rfl rfl (by simp [Value.category]) (Nat.le_of_ble_eq_true rfl) rfl ?_
  obtain ⟨hR, hI1, hI2, hI3, hI4, hI5, hI6, hI7⟩ := id hI
  unfold Inv1 at hI1
  have h0 := hE.h
  have hL1 := hE.l (n := 1) (by decide) (by decide)
  have hL2 := hE.l (n := 2) (by decide) (by decide)
  have hL3 := hE.l (n := 3) (by decide) (by decide)
  have hL4 := hE.l (n := 4) (by decide) (by decide)
  have hL5 := hE.l (n := 5) (by decide) (by decide)
  have hO := hE.o
  have hRm := hE.r
  refine c_aload_n d_h_requireContainerSlot_0 rfl ?_
  refine cg_h_19_6 h0 d_h_requireContainerSlot_1 rfl ?_
  refine c_lsize3 hL3 d_h_requireContainerSlot_4 q_h_requireContainerSlot_147 (Nat.le_of_ble_eq_true rfl) rfl ?_
  refine c_bipush d_h_requireContainerSlot_7 (by decide) ?_
  refine c_icmp_lt (tgt := 23) d_h_requireContainerSlot_9 (by decide) (by first | assumption | exact hR _ _ (by decide) | (unfold R32; omega)) (by first | assumption | exact hR _ _ (by decide) | (unfold R32; omega)) (fun z9 => ?_) (fun z9 => ?_)
  · exact c_vret rfl d_h_requireContainerSlot_23 (⟨rfl, rfl, rfl, by omega⟩)
  · exact fun h hc => thw_3 rfl sr_347 d_h_requireContainerSlot_12 d_h_requireContainerSlot_15 d_h_requireContainerSlot_16 d_h_requireContainerSlot_19 d_h_requireContainerSlot_22 rfl (by decide) (by decide) (by decide) (by decide) ⟨ad, S, hX (by omega), hc⟩
theorem t_h_write {g : xG} {K : hp} {ad : cA} {S : gS} {i f c : Int} (hI : Inv S) (hE : Ext S) (hi : R32 i) (hf : R32 f) (hc : R32 c) : cM g y_h_write k_h_write M_h_write K [.ref (ad 0 0), .int (iI i), .int (iI f), .int (iI c)] ad S (opC (cd_write S i f c) (vl_write S i f c) (st_write S i f c)) (opX [eIO, eIA, eIS] ad S (cd_write S i f c)) := by
  refine cM.of rfl (by decide) rfl rfl rfl (by simp [Value.category]) (Nat.le_of_ble_eq_true rfl) rfl ?_
  obtain ⟨hR, hI1, hI2, hI3, hI4, hI5, hI6, hI7⟩ := id hI
  unfold Inv1 at hI1
  have h0 := hE.h
  have hL1 := hE.l (n := 1) (by decide) (by decide)
  have hL2 := hE.l (n := 2) (by decide) (by decide)
  have hL3 := hE.l (n := 3) (by decide) (by decide)
  have hL4 := hE.l (n := 4) (by decide) (by decide)
  have hL5 := hE.l (n := 5) (by decide) (by decide)
  have hO := hE.o
  have hRm := hE.r
  refine c_aload_n d_h_write_0 rfl ?_
  refine c_iload_n d_h_write_1 rfl ?_
  refine c_callV (r := (RX6, TX6, 7)) d_h_write_2 q_h_write_47 s_h_imageAt v_h_imageAt (t_h_imageAt hI hE hi (fun q => ⟨rfl, rfl, 0, rfl, (by unfold cd_write; (repeat' split) <;> omega)⟩)) (fun _ z => ⟨_, z.at 0 (by decide) h0⟩) rfl rfl rfl rfl (Nat.le_of_ble_eq_true rfl) rfl rfl rfl (fun _ _ _ z => z) ?_
  rintro _ _ _ ⟨rfl, rfl, rfl, hi0, hi1⟩
  refine c_astore d_h_write_5 (by decide) ?_
  refine c_iload_n d_h_write_7 rfl ?_
  refine c_callS d_h_write_8 q_h_write_67 s_h_requireFile (t_h_requireFile_c hf (fun q => ⟨rfl, rfl, 0, rfl, (by unfold cd_write; (repeat' split) <;> omega)⟩)) rfl rfl (Nat.le_of_ble_eq_true rfl) rfl rfl rfl (fun _ _ _ z => z) ?_
  rintro _ _ _ ⟨rfl, rfl, rfl, hf0, hf1⟩
  refine c_iload_n d_h_write_11 rfl ?_
  refine c_sipush d_h_write_12 (by decide) ?_
  refine c_callS d_h_write_15 q_h_write_71 s_h_requireWithin (t_h_requireWithin_c hc (by unfold R32; omega) (fun q => ⟨rfl, rfl, 1, rfl, (by unfold cd_write; (repeat' split) <;> omega)⟩)) rfl rfl (Nat.le_of_ble_eq_true rfl) rfl rfl rfl (fun _ _ _ z => z) ?_
  rintro _ _ _ ⟨rfl, rfl, rfl, hw0, hw1⟩
  refine c_aload d_h_write_18 rfl ?_
  refine c_callS d_h_write_20 q_h_write_75 s_h_requireOpen (t_h_requireOpen_c (hE.i hi0 hi1) (hI6.2.2.1 i) (fun q => ⟨rfl, rfl, 2, rfl, (by unfold cd_write; (repeat' split) <;> omega)⟩)) rfl rfl (Nat.le_of_ble_eq_true rfl) rfl rfl rfl (fun _ _ _ z => z) ?_
  rintro _ _ _ ⟨rfl, rfl, rfl, ho⟩
  refine c_aload d_h_write_23 rfl ?_
  refine cg_h_79_4 (hE.i hi0 hi1) d_h_write_25 rfl ?_
  refine c_iload_n d_h_write_28 rfl ?_
  refine c_callV (r := (RX4, TX4, 4)) d_h_write_29 q_h_write_85 s_l_fileSeen v_l_fileSeen (t_l_fileSeen hI hE hI6 hf0 hf1 (lvl.i hi0 hi1)) (fun _ z => ⟨_, z.at 6 (by decide) (hE.y (lvl.i hi0 hi1))⟩) rfl rfl rfl rfl (Nat.le_of_ble_eq_true rfl) rfl rfl rfl (fun _ _ _ z => z) ?_
  rintro _ _ _ ⟨rfl, rfl, rfl⟩
  refine c_istore d_h_write_32 (by decide) ?_
  refine c_aload d_h_write_34 rfl ?_
  refine cg_h_79_4 (hE.i hi0 hi1) d_h_write_36 rfl ?_
  refine cg_h_89_5 (hE.y (lvl.i hi0 hi1)) d_h_write_39 rfl ?_
  refine c_iload_n d_h_write_42 rfl ?_
  refine c_iload_n d_h_write_43 rfl ?_
  refine c_fast (hE.f (lvl.i hi0 hi1)) d_h_write_44 (by omega) (by omega) ?_
  refine c_iload d_h_write_45 rfl ?_
  exact c_iret rfl d_h_write_47 (opC.good (by unfold cd_write; (repeat' split) <;> omega) (see6_i S f (by omega)) rfl (hE.set rfl (fun z => absurd z (by decide))))
theorem t_h_remove {g : xG} {K : hp} {ad : cA} {S : gS} {i f : Int} (hI : Inv S) (hE : Ext S) (hi : R32 i) (hf : R32 f) : cM g y_h_remove k_h_remove M_h_remove K [.ref (ad 0 0), .int (iI i), .int (iI f)] ad S (opC (cd_remove S i f) (vl_remove S i f) (st_remove S i f)) (opX [eIO, eIS] ad S (cd_remove S i f)) := by
  refine cM.of rfl (by decide) rfl rfl rfl (by simp [Value.category]) (Nat.le_of_ble_eq_true rfl) rfl ?_
  obtain ⟨hR, hI1, hI2, hI3, hI4, hI5, hI6, hI7⟩ := id hI
  unfold Inv1 at hI1
  have h0 := hE.h
  have hL1 := hE.l (n := 1) (by decide) (by decide)
  have hL2 := hE.l (n := 2) (by decide) (by decide)
  have hL3 := hE.l (n := 3) (by decide) (by decide)
  have hL4 := hE.l (n := 4) (by decide) (by decide)
  have hL5 := hE.l (n := 5) (by decide) (by decide)
  have hO := hE.o
  have hRm := hE.r
  refine c_aload_n d_h_remove_0 rfl ?_
  refine c_iload_n d_h_remove_1 rfl ?_
  refine c_callV (r := (RX6, TX6, 7)) d_h_remove_2 q_h_remove_47 s_h_imageAt v_h_imageAt (t_h_imageAt hI hE hi (fun q => ⟨rfl, rfl, 0, rfl, (by unfold cd_remove; (repeat' split) <;> omega)⟩)) (fun _ z => ⟨_, z.at 0 (by decide) h0⟩) rfl rfl rfl rfl (Nat.le_of_ble_eq_true rfl) rfl rfl rfl (fun _ _ _ z => z) ?_
  rintro _ _ _ ⟨rfl, rfl, rfl, hi0, hi1⟩
  refine c_astore_n d_h_remove_5 (by decide) ?_
  refine c_iload_n d_h_remove_6 rfl ?_
  refine c_callS d_h_remove_7 q_h_remove_67 s_h_requireFile (t_h_requireFile_c hf (fun q => ⟨rfl, rfl, 0, rfl, (by unfold cd_remove; (repeat' split) <;> omega)⟩)) rfl rfl (Nat.le_of_ble_eq_true rfl) rfl rfl rfl (fun _ _ _ z => z) ?_
  rintro _ _ _ ⟨rfl, rfl, rfl, hf0, hf1⟩
  refine c_aload_n d_h_remove_10 rfl ?_
  refine c_callS d_h_remove_11 q_h_remove_75 s_h_requireOpen (t_h_requireOpen_c (hE.i hi0 hi1) (hI6.2.2.1 i) (fun q => ⟨rfl, rfl, 1, rfl, (by unfold cd_remove; (repeat' split) <;> omega)⟩)) rfl rfl (Nat.le_of_ble_eq_true rfl) rfl rfl rfl (fun _ _ _ z => z) ?_
  rintro _ _ _ ⟨rfl, rfl, rfl, ho⟩
  refine c_aload_n d_h_remove_14 rfl ?_
  refine cg_h_79_4 (hE.i hi0 hi1) d_h_remove_15 rfl ?_
  refine c_iload_n d_h_remove_18 rfl ?_
  refine c_callS d_h_remove_19 q_h_remove_92 s_h_whiteOut (t_h_whiteOut hI hE (lvl.i hi0 hi1) hf0 hf1 (fun q => ⟨rfl, rfl, 1, rfl, (by have hse := see6_i S f (show i < 10 by omega); unfold cd_remove; (repeat' split) <;> omega)⟩)) rfl rfl (Nat.le_of_ble_eq_true rfl) rfl rfl rfl (fun _ _ _ z => z) ?_
  rintro _ _ _ ⟨rfl, rfl, rfl, hw0⟩
  exact c_iret rfl d_h_remove_22 (opC.good (by have hse := see6_i S f (show i < 10 by omega); unfold cd_remove; (repeat' split) <;> omega) (see6_i S f (by omega)) rfl (hE.set rfl (fun z => absurd z (by decide))))
theorem t_h_seal {g : xG} {K : hp} {ad : cA} {S : gS} {i : Int} (hI : Inv S) (hE : Ext S) (hi : R32 i) : cM g y_h_seal k_h_seal M_h_seal K [.ref (ad 0 0), .int (iI i)] ad S (opC (cd_seal S i) (vl_seal S i) (st_seal S i)) (opX [eIO, eIS] ad S (cd_seal S i)) := by
  refine cM.of rfl (by decide) rfl rfl rfl (by simp [Value.category]) (Nat.le_of_ble_eq_true rfl) rfl ?_
  obtain ⟨hR, hI1, hI2, hI3, hI4, hI5, hI6, hI7⟩ := id hI
  unfold Inv1 at hI1
  have h0 := hE.h
  have hL1 := hE.l (n := 1) (by decide) (by decide)
  have hL2 := hE.l (n := 2) (by decide) (by decide)
  have hL3 := hE.l (n := 3) (by decide) (by decide)
  have hL4 := hE.l (n := 4) (by decide) (by decide)
  have hL5 := hE.l (n := 5) (by decide) (by decide)
  have hO := hE.o
  have hRm := hE.r
  refine c_aload_n d_h_seal_0 rfl ?_
  refine c_iload_n d_h_seal_1 rfl ?_
  refine c_callV (r := (RX6, TX6, 7)) d_h_seal_2 q_h_seal_47 s_h_imageAt v_h_imageAt (t_h_imageAt hI hE hi (fun q => ⟨rfl, rfl, 0, rfl, (by unfold cd_seal; (repeat' split) <;> omega)⟩)) (fun _ z => ⟨_, z.at 0 (by decide) h0⟩) rfl rfl rfl rfl (Nat.le_of_ble_eq_true rfl) rfl rfl rfl (fun _ _ _ z => z) ?_
  rintro _ _ _ ⟨rfl, rfl, rfl, hi0, hi1⟩
  refine c_astore_n d_h_seal_5 (by decide) ?_
  refine c_aload_n d_h_seal_6 rfl ?_
  refine c_callS d_h_seal_7 q_h_seal_75 s_h_requireOpen (t_h_requireOpen_c (hE.i hi0 hi1) (hI6.2.2.1 i) (fun q => ⟨rfl, rfl, 1, rfl, (by unfold cd_seal; (repeat' split) <;> omega)⟩)) rfl rfl (Nat.le_of_ble_eq_true rfl) rfl rfl rfl (fun _ _ _ z => z) ?_
  rintro _ _ _ ⟨rfl, rfl, rfl, ho⟩
  refine c_aload_n d_h_seal_10 rfl ?_
  refine c_iconst d_h_seal_11 ?_
  refine cp_h_109_4 (by omega) (hE.i hi0 hi1) d_h_seal_12 rfl ?_
  refine c_aload_n d_h_seal_15 rfl ?_
  refine cg_h_79_4 (hE.i hi0 hi1) d_h_seal_16 rfl ?_
  refine cg_h_113_5 (hE.y (lvl.i hi0 hi1)) d_h_seal_19 rfl ?_
  exact c_iret rfl d_h_seal_22 (opC.good (by unfold cd_seal; (repeat' split) <;> omega) (hE.2.2.2.1.1 i hi0 hi1) rfl (hE.set rfl (fun z => absurd z (by decide))))
theorem t_h_shown {g : xG} {K : hp} {ad : cA} {S : gS} {i f : Int} (hI : Inv S) (hE : Ext S) (hi : R32 i) (hf : R32 f) : cM g y_h_shown k_h_shown M_h_shown K [.ref (ad 0 0), .int (iI i), .int (iI f)] ad S (opR ad S (cd_shown S i f) (vl_shown S i f)) (opX [eIO] ad S (cd_shown S i f)) := by
  refine cM.of rfl (by decide) rfl rfl rfl (by simp [Value.category]) (Nat.le_of_ble_eq_true rfl) rfl ?_
  obtain ⟨hR, hI1, hI2, hI3, hI4, hI5, hI6, hI7⟩ := id hI
  unfold Inv1 at hI1
  have h0 := hE.h
  have hL1 := hE.l (n := 1) (by decide) (by decide)
  have hL2 := hE.l (n := 2) (by decide) (by decide)
  have hL3 := hE.l (n := 3) (by decide) (by decide)
  have hL4 := hE.l (n := 4) (by decide) (by decide)
  have hL5 := hE.l (n := 5) (by decide) (by decide)
  have hO := hE.o
  have hRm := hE.r
  refine c_aload_n d_h_shown_0 rfl ?_
  refine c_iload_n d_h_shown_1 rfl ?_
  refine c_callV (r := (RX6, TX6, 7)) d_h_shown_2 q_h_shown_47 s_h_imageAt v_h_imageAt (t_h_imageAt hI hE hi (fun q => ⟨rfl, rfl, 0, rfl, (by unfold cd_shown; (repeat' split) <;> omega)⟩)) (fun _ z => ⟨_, z.at 0 (by decide) h0⟩) rfl rfl rfl rfl (Nat.le_of_ble_eq_true rfl) rfl rfl rfl (fun _ _ _ z => z) ?_
  rintro _ _ _ ⟨rfl, rfl, rfl, hi0, hi1⟩
  refine c_astore_n d_h_shown_5 (by decide) ?_
  refine c_iload_n d_h_shown_6 rfl ?_
  refine c_callS d_h_shown_7 q_h_shown_67 s_h_requireFile (t_h_requireFile_c hf (fun q => ⟨rfl, rfl, 0, rfl, (by unfold cd_shown; (repeat' split) <;> omega)⟩)) rfl rfl (Nat.le_of_ble_eq_true rfl) rfl rfl rfl (fun _ _ _ z => z) ?_
  rintro _ _ _ ⟨rfl, rfl, rfl, hf0, hf1⟩
  refine c_aload_n d_h_shown_10 rfl ?_
  refine cg_h_79_4 (hE.i hi0 hi1) d_h_shown_11 rfl ?_
  refine c_iload_n d_h_shown_14 rfl ?_
  refine c_callV (r := (RX4, TX4, 4)) d_h_shown_15 q_h_shown_85 s_l_fileSeen v_l_fileSeen (t_l_fileSeen hI hE hI6 hf0 hf1 (lvl.i hi0 hi1)) (fun _ z => ⟨_, z.at 6 (by decide) (hE.y (lvl.i hi0 hi1))⟩) rfl rfl rfl rfl (Nat.le_of_ble_eq_true rfl) rfl rfl rfl (fun _ _ _ z => z) ?_
  rintro _ _ _ ⟨rfl, rfl, rfl⟩
  exact c_iret rfl d_h_shown_18 (opR.good (by unfold cd_shown; (repeat' split) <;> omega) (see6_i S f (by omega)) rfl (hE))
theorem t_h_groupMemory {g : xG} {K : hp} {ad : cA} {S : gS} {a : Int} (hI : Inv S) (hE : Ext S) (ha : R32 a) : cM g y_h_groupMemory k_h_groupMemory M_h_groupMemory K [.ref (ad 0 0), .int (iI a)] ad S (opR ad S (cd_groupMemory S a) (vl_groupMemory S a)) (opX [eIO] ad S (cd_groupMemory S a)) := by
  refine cM.of rfl (by decide) rfl rfl rfl (by simp [Value.category]) (Nat.le_of_ble_eq_true rfl) rfl ?_
  obtain ⟨hR, hI1, hI2, hI3, hI4, hI5, hI6, hI7⟩ := id hI
  unfold Inv1 at hI1
  have h0 := hE.h
  have hL1 := hE.l (n := 1) (by decide) (by decide)
  have hL2 := hE.l (n := 2) (by decide) (by decide)
  have hL3 := hE.l (n := 3) (by decide) (by decide)
  have hL4 := hE.l (n := 4) (by decide) (by decide)
  have hL5 := hE.l (n := 5) (by decide) (by decide)
  have hO := hE.o
  have hRm := hE.r
  refine c_aload_n d_h_groupMemory_0 rfl ?_
  refine c_iload_n d_h_groupMemory_1 rfl ?_
  refine c_callV (r := (RX6, TX6, 7)) d_h_groupMemory_2 q_h_groupMemory_143 s_h_groupAt v_h_groupAt (t_h_groupAt hI hE ha (fun q => ⟨rfl, rfl, 0, rfl, (by unfold cd_groupMemory; (repeat' split) <;> omega)⟩)) (fun _ z => ⟨_, z.at 0 (by decide) h0⟩) rfl rfl rfl rfl (Nat.le_of_ble_eq_true rfl) rfl rfl rfl (fun _ _ _ z => z) ?_
  rintro _ _ _ ⟨rfl, rfl, rfl, ha0, ha1⟩
  refine cg_h_152_3 (hE.p ha0 ha1) d_h_groupMemory_5 rfl ?_
  exact c_iret rfl d_h_groupMemory_8 (opR.good (by unfold cd_groupMemory; (repeat' split) <;> omega) ((hE.2.1 a ha0 ha1).1) rfl (hE))
theorem t_h_groupProcesses {g : xG} {K : hp} {ad : cA} {S : gS} {a : Int} (hI : Inv S) (hE : Ext S) (ha : R32 a) : cM g y_h_groupProcesses k_h_groupProcesses M_h_groupProcesses K [.ref (ad 0 0), .int (iI a)] ad S (opR ad S (cd_groupProcesses S a) (vl_groupProcesses S a)) (opX [eIO] ad S (cd_groupProcesses S a)) := by
  refine cM.of rfl (by decide) rfl rfl rfl (by simp [Value.category]) (Nat.le_of_ble_eq_true rfl) rfl ?_
  obtain ⟨hR, hI1, hI2, hI3, hI4, hI5, hI6, hI7⟩ := id hI
  unfold Inv1 at hI1
  have h0 := hE.h
  have hL1 := hE.l (n := 1) (by decide) (by decide)
  have hL2 := hE.l (n := 2) (by decide) (by decide)
  have hL3 := hE.l (n := 3) (by decide) (by decide)
  have hL4 := hE.l (n := 4) (by decide) (by decide)
  have hL5 := hE.l (n := 5) (by decide) (by decide)
  have hO := hE.o
  have hRm := hE.r
  refine c_aload_n d_h_groupProcesses_0 rfl ?_
  refine c_iload_n d_h_groupProcesses_1 rfl ?_
  refine c_callV (r := (RX6, TX6, 7)) d_h_groupProcesses_2 q_h_groupProcesses_143 s_h_groupAt v_h_groupAt (t_h_groupAt hI hE ha (fun q => ⟨rfl, rfl, 0, rfl, (by unfold cd_groupProcesses; (repeat' split) <;> omega)⟩)) (fun _ z => ⟨_, z.at 0 (by decide) h0⟩) rfl rfl rfl rfl (Nat.le_of_ble_eq_true rfl) rfl rfl rfl (fun _ _ _ z => z) ?_
  rintro _ _ _ ⟨rfl, rfl, rfl, ha0, ha1⟩
  refine cg_h_155_3 (hE.p ha0 ha1) d_h_groupProcesses_5 rfl ?_
  exact c_iret rfl d_h_groupProcesses_8 (opR.good (by unfold cd_groupProcesses; (repeat' split) <;> omega) ((hE.2.1 a ha0 ha1).2) rfl (hE))
theorem t_h_pause {g : xG} {K : hp} {ad : cA} {S : gS} {c : Int} (hI : Inv S) (hE : Ext S) (hc : R32 c) : cM g y_h_pause k_h_pause M_h_pause K [.ref (ad 0 0), .int (iI c)] ad S (opCV (cd_pause S c) (st_pause S c)) (opX [eIO, eIS] ad S (cd_pause S c)) := by
  refine cM.of rfl (by decide) rfl rfl rfl (by simp [Value.category]) (Nat.le_of_ble_eq_true rfl) rfl ?_
  obtain ⟨hR, hI1, hI2, hI3, hI4, hI5, hI6, hI7⟩ := id hI
  unfold Inv1 at hI1
  have h0 := hE.h
  have hL1 := hE.l (n := 1) (by decide) (by decide)
  have hL2 := hE.l (n := 2) (by decide) (by decide)
  have hL3 := hE.l (n := 3) (by decide) (by decide)
  have hL4 := hE.l (n := 4) (by decide) (by decide)
  have hL5 := hE.l (n := 5) (by decide) (by decide)
  have hO := hE.o
  have hRm := hE.r
  refine c_aload_n d_h_pause_0 rfl ?_
  refine c_iload_n d_h_pause_1 rfl ?_
  refine c_callV (r := (RX6, TX6, 7)) d_h_pause_2 q_h_pause_188 s_h_runningAt v_h_runningAt (t_h_runningAt hI hE hc (fun q => ⟨rfl, rfl, 0, rfl, (by unfold cd_pause ist; (repeat' split) <;> omega)⟩) (fun a b q => ⟨rfl, rfl, 1, rfl, (by unfold cd_pause ist; (repeat' split) <;> omega)⟩)) (fun _ z => ⟨_, z.at 0 (by decide) h0⟩) rfl rfl rfl rfl (Nat.le_of_ble_eq_true rfl) rfl rfl rfl (fun _ _ _ z => z) ?_
  rintro _ _ _ ⟨rfl, rfl, rfl, ⟨hc0, hc1⟩, hs0⟩
  refine c_iconst d_h_pause_5 ?_
  refine cp_h_191_2 (hE.k hc0 hc1) d_h_pause_6 rfl ?_
  exact c_vret rfl d_h_pause_9 (opCV.good (by unfold cd_pause ist; (repeat' split) <;> omega) rfl (hE.set rfl (fun z => absurd z (by decide))))
theorem t_h_resume {g : xG} {K : hp} {ad : cA} {S : gS} {c : Int} (hI : Inv S) (hE : Ext S) (hc : R32 c) : cM g y_h_resume k_h_resume M_h_resume K [.ref (ad 0 0), .int (iI c)] ad S (opCV (cd_resume S c) (st_resume S c)) (opX [eIO, eIS] ad S (cd_resume S c)) := by
  refine cM.of rfl (by decide) rfl rfl rfl (by simp [Value.category]) (Nat.le_of_ble_eq_true rfl) rfl ?_
  obtain ⟨hR, hI1, hI2, hI3, hI4, hI5, hI6, hI7⟩ := id hI
  unfold Inv1 at hI1
  have h0 := hE.h
  have hL1 := hE.l (n := 1) (by decide) (by decide)
  have hL2 := hE.l (n := 2) (by decide) (by decide)
  have hL3 := hE.l (n := 3) (by decide) (by decide)
  have hL4 := hE.l (n := 4) (by decide) (by decide)
  have hL5 := hE.l (n := 5) (by decide) (by decide)
  have hO := hE.o
  have hRm := hE.r
  refine c_aload_n d_h_resume_0 rfl ?_
  refine c_iload_n d_h_resume_1 rfl ?_
  refine c_callV (r := (RX6, TX6, 7)) d_h_resume_2 q_h_resume_194 s_h_pausedAt v_h_pausedAt (t_h_pausedAt hI hE hc (fun q => ⟨rfl, rfl, 0, rfl, (by unfold cd_resume ist; (repeat' split) <;> omega)⟩) (fun a b q => ⟨rfl, rfl, 1, rfl, (by unfold cd_resume ist; (repeat' split) <;> omega)⟩)) (fun _ z => ⟨_, z.at 0 (by decide) h0⟩) rfl rfl rfl rfl (Nat.le_of_ble_eq_true rfl) rfl rfl rfl (fun _ _ _ z => z) ?_
  rintro _ _ _ ⟨rfl, rfl, rfl, ⟨hc0, hc1⟩, hs0⟩
  refine c_iconst d_h_resume_5 ?_
  refine cp_h_191_2 (hE.k hc0 hc1) d_h_resume_6 rfl ?_
  exact c_vret rfl d_h_resume_9 (opCV.good (by unfold cd_resume ist; (repeat' split) <;> omega) rfl (hE.set rfl (fun z => absurd z (by decide))))
theorem t_h_stop {g : xG} {K : hp} {ad : cA} {S : gS} {c : Int} (hI : Inv S) (hE : Ext S) (hc : R32 c) : cM g y_h_stop k_h_stop M_h_stop K [.ref (ad 0 0), .int (iI c)] ad S (opC (cd_stop S c) (vl_stop S c) (st_stop S c)) (opX [eIO, eIS] ad S (cd_stop S c)) := by
  refine cM.of rfl (by decide) rfl rfl rfl (by simp [Value.category]) (Nat.le_of_ble_eq_true rfl) rfl ?_
  obtain ⟨hR, hI1, hI2, hI3, hI4, hI5, hI6, hI7⟩ := id hI
  unfold Inv1 at hI1
  have h0 := hE.h
  have hL1 := hE.l (n := 1) (by decide) (by decide)
  have hL2 := hE.l (n := 2) (by decide) (by decide)
  have hL3 := hE.l (n := 3) (by decide) (by decide)
  have hL4 := hE.l (n := 4) (by decide) (by decide)
  have hL5 := hE.l (n := 5) (by decide) (by decide)
  have hO := hE.o
  have hRm := hE.r
  refine c_aload_n d_h_stop_0 rfl ?_
  refine c_iload_n d_h_stop_1 rfl ?_
  refine c_callV (r := (RX6, TX6, 7)) d_h_stop_2 q_h_stop_127 s_h_containerAt v_h_containerAt (t_h_containerAt hI hE hc (fun q => ⟨rfl, rfl, 0, rfl, (by unfold cd_stop; (repeat' split) <;> omega)⟩)) (fun _ z => ⟨_, z.at 0 (by decide) h0⟩) rfl rfl rfl rfl (Nat.le_of_ble_eq_true rfl) rfl rfl rfl (fun _ _ _ z => z) ?_
  rintro _ _ _ ⟨rfl, rfl, rfl, hc0, hc1⟩
  refine c_astore_n d_h_stop_5 (by decide) ?_
  refine c_aload_n d_h_stop_6 rfl ?_
  refine cg_h_191_2 (hE.k hc0 hc1) d_h_stop_7 rfl ?_
  refine c_iconst d_h_stop_10 ?_
  refine c_icmp_ne (tgt := 24) d_h_stop_11 (by decide) (by first | assumption | exact hR _ _ (by decide) | (unfold R32; omega)) (by first | assumption | exact hR _ _ (by decide) | (unfold R32; omega)) (fun z11 => ?_) (fun z11 => ?_)
  · refine c_aload_n d_h_stop_24 rfl ?_
    refine c_aload_n d_h_stop_25 rfl ?_
    refine c_callV (r := (RX6, TX6, 7)) d_h_stop_26 q_h_stop_199 s_h_halt v_h_halt (t_h_halt hI hE hc0 hc1) (fun _ z => ⟨_, z.at 0 (by decide) h0⟩) rfl rfl rfl rfl (Nat.le_of_ble_eq_true rfl) rfl rfl rfl (fun _ _ _ z => z) ?_
    rintro _ _ _ ⟨rfl, rfl, rfl⟩
    exact c_iret rfl d_h_stop_29 (⟨(by unfold cd_stop; (repeat' split) <;> omega), rfl, hlt_agr S c, hlt_ext hI hE hc0 hc1⟩)
  · exact fun h hc => tht_3 rfl sr_197 d_h_stop_14 d_h_stop_17 d_h_stop_18 d_h_stop_20 d_h_stop_23 rfl (by decide) (by decide) (by decide) (by decide) ⟨ad, S, ⟨rfl, rfl, 1, rfl, (by unfold cd_stop; (repeat' split) <;> omega)⟩, hc⟩
theorem t_h_writeFile {g : xG} {K : hp} {ad : cA} {S : gS} {c f v : Int} (hI : Inv S) (hE : Ext S) (hc : R32 c) (hf : R32 f) (hv : R32 v) : cM g y_h_writeFile k_h_writeFile M_h_writeFile K [.ref (ad 0 0), .int (iI c), .int (iI f), .int (iI v)] ad S (opC (cd_writeFile S c f v) (vl_writeFile S c f v) (st_writeFile S c f v)) (opX [eIO, eIA, eIS] ad S (cd_writeFile S c f v)) := by
  refine cM.of rfl (by decide) rfl rfl rfl (by simp [Value.category]) (Nat.le_of_ble_eq_true rfl) rfl ?_
  obtain ⟨hR, hI1, hI2, hI3, hI4, hI5, hI6, hI7⟩ := id hI
  unfold Inv1 at hI1
  have h0 := hE.h
  have hL1 := hE.l (n := 1) (by decide) (by decide)
  have hL2 := hE.l (n := 2) (by decide) (by decide)
  have hL3 := hE.l (n := 3) (by decide) (by decide)
  have hL4 := hE.l (n := 4) (by decide) (by decide)
  have hL5 := hE.l (n := 5) (by decide) (by decide)
  have hO := hE.o
  have hRm := hE.r
  refine c_aload_n d_h_writeFile_0 rfl ?_
  refine c_iload_n d_h_writeFile_1 rfl ?_
  refine c_callV (r := (RX6, TX6, 7)) d_h_writeFile_2 q_h_writeFile_127 s_h_containerAt v_h_containerAt (t_h_containerAt hI hE hc (fun q => ⟨rfl, rfl, 0, rfl, (by have hb01 := bit_01 (S 17 c) 1; unfold cd_writeFile may; (repeat' split) <;> omega)⟩)) (fun _ z => ⟨_, z.at 0 (by decide) h0⟩) rfl rfl rfl rfl (Nat.le_of_ble_eq_true rfl) rfl rfl rfl (fun _ _ _ z => z) ?_
  rintro _ _ _ ⟨rfl, rfl, rfl, hc0, hc1⟩
  refine c_astore d_h_writeFile_5 (by decide) ?_
  refine c_iload_n d_h_writeFile_7 rfl ?_
  refine c_callS d_h_writeFile_8 q_h_writeFile_67 s_h_requireFile (t_h_requireFile_c hf (fun q => ⟨rfl, rfl, 0, rfl, (by have hb01 := bit_01 (S 17 c) 1; unfold cd_writeFile may; (repeat' split) <;> omega)⟩)) rfl rfl (Nat.le_of_ble_eq_true rfl) rfl rfl rfl (fun _ _ _ z => z) ?_
  rintro _ _ _ ⟨rfl, rfl, rfl, hf0, hf1⟩
  refine c_iload_n d_h_writeFile_11 rfl ?_
  refine c_sipush d_h_writeFile_12 (by decide) ?_
  refine c_callS d_h_writeFile_15 q_h_writeFile_71 s_h_requireWithin (t_h_requireWithin_c hv (by unfold R32; omega) (fun q => ⟨rfl, rfl, 1, rfl, (by have hb01 := bit_01 (S 17 c) 1; unfold cd_writeFile may; (repeat' split) <;> omega)⟩)) rfl rfl (Nat.le_of_ble_eq_true rfl) rfl rfl rfl (fun _ _ _ z => z) ?_
  rintro _ _ _ ⟨rfl, rfl, rfl, hw0, hw1⟩
  refine c_aload d_h_writeFile_18 rfl ?_
  refine c_iload_n d_h_writeFile_20 rfl ?_
  refine c_callS d_h_writeFile_21 q_h_writeFile_234 s_h_requireMayChange (t_h_requireMayChange_c (hE.k hc0 hc1) (hR 19 c (by decide)) (hI3 c (Or.inl ⟨hc0, hc1⟩)).2.2.2.2.2.1.1 hf (fun q => ⟨rfl, rfl, 2, rfl, (by have hb01 := bit_01 (S 17 c) 1; unfold cd_writeFile may; (repeat' split) <;> omega)⟩)) rfl rfl (Nat.le_of_ble_eq_true rfl) rfl rfl rfl (fun _ _ _ z => z) ?_
  rintro _ _ _ ⟨rfl, rfl, rfl, hm0, hm1⟩
  refine c_aload d_h_writeFile_24 rfl ?_
  refine cg_h_131_2 (hE.k hc0 hc1) d_h_writeFile_26 rfl ?_
  refine c_iload_n d_h_writeFile_29 rfl ?_
  refine c_callV (r := (RX4, TX4, 4)) d_h_writeFile_30 q_h_writeFile_85 s_l_fileSeen v_l_fileSeen (t_l_fileSeen hI hE hI6 hf0 hf1 (lvl.k hc0 hc1)) (fun _ z => ⟨_, z.at 6 (by decide) (hE.y (lvl.k hc0 hc1))⟩) rfl rfl rfl rfl (Nat.le_of_ble_eq_true rfl) rfl rfl rfl (fun _ _ _ z => z) ?_
  rintro _ _ _ ⟨rfl, rfl, rfl⟩
  refine c_istore d_h_writeFile_33 (by decide) ?_
  refine c_aload d_h_writeFile_35 rfl ?_
  refine cg_h_131_2 (hE.k hc0 hc1) d_h_writeFile_37 rfl ?_
  refine cg_h_89_5 (hE.y (lvl.k hc0 hc1)) d_h_writeFile_40 rfl ?_
  refine c_iload_n d_h_writeFile_43 rfl ?_
  refine c_iload_n d_h_writeFile_44 rfl ?_
  refine c_fast (hE.f (lvl.k hc0 hc1)) d_h_writeFile_45 (by omega) (by omega) ?_
  refine c_iload d_h_writeFile_46 rfl ?_
  exact c_iret rfl d_h_writeFile_48 (opC.good (by have hb01 := bit_01 (S 17 c) 1; unfold cd_writeFile may; (repeat' split) <;> omega) (see6_c S f hc0) rfl (hE.set rfl (fun z => absurd z (by decide))))
theorem t_h_removeFile {g : xG} {K : hp} {ad : cA} {S : gS} {c f : Int} (hI : Inv S) (hE : Ext S) (hc : R32 c) (hf : R32 f) : cM g y_h_removeFile k_h_removeFile M_h_removeFile K [.ref (ad 0 0), .int (iI c), .int (iI f)] ad S (opC (cd_removeFile S c f) (vl_removeFile S c f) (st_removeFile S c f)) (opX [eIO, eIS] ad S (cd_removeFile S c f)) := by
  refine cM.of rfl (by decide) rfl rfl rfl (by simp [Value.category]) (Nat.le_of_ble_eq_true rfl) rfl ?_
  obtain ⟨hR, hI1, hI2, hI3, hI4, hI5, hI6, hI7⟩ := id hI
  unfold Inv1 at hI1
  have h0 := hE.h
  have hL1 := hE.l (n := 1) (by decide) (by decide)
  have hL2 := hE.l (n := 2) (by decide) (by decide)
  have hL3 := hE.l (n := 3) (by decide) (by decide)
  have hL4 := hE.l (n := 4) (by decide) (by decide)
  have hL5 := hE.l (n := 5) (by decide) (by decide)
  have hO := hE.o
  have hRm := hE.r
  refine c_aload_n d_h_removeFile_0 rfl ?_
  refine c_iload_n d_h_removeFile_1 rfl ?_
  refine c_callV (r := (RX6, TX6, 7)) d_h_removeFile_2 q_h_removeFile_127 s_h_containerAt v_h_containerAt (t_h_containerAt hI hE hc (fun q => ⟨rfl, rfl, 0, rfl, (by have hb01 := bit_01 (S 17 c) 1; unfold cd_removeFile may; (repeat' split) <;> omega)⟩)) (fun _ z => ⟨_, z.at 0 (by decide) h0⟩) rfl rfl rfl rfl (Nat.le_of_ble_eq_true rfl) rfl rfl rfl (fun _ _ _ z => z) ?_
  rintro _ _ _ ⟨rfl, rfl, rfl, hc0, hc1⟩
  refine c_astore_n d_h_removeFile_5 (by decide) ?_
  refine c_iload_n d_h_removeFile_6 rfl ?_
  refine c_callS d_h_removeFile_7 q_h_removeFile_67 s_h_requireFile (t_h_requireFile_c hf (fun q => ⟨rfl, rfl, 0, rfl, (by have hb01 := bit_01 (S 17 c) 1; unfold cd_removeFile may; (repeat' split) <;> omega)⟩)) rfl rfl (Nat.le_of_ble_eq_true rfl) rfl rfl rfl (fun _ _ _ z => z) ?_
  rintro _ _ _ ⟨rfl, rfl, rfl, hf0, hf1⟩
  refine c_aload_n d_h_removeFile_10 rfl ?_
  refine c_iload_n d_h_removeFile_11 rfl ?_
  refine c_callS d_h_removeFile_12 q_h_removeFile_234 s_h_requireMayChange (t_h_requireMayChange_c (hE.k hc0 hc1) (hR 19 c (by decide)) (hI3 c (Or.inl ⟨hc0, hc1⟩)).2.2.2.2.2.1.1 hf (fun q => ⟨rfl, rfl, 1, rfl, (by have hb01 := bit_01 (S 17 c) 1; unfold cd_removeFile may; (repeat' split) <;> omega)⟩)) rfl rfl (Nat.le_of_ble_eq_true rfl) rfl rfl rfl (fun _ _ _ z => z) ?_
  rintro _ _ _ ⟨rfl, rfl, rfl, hm0, hm1⟩
  refine c_aload_n d_h_removeFile_15 rfl ?_
  refine cg_h_131_2 (hE.k hc0 hc1) d_h_removeFile_16 rfl ?_
  refine c_iload_n d_h_removeFile_19 rfl ?_
  refine c_callS d_h_removeFile_20 q_h_removeFile_92 s_h_whiteOut (t_h_whiteOut hI hE (lvl.k hc0 hc1) hf0 hf1 (fun q => ⟨rfl, rfl, 1, rfl, (by have hse := see6_c S f hc0; have hb01 := bit_01 (S 17 c) 1; unfold cd_removeFile may; (repeat' split) <;> omega)⟩)) rfl rfl (Nat.le_of_ble_eq_true rfl) rfl rfl rfl (fun _ _ _ z => z) ?_
  rintro _ _ _ ⟨rfl, rfl, rfl, hw0⟩
  exact c_iret rfl d_h_removeFile_23 (opC.good (by have hse := see6_c S f hc0; have hb01 := bit_01 (S 17 c) 1; unfold cd_removeFile may; (repeat' split) <;> omega) (see6_c S f hc0) rfl (hE.set rfl (fun z => absurd z (by decide))))
theorem t_h_fileOf {g : xG} {K : hp} {ad : cA} {S : gS} {c f : Int} (hI : Inv S) (hE : Ext S) (hc : R32 c) (hf : R32 f) : cM g y_h_fileOf k_h_fileOf M_h_fileOf K [.ref (ad 0 0), .int (iI c), .int (iI f)] ad S (opR ad S (cd_fileOf S c f) (vl_fileOf S c f)) (opX [eIO] ad S (cd_fileOf S c f)) := by
  refine cM.of rfl (by decide) rfl rfl rfl (by simp [Value.category]) (Nat.le_of_ble_eq_true rfl) rfl ?_
  obtain ⟨hR, hI1, hI2, hI3, hI4, hI5, hI6, hI7⟩ := id hI
  unfold Inv1 at hI1
  have h0 := hE.h
  have hL1 := hE.l (n := 1) (by decide) (by decide)
  have hL2 := hE.l (n := 2) (by decide) (by decide)
  have hL3 := hE.l (n := 3) (by decide) (by decide)
  have hL4 := hE.l (n := 4) (by decide) (by decide)
  have hL5 := hE.l (n := 5) (by decide) (by decide)
  have hO := hE.o
  have hRm := hE.r
  refine c_aload_n d_h_fileOf_0 rfl ?_
  refine c_iload_n d_h_fileOf_1 rfl ?_
  refine c_callV (r := (RX6, TX6, 7)) d_h_fileOf_2 q_h_fileOf_127 s_h_containerAt v_h_containerAt (t_h_containerAt hI hE hc (fun q => ⟨rfl, rfl, 0, rfl, (by unfold cd_fileOf; (repeat' split) <;> omega)⟩)) (fun _ z => ⟨_, z.at 0 (by decide) h0⟩) rfl rfl rfl rfl (Nat.le_of_ble_eq_true rfl) rfl rfl rfl (fun _ _ _ z => z) ?_
  rintro _ _ _ ⟨rfl, rfl, rfl, hc0, hc1⟩
  refine c_astore_n d_h_fileOf_5 (by decide) ?_
  refine c_iload_n d_h_fileOf_6 rfl ?_
  refine c_callS d_h_fileOf_7 q_h_fileOf_67 s_h_requireFile (t_h_requireFile_c hf (fun q => ⟨rfl, rfl, 0, rfl, (by unfold cd_fileOf; (repeat' split) <;> omega)⟩)) rfl rfl (Nat.le_of_ble_eq_true rfl) rfl rfl rfl (fun _ _ _ z => z) ?_
  rintro _ _ _ ⟨rfl, rfl, rfl, hf0, hf1⟩
  refine c_aload_n d_h_fileOf_10 rfl ?_
  refine cg_h_131_2 (hE.k hc0 hc1) d_h_fileOf_11 rfl ?_
  refine c_iload_n d_h_fileOf_14 rfl ?_
  refine c_callV (r := (RX4, TX4, 4)) d_h_fileOf_15 q_h_fileOf_85 s_l_fileSeen v_l_fileSeen (t_l_fileSeen hI hE hI6 hf0 hf1 (lvl.k hc0 hc1)) (fun _ z => ⟨_, z.at 6 (by decide) (hE.y (lvl.k hc0 hc1))⟩) rfl rfl rfl rfl (Nat.le_of_ble_eq_true rfl) rfl rfl rfl (fun _ _ _ z => z) ?_
  rintro _ _ _ ⟨rfl, rfl, rfl⟩
  exact c_iret rfl d_h_fileOf_18 (opR.good (by unfold cd_fileOf; (repeat' split) <;> omega) (see6_c S f hc0) rfl (hE))
theorem t_h_stateOf {g : xG} {K : hp} {ad : cA} {S : gS} {c : Int} (hI : Inv S) (hE : Ext S) (hc : R32 c) : cM g y_h_stateOf k_h_stateOf M_h_stateOf K [.ref (ad 0 0), .int (iI c)] ad S (opR ad S (cd_stateOf S c) (vl_stateOf S c)) (opX [eIO] ad S (cd_stateOf S c)) := by
  refine cM.of rfl (by decide) rfl rfl rfl (by simp [Value.category]) (Nat.le_of_ble_eq_true rfl) rfl ?_
  obtain ⟨hR, hI1, hI2, hI3, hI4, hI5, hI6, hI7⟩ := id hI
  unfold Inv1 at hI1
  have h0 := hE.h
  have hL1 := hE.l (n := 1) (by decide) (by decide)
  have hL2 := hE.l (n := 2) (by decide) (by decide)
  have hL3 := hE.l (n := 3) (by decide) (by decide)
  have hL4 := hE.l (n := 4) (by decide) (by decide)
  have hL5 := hE.l (n := 5) (by decide) (by decide)
  have hO := hE.o
  have hRm := hE.r
  refine c_aload_n d_h_stateOf_0 rfl ?_
  refine c_iload_n d_h_stateOf_1 rfl ?_
  refine c_callV (r := (RX6, TX6, 7)) d_h_stateOf_2 q_h_stateOf_127 s_h_containerAt v_h_containerAt (t_h_containerAt hI hE hc (fun q => ⟨rfl, rfl, 0, rfl, (by unfold cd_stateOf; (repeat' split) <;> omega)⟩)) (fun _ z => ⟨_, z.at 0 (by decide) h0⟩) rfl rfl rfl rfl (Nat.le_of_ble_eq_true rfl) rfl rfl rfl (fun _ _ _ z => z) ?_
  rintro _ _ _ ⟨rfl, rfl, rfl, hc0, hc1⟩
  refine cg_h_191_2 (hE.k hc0 hc1) d_h_stateOf_5 rfl ?_
  exact c_iret rfl d_h_stateOf_8 (opR.good (by unfold cd_stateOf; (repeat' split) <;> omega) (rfl) rfl (hE))
theorem t_h_memoryOf {g : xG} {K : hp} {ad : cA} {S : gS} {c : Int} (hI : Inv S) (hE : Ext S) (hc : R32 c) : cM g y_h_memoryOf k_h_memoryOf M_h_memoryOf K [.ref (ad 0 0), .int (iI c)] ad S (opR ad S (cd_memoryOf S c) (vl_memoryOf S c)) (opX [eIO] ad S (cd_memoryOf S c)) := by
  refine cM.of rfl (by decide) rfl rfl rfl (by simp [Value.category]) (Nat.le_of_ble_eq_true rfl) rfl ?_
  obtain ⟨hR, hI1, hI2, hI3, hI4, hI5, hI6, hI7⟩ := id hI
  unfold Inv1 at hI1
  have h0 := hE.h
  have hL1 := hE.l (n := 1) (by decide) (by decide)
  have hL2 := hE.l (n := 2) (by decide) (by decide)
  have hL3 := hE.l (n := 3) (by decide) (by decide)
  have hL4 := hE.l (n := 4) (by decide) (by decide)
  have hL5 := hE.l (n := 5) (by decide) (by decide)
  have hO := hE.o
  have hRm := hE.r
  refine c_aload_n d_h_memoryOf_0 rfl ?_
  refine c_iload_n d_h_memoryOf_1 rfl ?_
  refine c_callV (r := (RX6, TX6, 7)) d_h_memoryOf_2 q_h_memoryOf_127 s_h_containerAt v_h_containerAt (t_h_containerAt hI hE hc (fun q => ⟨rfl, rfl, 0, rfl, (by unfold cd_memoryOf; (repeat' split) <;> omega)⟩)) (fun _ z => ⟨_, z.at 0 (by decide) h0⟩) rfl rfl rfl rfl (Nat.le_of_ble_eq_true rfl) rfl rfl rfl (fun _ _ _ z => z) ?_
  rintro _ _ _ ⟨rfl, rfl, rfl, hc0, hc1⟩
  refine cg_h_211_2 (hE.k hc0 hc1) d_h_memoryOf_5 rfl ?_
  exact c_iret rfl d_h_memoryOf_8 (opR.good (by unfold cd_memoryOf; (repeat' split) <;> omega) (rfl) rfl (hE))
theorem t_h_timeOf {g : xG} {K : hp} {ad : cA} {S : gS} {c : Int} (hI : Inv S) (hE : Ext S) (hc : R32 c) : cM g y_h_timeOf k_h_timeOf M_h_timeOf K [.ref (ad 0 0), .int (iI c)] ad S (opR ad S (cd_timeOf S c) (vl_timeOf S c)) (opX [eIO] ad S (cd_timeOf S c)) := by
  refine cM.of rfl (by decide) rfl rfl rfl (by simp [Value.category]) (Nat.le_of_ble_eq_true rfl) rfl ?_
  obtain ⟨hR, hI1, hI2, hI3, hI4, hI5, hI6, hI7⟩ := id hI
  unfold Inv1 at hI1
  have h0 := hE.h
  have hL1 := hE.l (n := 1) (by decide) (by decide)
  have hL2 := hE.l (n := 2) (by decide) (by decide)
  have hL3 := hE.l (n := 3) (by decide) (by decide)
  have hL4 := hE.l (n := 4) (by decide) (by decide)
  have hL5 := hE.l (n := 5) (by decide) (by decide)
  have hO := hE.o
  have hRm := hE.r
  refine c_aload_n d_h_timeOf_0 rfl ?_
  refine c_iload_n d_h_timeOf_1 rfl ?_
  refine c_callV (r := (RX6, TX6, 7)) d_h_timeOf_2 q_h_timeOf_127 s_h_containerAt v_h_containerAt (t_h_containerAt hI hE hc (fun q => ⟨rfl, rfl, 0, rfl, (by unfold cd_timeOf; (repeat' split) <;> omega)⟩)) (fun _ z => ⟨_, z.at 0 (by decide) h0⟩) rfl rfl rfl rfl (Nat.le_of_ble_eq_true rfl) rfl rfl rfl (fun _ _ _ z => z) ?_
  rintro _ _ _ ⟨rfl, rfl, rfl, hc0, hc1⟩
  refine cg_h_322_2 (hE.k hc0 hc1) d_h_timeOf_5 rfl ?_
  exact c_iret rfl d_h_timeOf_8 (opR.good (by unfold cd_timeOf; (repeat' split) <;> omega) (rfl) rfl (hE))
theorem t_h_capabilitiesOf {g : xG} {K : hp} {ad : cA} {S : gS} {c : Int} (hI : Inv S) (hE : Ext S) (hc : R32 c) : cM g y_h_capabilitiesOf k_h_capabilitiesOf M_h_capabilitiesOf K [.ref (ad 0 0), .int (iI c)] ad S (opR ad S (cd_capabilitiesOf S c) (vl_capabilitiesOf S c)) (opX [eIO] ad S (cd_capabilitiesOf S c)) := by
  refine cM.of rfl (by decide) rfl rfl rfl (by simp [Value.category]) (Nat.le_of_ble_eq_true rfl) rfl ?_
  obtain ⟨hR, hI1, hI2, hI3, hI4, hI5, hI6, hI7⟩ := id hI
  unfold Inv1 at hI1
  have h0 := hE.h
  have hL1 := hE.l (n := 1) (by decide) (by decide)
  have hL2 := hE.l (n := 2) (by decide) (by decide)
  have hL3 := hE.l (n := 3) (by decide) (by decide)
  have hL4 := hE.l (n := 4) (by decide) (by decide)
  have hL5 := hE.l (n := 5) (by decide) (by decide)
  have hO := hE.o
  have hRm := hE.r
  refine c_aload_n d_h_capabilitiesOf_0 rfl ?_
  refine c_iload_n d_h_capabilitiesOf_1 rfl ?_
  refine c_callV (r := (RX6, TX6, 7)) d_h_capabilitiesOf_2 q_h_capabilitiesOf_127 s_h_containerAt v_h_containerAt (t_h_containerAt hI hE hc (fun q => ⟨rfl, rfl, 0, rfl, (by unfold cd_capabilitiesOf; (repeat' split) <;> omega)⟩)) (fun _ z => ⟨_, z.at 0 (by decide) h0⟩) rfl rfl rfl rfl (Nat.le_of_ble_eq_true rfl) rfl rfl rfl (fun _ _ _ z => z) ?_
  rintro _ _ _ ⟨rfl, rfl, rfl, hc0, hc1⟩
  refine c_astore_n d_h_capabilitiesOf_5 (by decide) ?_
  refine c_bipush d_h_capabilitiesOf_6 (by decide) ?_
  refine c_aload_n d_h_capabilitiesOf_8 rfl ?_
  refine cg_h_176_2 (hE.k hc0 hc1) d_h_capabilitiesOf_9 rfl ?_
  refine c_imul d_h_capabilitiesOf_12 ?_
  refine c_aload_n d_h_capabilitiesOf_13 rfl ?_
  refine cg_h_179_2 (hE.k hc0 hc1) d_h_capabilitiesOf_14 rfl ?_
  refine c_iadd d_h_capabilitiesOf_17 ?_
  exact c_iret rfl d_h_capabilitiesOf_18 (opR.good (by unfold cd_capabilitiesOf; (repeat' split) <;> omega) (rfl) rfl (hE))
theorem t_h_addressOf {g : xG} {K : hp} {ad : cA} {S : gS} {c : Int} (hI : Inv S) (hE : Ext S) (hc : R32 c) : cM g y_h_addressOf k_h_addressOf M_h_addressOf K [.ref (ad 0 0), .int (iI c)] ad S (opR ad S (cd_addressOf S c) (vl_addressOf S c)) (opX [eIO] ad S (cd_addressOf S c)) := by
  refine cM.of rfl (by decide) rfl rfl rfl (by simp [Value.category]) (Nat.le_of_ble_eq_true rfl) rfl ?_
  obtain ⟨hR, hI1, hI2, hI3, hI4, hI5, hI6, hI7⟩ := id hI
  unfold Inv1 at hI1
  have h0 := hE.h
  have hL1 := hE.l (n := 1) (by decide) (by decide)
  have hL2 := hE.l (n := 2) (by decide) (by decide)
  have hL3 := hE.l (n := 3) (by decide) (by decide)
  have hL4 := hE.l (n := 4) (by decide) (by decide)
  have hL5 := hE.l (n := 5) (by decide) (by decide)
  have hO := hE.o
  have hRm := hE.r
  refine c_aload_n d_h_addressOf_0 rfl ?_
  refine c_iload_n d_h_addressOf_1 rfl ?_
  refine c_callV (r := (RX6, TX6, 7)) d_h_addressOf_2 q_h_addressOf_127 s_h_containerAt v_h_containerAt (t_h_containerAt hI hE hc (fun q => ⟨rfl, rfl, 0, rfl, (by unfold cd_addressOf; (repeat' split) <;> omega)⟩)) (fun _ z => ⟨_, z.at 0 (by decide) h0⟩) rfl rfl rfl rfl (Nat.le_of_ble_eq_true rfl) rfl rfl rfl (fun _ _ _ z => z) ?_
  rintro _ _ _ ⟨rfl, rfl, rfl, hc0, hc1⟩
  have hb := hE.2.2.1 c hc0 hc1
  refine c_astore_n d_h_addressOf_5 (by decide) ?_
  refine c_aload_n d_h_addressOf_6 rfl ?_
  refine cg_h_260_2 (hE.k hc0 hc1) d_h_addressOf_7 rfl ?_
  refine c_iconst d_h_addressOf_10 ?_
  refine c_icmp_ne (tgt := 18) d_h_addressOf_11 (by decide) (by first | assumption | exact hR _ _ (by decide) | (unfold R32; omega)) (by first | assumption | exact hR _ _ (by decide) | (unfold R32; omega)) (fun z11 => ?_) (fun z11 => ?_)
  · refine c_bipush d_h_addressOf_18 (by decide) ?_
    refine c_aload_n d_h_addressOf_20 rfl ?_
    refine cg_h_260_2 (hE.k hc0 hc1) d_h_addressOf_21 rfl ?_
    refine c_imul d_h_addressOf_24 ?_
    refine c_aload_n d_h_addressOf_25 rfl ?_
    refine cg_h_265_2 (hE.k hc0 hc1) d_h_addressOf_26 rfl ?_
    refine c_iadd d_h_addressOf_29 ?_
    exact c_iret rfl d_h_addressOf_30 (opR.good (by unfold cd_addressOf; (repeat' split) <;> omega) (by unfold vl_addressOf; omega) rfl (hE))
  · refine c_iconst d_h_addressOf_14 ?_
    refine c_goto (tgt := 30) d_h_addressOf_15 (by decide) ?_
    exact c_iret rfl d_h_addressOf_30 (opR.good (by unfold cd_addressOf; (repeat' split) <;> omega) (by unfold vl_addressOf; omega) rfl (hE))
