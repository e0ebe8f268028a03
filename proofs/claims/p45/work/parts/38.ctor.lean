theorem w69o : Cond.methodLink "ContainerHost$Part" 1 Lib.objectInit ∈ lw_tbl := mt (i := 68) (by decide +kernel)
theorem w319o : Cond.methodLink "ContainerHost$Layer" 3 Lib.objectInit ∈ lw_tbl := mt (i := 391) (by decide +kernel)
theorem w343o : Cond.methodLink "ContainerHost$Image" 1 Lib.objectInit ∈ lw_tbl := mt (i := 415) (by decide +kernel)
theorem t_p_init2 {g : xG} {h : hp} {QX : qE} {x : Nat} {s : Int} {v0 v1 v2 v3 v4 v5 v6 v7 v8 v9 v10 v11 v12 : Value} (hx : h x = some (.inr (2, [v0, v1, v2, v3, v4, v5, v6, v7, v8, v9, v10, v11, v12]))) : xM g y_p_init k_p_init M_p_init [.ref x, .int (iI s)] h (fun v h9 => v = none ∧ h9 = hset h x (.inr (2, [.int (iI s), v1, v2, v3, v4, v5, v6, v7, v8, v9, v10, v11, v12]))) QX := by
  refine xM.of rfl (by decide) rfl rfl rfl (by simp [Value.category]) (Nat.le_of_ble_eq_true rfl) rfl ?_
  refine x_aload_n d_p_init_0 rfl ?_
  refine x_objInit d_p_init_1 w69o wOI1 wOI2 (by decide) (by decide) (Nat.le_of_ble_eq_true rfl) ?_
  refine x_aload_n d_p_init_4 rfl ?_
  refine x_iload_n d_p_init_5 rfl ?_
  refine fp_p_7_2 d_p_init_6 rfl rfl hx (Nat.le_of_ble_eq_true rfl) ?_
  exact x_vret rfl d_p_init_9 (⟨rfl, rfl⟩)
theorem t_p_init3 {g : xG} {h : hp} {QX : qE} {x : Nat} {s : Int} {v0 v1 v2 v3 v4 v5 v6 : Value} (hx : h x = some (.inr (3, [v0, v1, v2, v3, v4, v5, v6]))) : xM g y_p_init k_p_init M_p_init [.ref x, .int (iI s)] h (fun v h9 => v = none ∧ h9 = hset h x (.inr (3, [.int (iI s), v1, v2, v3, v4, v5, v6]))) QX := by
  refine xM.of rfl (by decide) rfl rfl rfl (by simp [Value.category]) (Nat.le_of_ble_eq_true rfl) rfl ?_
  refine x_aload_n d_p_init_0 rfl ?_
  refine x_objInit d_p_init_1 w69o wOI1 wOI2 (by decide) (by decide) (Nat.le_of_ble_eq_true rfl) ?_
  refine x_aload_n d_p_init_4 rfl ?_
  refine x_iload_n d_p_init_5 rfl ?_
  refine fp_p_7_3 d_p_init_6 rfl rfl hx (Nat.le_of_ble_eq_true rfl) ?_
  exact x_vret rfl d_p_init_9 (⟨rfl, rfl⟩)
theorem t_g_init {g : xG} {h : hp} {QX : qE} {x pr : Nat} {a b s : Int} (hx : h x = some (.inr (3, [.int (iI 0), .null, .int (iI 0), .int (iI 0), .int (iI 0), .int (iI 0), .int (iI 0)]))) : xM g y_g_init k_g_init M_g_init [.ref x, .ref pr, .int (iI a), .int (iI b), .int (iI s)] h (fun v h9 => v = none ∧ h9 = hset h x (.inr (3, [.int (iI s), .ref pr, .int (iI a), .int (iI b), .int (iI 0), .int (iI 0), .int (iI 0)]))) QX := by
  refine xM.of rfl (by decide) rfl rfl rfl (by simp [Value.category]) (Nat.le_of_ble_eq_true rfl) rfl ?_
  refine x_aload_n d_g_init_0 rfl ?_
  refine x_iload d_g_init_1 rfl ?_
  refine x_callI d_g_init_3 rfl q_g_init_1 s_p_init rfl (t_p_init3 hx) rfl rfl (Nat.le_of_ble_eq_true rfl) rfl rfl rfl (fun _ _ hx9 => hx9) ?_
  rintro _ _ ⟨rfl, rfl⟩
  refine x_aload_n d_g_init_6 rfl ?_
  refine x_aload_n d_g_init_7 rfl ?_
  refine fp_g_7_3 (Or.inr ⟨_, rfl⟩) d_g_init_8 rfl rfl (hset_s _ _ _) (Nat.le_of_ble_eq_true rfl) ?_
  refine x_aload_n d_g_init_11 rfl ?_
  refine x_iload_n d_g_init_12 rfl ?_
  refine fp_g_13_3 d_g_init_13 rfl rfl (hset_s _ _ _) (Nat.le_of_ble_eq_true rfl) ?_
  refine x_aload_n d_g_init_16 rfl ?_
  refine x_iload_n d_g_init_17 rfl ?_
  refine fp_g_17_3 d_g_init_18 rfl rfl (hset_s _ _ _) (Nat.le_of_ble_eq_true rfl) ?_
  exact x_vret rfl d_g_init_21 (⟨rfl, by simp only [hset_hset]; rfl⟩)
theorem t_g_initN {g : xG} {h : hp} {QX : qE} {x : Nat} {a b s : Int} (hx : h x = some (.inr (3, [.int (iI 0), .null, .int (iI 0), .int (iI 0), .int (iI 0), .int (iI 0), .int (iI 0)]))) : xM g y_g_init k_g_init M_g_init [.ref x, .null, .int (iI a), .int (iI b), .int (iI s)] h (fun v h9 => v = none ∧ h9 = hset h x (.inr (3, [.int (iI s), .null, .int (iI a), .int (iI b), .int (iI 0), .int (iI 0), .int (iI 0)]))) QX := by
  refine xM.of rfl (by decide) rfl rfl rfl (by simp [Value.category]) (Nat.le_of_ble_eq_true rfl) rfl ?_
  refine x_aload_n d_g_init_0 rfl ?_
  refine x_iload d_g_init_1 rfl ?_
  refine x_callI d_g_init_3 rfl q_g_init_1 s_p_init rfl (t_p_init3 hx) rfl rfl (Nat.le_of_ble_eq_true rfl) rfl rfl rfl (fun _ _ hx9 => hx9) ?_
  rintro _ _ ⟨rfl, rfl⟩
  refine x_aload_n d_g_init_6 rfl ?_
  refine x_aload_nN d_g_init_7 rfl ?_
  refine fp_g_7_3 (Or.inl rfl) d_g_init_8 rfl rfl (hset_s _ _ _) (Nat.le_of_ble_eq_true rfl) ?_
  refine x_aload_n d_g_init_11 rfl ?_
  refine x_iload_n d_g_init_12 rfl ?_
  refine fp_g_13_3 d_g_init_13 rfl rfl (hset_s _ _ _) (Nat.le_of_ble_eq_true rfl) ?_
  refine x_aload_n d_g_init_16 rfl ?_
  refine x_iload_n d_g_init_17 rfl ?_
  refine fp_g_17_3 d_g_init_18 rfl rfl (hset_s _ _ _) (Nat.le_of_ble_eq_true rfl) ?_
  exact x_vret rfl d_g_init_21 (⟨rfl, by simp only [hset_hset]; rfl⟩)
theorem t_i_init {g : xG} {h : hp} {QX : qE} {x t : Nat} {b : Int} (hb : b = 0 ∨ b = 1) (hx : h x = some (.inr (4, [.null, .int (iI 0)]))) : xM g y_i_init k_i_init M_i_init [.ref x, .ref t, .int (iI b)] h (fun v h9 => v = none ∧ h9 = hset h x (.inr (4, [.ref t, .int (iI b)]))) QX := by
  refine xM.of rfl (by decide) rfl rfl rfl (by simp [Value.category]) (Nat.le_of_ble_eq_true rfl) rfl ?_
  refine x_aload_n d_i_init_0 rfl ?_
  refine x_objInit d_i_init_1 w343o wOI1 wOI2 (by decide) (by decide) (Nat.le_of_ble_eq_true rfl) ?_
  refine x_aload_n d_i_init_4 rfl ?_
  refine x_aload_n d_i_init_5 rfl ?_
  refine fp_i_7_4 (Or.inr ⟨_, rfl⟩) d_i_init_6 rfl rfl hx (Nat.le_of_ble_eq_true rfl) ?_
  refine x_aload_n d_i_init_9 rfl ?_
  refine x_iload_n d_i_init_10 rfl ?_
  refine fp_i_13_4 (by omega) d_i_init_11 rfl (hset_s _ _ _) (Nat.le_of_ble_eq_true rfl) ?_
  exact x_vret rfl d_i_init_14 (⟨rfl, by simp only [hset_hset]; rfl⟩)
theorem t_c_init {g : xG} {h : hp} {QX : qE} {x gr ow : Nat} {n s : Int} (hx : h x = some (.inr (2, [.int (iI 0), .int (iI 0), .null, .null, .int (iI 0), .int (iI 0), .int (iI 0), .int (iI 0), .int (iI 0), .int (iI 0), .int (iI 0), .int (iI 0), .int (iI 0)]))) : xM g y_c_init k_c_init M_c_init [.ref x, .int (iI n), .ref gr, .ref ow, .int (iI s)] h (fun v h9 => v = none ∧ h9 = hset h x (.inr (2, [.int (iI s), .int (iI n), .ref gr, .ref ow, .int (iI 0), .int (iI 0), .int (iI 0), .int (iI 0), .int (iI 0), .int (iI 0), .int (iI 0), .int (iI (-1)), .int (iI (-1))]))) QX := by
  refine xM.of rfl (by decide) rfl rfl rfl (by simp [Value.category]) (Nat.le_of_ble_eq_true rfl) rfl ?_
  refine x_aload_n d_c_init_0 rfl ?_
  refine x_iload d_c_init_1 rfl ?_
  refine x_callI d_c_init_3 rfl q_c_init_3 s_p_init rfl (t_p_init2 hx) rfl rfl (Nat.le_of_ble_eq_true rfl) rfl rfl rfl (fun _ _ hx9 => hx9) ?_
  rintro _ _ ⟨rfl, rfl⟩
  refine x_aload_n d_c_init_6 rfl ?_
  refine x_iconst d_c_init_7 ?_
  refine fp_c_9_2 d_c_init_8 rfl (hset_s _ _ _) (Nat.le_of_ble_eq_true rfl) ?_
  refine x_aload_n d_c_init_11 rfl ?_
  refine x_iconst d_c_init_12 ?_
  refine fp_c_15_2 d_c_init_13 rfl (hset_s _ _ _) (Nat.le_of_ble_eq_true rfl) ?_
  refine x_aload_n d_c_init_16 rfl ?_
  refine x_iconst d_c_init_17 ?_
  refine fp_c_18_2 d_c_init_18 rfl (hset_s _ _ _) (Nat.le_of_ble_eq_true rfl) ?_
  refine x_aload_n d_c_init_21 rfl ?_
  refine x_iload_n d_c_init_22 rfl ?_
  refine fp_c_21_2 d_c_init_23 rfl rfl (hset_s _ _ _) (Nat.le_of_ble_eq_true rfl) ?_
  refine x_aload_n d_c_init_26 rfl ?_
  refine x_aload_n d_c_init_27 rfl ?_
  refine fp_c_24_2 (Or.inr ⟨_, rfl⟩) d_c_init_28 rfl rfl (hset_s _ _ _) (Nat.le_of_ble_eq_true rfl) ?_
  refine x_aload_n d_c_init_31 rfl ?_
  refine x_aload_n d_c_init_32 rfl ?_
  refine fp_c_28_2 (Or.inr ⟨_, rfl⟩) d_c_init_33 rfl rfl (hset_s _ _ _) (Nat.le_of_ble_eq_true rfl) ?_
  exact x_vret rfl d_c_init_36 (⟨rfl, by simp only [hset_hset]; rfl⟩)
theorem t_l_init {g : xG} {h : hp} {QX : qE} {x b : Nat} {ht : Int} {f0 f2 f3 : Value} (hx : h x = some (.inr (5, [.null, .int (iI 0), .null, .int (iI 0)]))) (hb : h b = some (.inr (5, [f0, .int (iI ht), f2, f3]))) (hbx : b ≠ x) : xM g y_l_init k_l_init M_l_init [.ref x, .ref b] h (fun v h9 => v = none ∧ ∃ q, h q = none ∧ h9 = hset (hset h q (iarr g 32 (fun _ => 0))) x (.inr (5, [.ref b, .int (iI (ht + 1)), .ref q, .int (iI 0)]))) QX := by
  refine xM.of rfl (by decide) rfl rfl rfl (by simp [Value.category]) (Nat.le_of_ble_eq_true rfl) rfl ?_
  refine x_aload_n d_l_init_0 rfl ?_
  refine x_objInit d_l_init_1 w319o wOI1 wOI2 (by decide) (by decide) (Nat.le_of_ble_eq_true rfl) ?_
  refine x_aload_n d_l_init_4 rfl ?_
  refine x_bipush d_l_init_5 (by decide) ?_
  refine x_newarr (at0 := .int) (ty := .int) (t := 0) (N' := 32) (rc' := 0) (rs' := 8) (a0 := (32, .inl (fun _ => iI 0))) rfl rfl (fun _ z => by cases z) wI (fun _ => rfl) rfl (by decide) (by decide) rfl rfl d_l_init_7 (fun q hq => ?_)
  have hxq : x ≠ q := fun e => by rw [← e, hx] at hq; cases hq
  have hbq : b ≠ q := fun e => by rw [← e, hb] at hq; cases hq
  refine fp_l_9_5 (Or.inr ⟨_, rfl⟩) d_l_init_9 rfl rfl ((hset_n _ _ hxq).trans hx) (Nat.le_of_ble_eq_true rfl) ?_
  refine x_aload_n d_l_init_12 rfl ?_
  refine x_aload_n d_l_init_13 rfl ?_
  refine fp_l_15_5 (Or.inr ⟨_, rfl⟩) d_l_init_14 rfl rfl (hset_s _ _ _) (Nat.le_of_ble_eq_true rfl) ?_
  refine x_aload_n d_l_init_17 rfl ?_
  refine x_aload_n d_l_init_18 rfl ?_
  refine x_ifnonnull (tgt := 26) d_l_init_19 (by decide) ?_
  refine x_aload_n d_l_init_26 rfl ?_
  refine fg_l_19_5 d_l_init_27 rfl ((hset_n _ _ hbx).trans ((hset_n _ _ hbx).trans ((hset_n _ _ hbq).trans hb))) rfl ?_
  refine x_iconst d_l_init_30 ?_
  refine x_iadd d_l_init_31 ?_
  refine fp_l_19_5 d_l_init_32 rfl rfl (hset_s _ _ _) (Nat.le_of_ble_eq_true rfl) ?_
  exact x_vret rfl d_l_init_35 (⟨rfl, q, hq, by simp only [hset_hset]; rfl⟩)
theorem t_l_initN {g : xG} {h : hp} {QX : qE} {x : Nat} (hx : h x = some (.inr (5, [.null, .int (iI 0), .null, .int (iI 0)]))) : xM g y_l_init k_l_init M_l_init [.ref x, .null] h (fun v h9 => v = none ∧ ∃ q, h q = none ∧ h9 = hset (hset h q (iarr g 32 (fun _ => 0))) x (.inr (5, [.null, .int (iI (1)), .ref q, .int (iI 0)]))) QX := by
  refine xM.of rfl (by decide) rfl rfl rfl (by simp [Value.category]) (Nat.le_of_ble_eq_true rfl) rfl ?_
  refine x_aload_n d_l_init_0 rfl ?_
  refine x_objInit d_l_init_1 w319o wOI1 wOI2 (by decide) (by decide) (Nat.le_of_ble_eq_true rfl) ?_
  refine x_aload_n d_l_init_4 rfl ?_
  refine x_bipush d_l_init_5 (by decide) ?_
  refine x_newarr (at0 := .int) (ty := .int) (t := 0) (N' := 32) (rc' := 0) (rs' := 8) (a0 := (32, .inl (fun _ => iI 0))) rfl rfl (fun _ z => by cases z) wI (fun _ => rfl) rfl (by decide) (by decide) rfl rfl d_l_init_7 (fun q hq => ?_)
  have hxq : x ≠ q := fun e => by rw [← e, hx] at hq; cases hq
  refine fp_l_9_5 (Or.inr ⟨_, rfl⟩) d_l_init_9 rfl rfl ((hset_n _ _ hxq).trans hx) (Nat.le_of_ble_eq_true rfl) ?_
  refine x_aload_n d_l_init_12 rfl ?_
  refine x_aload_nN d_l_init_13 rfl ?_
  refine fp_l_15_5 (Or.inl rfl) d_l_init_14 rfl rfl (hset_s _ _ _) (Nat.le_of_ble_eq_true rfl) ?_
  refine x_aload_n d_l_init_17 rfl ?_
  refine x_aload_nN d_l_init_18 rfl ?_
  refine x_ifnonnullN d_l_init_19 ?_
  refine x_iconst d_l_init_22 ?_
  refine x_goto (tgt := 32) d_l_init_23 (by decide) ?_
  refine fp_l_19_5 d_l_init_32 rfl rfl (hset_s _ _ _) (Nat.le_of_ble_eq_true rfl) ?_
  exact x_vret rfl d_l_init_35 (⟨rfl, q, hq, by simp only [hset_hset]; rfl⟩)
