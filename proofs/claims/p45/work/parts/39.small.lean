theorem pw31 : ∀ n : Nat, n < 31 → 1 ≤ (2 : Int) ^ n ∧ (2 : Int) ^ n ≤ 1073741824 := by decide +kernel
theorem bitz {a k : Int} (h0 : 0 ≤ k) (h1 : k < 31) : R32 (bit a k * 2 ^ k.toNat) ∧ (bit a k * 2 ^ k.toNat = 0 ↔ bit a k = 0) := by
  have hp := pw31 k.toNat (by omega)
  rcases bit_01 a k with e | e
  · rw [e, Int.zero_mul]
    exact ⟨by unfold R32; omega, by omega⟩
  · rw [e, Int.one_mul]
    exact ⟨by unfold R32; omega, by omega⟩
theorem t_l_hidesBelow {g : xG} {h : hp} {QX : qE} {x fl : Nat} {op f : Int} {v0 v1 : Value} (hx : h x = some (.inr (5, [v0, v1, .ref fl, .int (iI op)]))) (hop : 0 ≤ op) (h0 : 0 ≤ f) (h1 : f < 32) : xM g y_l_hidesBelow k_l_hidesBelow M_l_hidesBelow [.ref x, .int (iI f)] h (fun v h9 => v = some (.int (iI (bit op (f / 4)))) ∧ h = h9) QX := by
  refine xM.of rfl (by decide) rfl rfl rfl (by simp [Value.category]) (Nat.le_of_ble_eq_true rfl) rfl ?_
  refine x_aload_n d_l_hidesBelow_0 rfl ?_
  refine fg_l_32_5 d_l_hidesBelow_1 rfl hx rfl ?_
  refine x_iconst d_l_hidesBelow_4 ?_
  refine x_iload_n d_l_hidesBelow_5 rfl ?_
  refine x_iconst d_l_hidesBelow_6 ?_
  refine x_idivI d_l_hidesBelow_7 (by omega) (by first | exact hz.1 | (unfold R32; omega)) (by decide) (by first | exact hz.1 | (unfold R32; omega)) ?_
  refine x_ishl1 d_l_hidesBelow_8 (by omega) (by omega) ?_
  refine x_iandk d_l_hidesBelow_9 hop ?_
  have hz := bitz (a := op) (k := f / 4) (by omega) (by omega)
  have hbb := bit_01 op (f / 4)
  refine x_if_eq (tgt := 17) d_l_hidesBelow_10 (by decide) (by first | exact hz.1 | (unfold R32; omega)) (fun z10 => ?_) (fun z10 => ?_)
  · refine x_iconst d_l_hidesBelow_17 ?_
    exact x_zret rfl (by omega) d_l_hidesBelow_18 (⟨congrArg (fun z => some (Value.int (iI z))) (by first | (have := hz.2.mp z10; omega) | (have h2 : ¬ bit op (f / 4) = 0 := fun q => z10 (hz.2.mpr q); omega)), rfl⟩)
  · refine x_iconst d_l_hidesBelow_13 ?_
    refine x_goto (tgt := 18) d_l_hidesBelow_14 (by decide) ?_
    exact x_zret rfl (by omega) d_l_hidesBelow_18 (⟨congrArg (fun z => some (Value.int (iI z))) (by first | (have := hz.2.mp z10; omega) | (have h2 : ¬ bit op (f / 4) = 0 := fun q => z10 (hz.2.mpr q); omega)), rfl⟩)
theorem t_l_laidOver {g : xG} {h : hp} {QX : qE} {x fl : Nat} {op f b : Int} {v0 v1 : Value} {F : Int → Int} (hx : h x = some (.inr (5, [v0, v1, .ref fl, .int (iI op)]))) (hop : 0 ≤ op) (h0 : 0 ≤ f) (h1 : f < 32) (hfl : h fl = some (iarr g 32 F)) (hF : ∀ j, R32 (F j)) : xM g y_l_laidOver k_l_laidOver M_l_laidOver [.ref x, .int (iI b), .int (iI f)] h (fun v h9 => v = some (.int (iI (if F f = 0 then (if bit op (f / 4) = 1 then 0 else b) else if F f = -1 then 0 else F f))) ∧ h = h9) QX := by
  refine xM.of rfl (by decide) rfl rfl rfl (by simp [Value.category]) (Nat.le_of_ble_eq_true rfl) rfl ?_
  refine x_aload_n d_l_laidOver_0 rfl ?_
  refine fg_l_9_5 d_l_laidOver_1 rfl hx rfl ?_
  refine x_iload_n d_l_laidOver_4 rfl ?_
  refine x_iald d_l_laidOver_5 hfl (by decide) h0 h1 ?_
  refine x_istore_n d_l_laidOver_6 (by decide) ?_
  refine x_iload_n d_l_laidOver_7 rfl ?_
  refine x_if_ne (tgt := 25) d_l_laidOver_8 (by decide) (by first | exact hF _ | (unfold R32; omega)) (fun z8 => ?_) (fun z8 => ?_)
  · refine x_iload_n d_l_laidOver_25 rfl ?_
    refine x_iconst d_l_laidOver_26 ?_
    refine x_icmp_ne (tgt := 34) d_l_laidOver_27 (by decide) (by first | exact hF _ | (unfold R32; omega)) (by first | exact hF _ | (unfold R32; omega)) (fun z27 => ?_) (fun z27 => ?_)
    · refine x_iload_n d_l_laidOver_34 rfl ?_
      exact x_iret rfl d_l_laidOver_35 (⟨congrArg (fun z => some (Value.int (iI z))) (by (repeat' split) <;> omega), rfl⟩)
    · refine x_iconst d_l_laidOver_30 ?_
      refine x_goto (tgt := 35) d_l_laidOver_31 (by decide) ?_
      exact x_iret rfl d_l_laidOver_35 (⟨congrArg (fun z => some (Value.int (iI z))) (by (repeat' split) <;> omega), rfl⟩)
  · refine x_aload_n d_l_laidOver_11 rfl ?_
    refine x_iload_n d_l_laidOver_12 rfl ?_
    refine x_callV (r := (RX4, TX4, 4)) d_l_laidOver_13 q_l_laidOver_41 s_l_hidesBelow v_l_hidesBelow (t_l_hidesBelow hx hop h0 h1) hx rfl rfl rfl rfl (Nat.le_of_ble_eq_true rfl) rfl rfl rfl (fun _ _ hx9 => hx9) ?_
    rintro _ _ ⟨rfl, rfl⟩
    have hbb := bit_01 op (f / 4)
    refine x_if_eq (tgt := 23) d_l_laidOver_16 (by decide) (by first | exact hF _ | (unfold R32; omega)) (fun z16 => ?_) (fun z16 => ?_)
    · refine x_iload_n d_l_laidOver_23 rfl ?_
      exact x_iret rfl d_l_laidOver_24 (⟨congrArg (fun z => some (Value.int (iI z))) (by (repeat' split) <;> omega), rfl⟩)
    · refine x_iconst d_l_laidOver_19 ?_
      refine x_goto (tgt := 24) d_l_laidOver_20 (by decide) ?_
      exact x_iret rfl d_l_laidOver_24 (⟨congrArg (fun z => some (Value.int (iI z))) (by (repeat' split) <;> omega), rfl⟩)
theorem t_c_listensOn {g : xG} {h : hp} {QX : qE} {x : Nat} {po p : Int} {v0 v1 v2 v3 v4 v5 v6 v7 v8 v9 v10 v11 v12 : Value} (hx : h x = some (.inr (2, [v0, v1, v2, v3, v4, v5, v6, v7, v8, v9, .int (iI po), v11, v12]))) (hpo : 0 ≤ po) (h0 : 0 ≤ p) (h1 : p < 31) : xM g y_c_listensOn k_c_listensOn M_c_listensOn [.ref x, .int (iI p)] h (fun v h9 => v = some (.int (iI (bit po p))) ∧ h = h9) QX := by
  refine xM.of rfl (by decide) rfl rfl rfl (by simp [Value.category]) (Nat.le_of_ble_eq_true rfl) rfl ?_
  refine x_aload_n d_c_listensOn_0 rfl ?_
  refine fg_c_48_2 d_c_listensOn_1 rfl hx rfl ?_
  refine x_iconst d_c_listensOn_4 ?_
  refine x_iload_n d_c_listensOn_5 rfl ?_
  refine x_ishl1 d_c_listensOn_6 (by omega) (by omega) ?_
  refine x_iandk d_c_listensOn_7 hpo ?_
  have hz := bitz (a := po) (k := p) h0 h1
  have hbb := bit_01 po p
  refine x_if_eq (tgt := 15) d_c_listensOn_8 (by decide) (by first | exact hz.1 | (unfold R32; omega)) (fun z8 => ?_) (fun z8 => ?_)
  · refine x_iconst d_c_listensOn_15 ?_
    exact x_zret rfl (by omega) d_c_listensOn_16 (⟨congrArg (fun z => some (Value.int (iI z))) (by first | (have := hz.2.mp z8; omega) | (have h2 : ¬ bit po p = 0 := fun q => z8 (hz.2.mpr q); omega)), rfl⟩)
  · refine x_iconst d_c_listensOn_11 ?_
    refine x_goto (tgt := 16) d_c_listensOn_12 (by decide) ?_
    exact x_zret rfl (by omega) d_c_listensOn_16 (⟨congrArg (fun z => some (Value.int (iI z))) (by first | (have := hz.2.mp z8; omega) | (have h2 : ¬ bit po p = 0 := fun q => z8 (hz.2.mpr q); omega)), rfl⟩)
theorem t_c_leaveBridge {g : xG} {h : hp} {QX : qE} {x : Nat} {v0 v1 v2 v3 v4 v5 v6 v7 v8 v9 v10 v11 v12 : Value} (hx : h x = some (.inr (2, [v0, v1, v2, v3, v4, v5, v6, v7, v8, v9, v10, v11, v12]))) : xM g y_c_leaveBridge k_c_leaveBridge M_c_leaveBridge [.ref x] h (fun v h9 => v = none ∧ h9 = hset h x (.inr (2, [v0, v1, v2, v3, v4, v5, v6, v7, v8, v9, v10, .int (iI (-1)), .int (iI (-1))]))) QX := by
  refine xM.of rfl (by decide) rfl rfl rfl (by simp [Value.category]) (Nat.le_of_ble_eq_true rfl) rfl ?_
  refine x_aload_n d_c_leaveBridge_0 rfl ?_
  refine x_iconst d_c_leaveBridge_1 ?_
  refine fp_c_15_2 d_c_leaveBridge_2 rfl hx (Nat.le_of_ble_eq_true rfl) ?_
  refine x_aload_n d_c_leaveBridge_5 rfl ?_
  refine x_iconst d_c_leaveBridge_6 ?_
  refine fp_c_18_2 d_c_leaveBridge_7 rfl (hset_s _ _ _) (Nat.le_of_ble_eq_true rfl) ?_
  exact x_vret rfl d_c_leaveBridge_10 (⟨rfl, by simp only [hset_hset]; rfl⟩)
theorem t_c_grant {g : xG} {h : hp} {QX : qE} {x : Nat} {u t : Int} {v0 v1 v2 v3 v4 v5 v6 v7 v8 v9 v10 v11 v12 : Value} (hx : h x = some (.inr (2, [v0, v1, v2, v3, v4, v5, v6, .int (iI t), v8, v9, v10, v11, v12]))) : xM g y_c_grant k_c_grant M_c_grant [.ref x, .int (iI u)] h (fun v h9 => v = none ∧ h9 = hset h x (.inr (2, [v0, v1, v2, v3, v4, v5, v6, .int (iI (t + u)), v8, v9, v10, v11, v12]))) QX := by
  refine xM.of rfl (by decide) rfl rfl rfl (by simp [Value.category]) (Nat.le_of_ble_eq_true rfl) rfl ?_
  refine x_aload_n d_c_grant_0 rfl ?_
  refine x_dup d_c_grant_1 rfl ?_
  refine fg_c_32_2 d_c_grant_2 rfl hx rfl ?_
  refine x_iload_n d_c_grant_5 rfl ?_
  refine x_iadd d_c_grant_6 ?_
  refine fp_c_32_2 d_c_grant_7 rfl hx (Nat.le_of_ble_eq_true rfl) ?_
  exact x_vret rfl d_c_grant_10 (⟨rfl, rfl⟩)
theorem t_g_grant {g : xG} {h : hp} {QX : qE} {x : Nat} {u t : Int} {v0 v1 v2 v3 v4 v5 : Value} (hx : h x = some (.inr (3, [v0, v1, v2, v3, v4, v5, .int (iI t)]))) : xM g y_g_grant k_g_grant M_g_grant [.ref x, .int (iI u)] h (fun v h9 => v = none ∧ h9 = hset h x (.inr (3, [v0, v1, v2, v3, v4, v5, .int (iI (t + u))]))) QX := by
  refine xM.of rfl (by decide) rfl rfl rfl (by simp [Value.category]) (Nat.le_of_ble_eq_true rfl) rfl ?_
  refine x_aload_n d_g_grant_0 rfl ?_
  refine x_dup d_g_grant_1 rfl ?_
  refine fg_g_20_3 d_g_grant_2 rfl hx rfl ?_
  refine x_iload_n d_g_grant_5 rfl ?_
  refine x_iadd d_g_grant_6 ?_
  refine fp_g_20_3 d_g_grant_7 rfl hx (Nat.le_of_ble_eq_true rfl) ?_
  exact x_vret rfl d_g_grant_10 (⟨rfl, rfl⟩)
