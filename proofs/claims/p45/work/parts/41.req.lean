theorem t_h_requireFile {g : xG} {h : hp} {QX : qE} {a : Int} (ha : R32 a) (hX : ¬ (0 ≤ a ∧ a < 32) → QX "java/lang/IndexOutOfBoundsException" h) : xM g y_h_requireFile k_h_requireFile M_h_requireFile [.int (iI a)] h (fun v h9 => v = none ∧ h = h9 ∧ (0 ≤ a ∧ a < 32)) QX := by
  refine xM.of rfl (by decide) rfl rfl rfl (by simp [Value.category]) (Nat.le_of_ble_eq_true rfl) rfl ?_
  refine x_iload_n d_h_requireFile_0 rfl ?_
  refine x_if_lt (tgt := 10) d_h_requireFile_1 (by decide) (by first | assumption | (unfold R32; omega)) (fun z1 => ?_) (fun z1 => ?_)
  · exact thw_1 rfl sr_333 d_h_requireFile_10 d_h_requireFile_13 d_h_requireFile_14 d_h_requireFile_17 d_h_requireFile_20 rfl (by decide) (by decide) (by decide) (by decide) (hX (by omega))
  · refine x_iload_n d_h_requireFile_4 rfl ?_
    refine x_bipush d_h_requireFile_5 (by decide) ?_
    refine x_icmp_lt (tgt := 21) d_h_requireFile_7 (by decide) (by first | assumption | (unfold R32; omega)) (by first | assumption | (unfold R32; omega)) (fun z7 => ?_) (fun z7 => ?_)
    · exact x_vret rfl d_h_requireFile_21 (⟨rfl, rfl, by omega⟩)
    · exact thw_1 rfl sr_333 d_h_requireFile_10 d_h_requireFile_13 d_h_requireFile_14 d_h_requireFile_17 d_h_requireFile_20 rfl (by decide) (by decide) (by decide) (by decide) (hX (by omega))
theorem t_h_requireCapability {g : xG} {h : hp} {QX : qE} {a : Int} (ha : R32 a) (hX : ¬ (0 ≤ a ∧ a < 4) → QX "java/lang/IndexOutOfBoundsException" h) : xM g y_h_requireCapability k_h_requireCapability M_h_requireCapability [.int (iI a)] h (fun v h9 => v = none ∧ h = h9 ∧ (0 ≤ a ∧ a < 4)) QX := by
  refine xM.of rfl (by decide) rfl rfl rfl (by simp [Value.category]) (Nat.le_of_ble_eq_true rfl) rfl ?_
  refine x_iload_n d_h_requireCapability_0 rfl ?_
  refine x_if_lt (tgt := 9) d_h_requireCapability_1 (by decide) (by first | assumption | (unfold R32; omega)) (fun z1 => ?_) (fun z1 => ?_)
  · exact thw_1 rfl sr_335 d_h_requireCapability_9 d_h_requireCapability_12 d_h_requireCapability_13 d_h_requireCapability_16 d_h_requireCapability_19 rfl (by decide) (by decide) (by decide) (by decide) (hX (by omega))
  · refine x_iload_n d_h_requireCapability_4 rfl ?_
    refine x_iconst d_h_requireCapability_5 ?_
    refine x_icmp_lt (tgt := 20) d_h_requireCapability_6 (by decide) (by first | assumption | (unfold R32; omega)) (by first | assumption | (unfold R32; omega)) (fun z6 => ?_) (fun z6 => ?_)
    · exact x_vret rfl d_h_requireCapability_20 (⟨rfl, rfl, by omega⟩)
    · exact thw_1 rfl sr_335 d_h_requireCapability_9 d_h_requireCapability_12 d_h_requireCapability_13 d_h_requireCapability_16 d_h_requireCapability_19 rfl (by decide) (by decide) (by decide) (by decide) (hX (by omega))
theorem t_h_requirePort {g : xG} {h : hp} {QX : qE} {a : Int} (ha : R32 a) (hX : ¬ (0 ≤ a ∧ a < 16) → QX "java/lang/IndexOutOfBoundsException" h) : xM g y_h_requirePort k_h_requirePort M_h_requirePort [.int (iI a)] h (fun v h9 => v = none ∧ h = h9 ∧ (0 ≤ a ∧ a < 16)) QX := by
  refine xM.of rfl (by decide) rfl rfl rfl (by simp [Value.category]) (Nat.le_of_ble_eq_true rfl) rfl ?_
  refine x_iload_n d_h_requirePort_0 rfl ?_
  refine x_if_lt (tgt := 10) d_h_requirePort_1 (by decide) (by first | assumption | (unfold R32; omega)) (fun z1 => ?_) (fun z1 => ?_)
  · exact thw_1 rfl sr_337 d_h_requirePort_10 d_h_requirePort_13 d_h_requirePort_14 d_h_requirePort_17 d_h_requirePort_20 rfl (by decide) (by decide) (by decide) (by decide) (hX (by omega))
  · refine x_iload_n d_h_requirePort_4 rfl ?_
    refine x_bipush d_h_requirePort_5 (by decide) ?_
    refine x_icmp_lt (tgt := 21) d_h_requirePort_7 (by decide) (by first | assumption | (unfold R32; omega)) (by first | assumption | (unfold R32; omega)) (fun z7 => ?_) (fun z7 => ?_)
    · exact x_vret rfl d_h_requirePort_21 (⟨rfl, rfl, by omega⟩)
    · exact thw_1 rfl sr_337 d_h_requirePort_10 d_h_requirePort_13 d_h_requirePort_14 d_h_requirePort_17 d_h_requirePort_20 rfl (by decide) (by decide) (by decide) (by decide) (hX (by omega))
theorem t_h_requireHostPort {g : xG} {h : hp} {QX : qE} {a : Int} (ha : R32 a) (hX : ¬ (0 ≤ a ∧ a < 32) → QX "java/lang/IndexOutOfBoundsException" h) : xM g y_h_requireHostPort k_h_requireHostPort M_h_requireHostPort [.int (iI a)] h (fun v h9 => v = none ∧ h = h9 ∧ (0 ≤ a ∧ a < 32)) QX := by
  refine xM.of rfl (by decide) rfl rfl rfl (by simp [Value.category]) (Nat.le_of_ble_eq_true rfl) rfl ?_
  refine x_iload_n d_h_requireHostPort_0 rfl ?_
  refine x_if_lt (tgt := 10) d_h_requireHostPort_1 (by decide) (by first | assumption | (unfold R32; omega)) (fun z1 => ?_) (fun z1 => ?_)
  · exact thw_1 rfl sr_339 d_h_requireHostPort_10 d_h_requireHostPort_13 d_h_requireHostPort_14 d_h_requireHostPort_17 d_h_requireHostPort_20 rfl (by decide) (by decide) (by decide) (by decide) (hX (by omega))
  · refine x_iload_n d_h_requireHostPort_4 rfl ?_
    refine x_bipush d_h_requireHostPort_5 (by decide) ?_
    refine x_icmp_lt (tgt := 21) d_h_requireHostPort_7 (by decide) (by first | assumption | (unfold R32; omega)) (by first | assumption | (unfold R32; omega)) (fun z7 => ?_) (fun z7 => ?_)
    · exact x_vret rfl d_h_requireHostPort_21 (⟨rfl, rfl, by omega⟩)
    · exact thw_1 rfl sr_339 d_h_requireHostPort_10 d_h_requireHostPort_13 d_h_requireHostPort_14 d_h_requireHostPort_17 d_h_requireHostPort_20 rfl (by decide) (by decide) (by decide) (by decide) (hX (by omega))
theorem t_h_requireWithin {g : xG} {h : hp} {QX : qE} {a b : Int} (ha : R32 a) (hb : R32 b) (hX : ¬ (1 ≤ a ∧ a ≤ b) → QX "java/lang/IllegalArgumentException" h) : xM g y_h_requireWithin k_h_requireWithin M_h_requireWithin [.int (iI a), .int (iI b)] h (fun v h9 => v = none ∧ h = h9 ∧ (1 ≤ a ∧ a ≤ b)) QX := by
  refine xM.of rfl (by decide) rfl rfl rfl (by simp [Value.category]) (Nat.le_of_ble_eq_true rfl) rfl ?_
  refine x_iload_n d_h_requireWithin_0 rfl ?_
  refine x_iconst d_h_requireWithin_1 ?_
  refine x_icmp_lt (tgt := 10) d_h_requireWithin_2 (by decide) (by first | assumption | (unfold R32; omega)) (by first | assumption | (unfold R32; omega)) (fun z2 => ?_) (fun z2 => ?_)
  · exact thw_2 rfl sr_341 d_h_requireWithin_10 d_h_requireWithin_13 d_h_requireWithin_14 d_h_requireWithin_17 d_h_requireWithin_20 rfl (by decide) (by decide) (by decide) (by decide) (hX (by omega))
  · refine x_iload_n d_h_requireWithin_5 rfl ?_
    refine x_iload_n d_h_requireWithin_6 rfl ?_
    refine x_icmp_le (tgt := 21) d_h_requireWithin_7 (by decide) (by first | assumption | (unfold R32; omega)) (by first | assumption | (unfold R32; omega)) (fun z7 => ?_) (fun z7 => ?_)
    · exact x_vret rfl d_h_requireWithin_21 (⟨rfl, rfl, by omega⟩)
    · exact thw_2 rfl sr_341 d_h_requireWithin_10 d_h_requireWithin_13 d_h_requireWithin_14 d_h_requireWithin_17 d_h_requireWithin_20 rfl (by decide) (by decide) (by decide) (by decide) (hX (by omega))
