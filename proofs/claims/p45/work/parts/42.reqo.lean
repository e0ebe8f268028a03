theorem t_h_requireOpen {g : xG} {h : hp} {QX : qE} {x : Nat} {b : Int} {v0 : Value} (hb : b = 0 ∨ b = 1) (hx : h x = some (.inr (4, [v0, .int (iI b)]))) (hX : ¬ (b = 0) → QX "java/lang/IllegalStateException" h) : xM g y_h_requireOpen k_h_requireOpen M_h_requireOpen [.ref x] h (fun v h9 => v = none ∧ h = h9 ∧ (b = 0)) QX := by
  refine xM.of rfl (by decide) rfl rfl rfl (by simp [Value.category]) (Nat.le_of_ble_eq_true rfl) rfl ?_
  refine x_aload_n d_h_requireOpen_0 rfl ?_
  refine fg_h_109_4 d_h_requireOpen_1 rfl hx rfl ?_
  refine x_if_eq (tgt := 18) d_h_requireOpen_4 (by decide) (by first | assumption | (unfold R32; omega)) (fun z4 => ?_) (fun z4 => ?_)
  · exact x_vret rfl d_h_requireOpen_18 (⟨rfl, rfl, by omega⟩)
  · exact thw_3 rfl sr_343 d_h_requireOpen_7 d_h_requireOpen_10 d_h_requireOpen_11 d_h_requireOpen_14 d_h_requireOpen_17 rfl (by decide) (by decide) (by decide) (by decide) (hX (by omega))
theorem t_h_requireRunning {g : xG} {h : hp} {QX : qE} {x : Nat} {s : Int} {v0 v1 v2 v3 v4 v5 v6 v7 v8 v9 v10 v11 v12 : Value} (hs : R32 s) (hx : h x = some (.inr (2, [v0, v1, v2, v3, .int (iI s), v5, v6, v7, v8, v9, v10, v11, v12]))) (hX : ¬ (s = 0) → QX "java/lang/IllegalStateException" h) : xM g y_h_requireRunning k_h_requireRunning M_h_requireRunning [.ref x] h (fun v h9 => v = none ∧ h = h9 ∧ (s = 0)) QX := by
  refine xM.of rfl (by decide) rfl rfl rfl (by simp [Value.category]) (Nat.le_of_ble_eq_true rfl) rfl ?_
  refine x_aload_n d_h_requireRunning_0 rfl ?_
  refine fg_h_191_2 d_h_requireRunning_1 rfl hx rfl ?_
  refine x_if_eq (tgt := 18) d_h_requireRunning_4 (by decide) (by first | assumption | (unfold R32; omega)) (fun z4 => ?_) (fun z4 => ?_)
  · exact x_vret rfl d_h_requireRunning_18 (⟨rfl, rfl, by omega⟩)
  · exact thw_3 rfl sr_355 d_h_requireRunning_7 d_h_requireRunning_10 d_h_requireRunning_11 d_h_requireRunning_14 d_h_requireRunning_17 rfl (by decide) (by decide) (by decide) (by decide) (hX (by omega))
theorem t_h_requireAttached {g : xG} {h : hp} {QX : qE} {x : Nat} {s : Int} {v0 v1 v2 v3 v4 v5 v6 v7 v8 v9 v10 v11 v12 : Value} (hs : R32 s) (hx : h x = some (.inr (2, [v0, v1, v2, v3, v4, v5, v6, v7, v8, v9, v10, .int (iI s), v12]))) (hX : ¬ (s ≠ -1) → QX "java/lang/IllegalStateException" h) : xM g y_h_requireAttached k_h_requireAttached M_h_requireAttached [.ref x] h (fun v h9 => v = none ∧ h = h9 ∧ (s ≠ -1)) QX := by
  refine xM.of rfl (by decide) rfl rfl rfl (by simp [Value.category]) (Nat.le_of_ble_eq_true rfl) rfl ?_
  refine x_aload_n d_h_requireAttached_0 rfl ?_
  refine fg_h_260_2 d_h_requireAttached_1 rfl hx rfl ?_
  refine x_iconst d_h_requireAttached_4 ?_
  refine x_icmp_ne (tgt := 19) d_h_requireAttached_5 (by decide) (by first | assumption | (unfold R32; omega)) (by first | assumption | (unfold R32; omega)) (fun z5 => ?_) (fun z5 => ?_)
  · exact x_vret rfl d_h_requireAttached_19 (⟨rfl, rfl, by omega⟩)
  · exact thw_3 rfl sr_359 d_h_requireAttached_8 d_h_requireAttached_11 d_h_requireAttached_12 d_h_requireAttached_15 d_h_requireAttached_18 rfl (by decide) (by decide) (by decide) (by decide) (hX (by omega))
theorem t_h_requireEffective {g : xG} {h : hp} {QX : qE} {x : Nat} {s p : Int} {v0 v1 v2 v3 v4 v5 v6 v7 v8 v9 v10 v11 v12 : Value} (hs : 0 ≤ s) (h0 : 0 ≤ p) (h1 : p < 31) (hx : h x = some (.inr (2, [v0, v1, v2, v3, v4, v5, v6, v7, v8, .int (iI s), v10, v11, v12]))) (hX : ¬ (bit s p = 1) → QX "java/lang/IllegalStateException" h) : xM g y_h_requireEffective k_h_requireEffective M_h_requireEffective [.ref x, .int (iI p)] h (fun v h9 => v = none ∧ h = h9 ∧ (bit s p = 1)) QX := by
  refine xM.of rfl (by decide) rfl rfl rfl (by simp [Value.category]) (Nat.le_of_ble_eq_true rfl) rfl ?_
  refine x_aload_n d_h_requireEffective_0 rfl ?_
  refine fg_h_179_2 d_h_requireEffective_1 rfl hx rfl ?_
  refine x_iconst d_h_requireEffective_4 ?_
  refine x_iload_n d_h_requireEffective_5 rfl ?_
  refine x_ishl1 d_h_requireEffective_6 (by omega) (by omega) ?_
  refine x_iandk d_h_requireEffective_7 hs ?_
  have hz := bitz (a := s) (k := p) h0 h1
  have hbb := bit_01 s p
  refine x_if_ne (tgt := 22) d_h_requireEffective_8 (by decide) (by first | exact hz.1 | (unfold R32; omega)) (fun z8 => ?_) (fun z8 => ?_)
  · exact x_vret rfl d_h_requireEffective_22 (⟨rfl, rfl, by have h2 : ¬ bit s p = 0 := fun q => z8 (hz.2.mpr q); omega⟩)
  · exact thw_3 rfl sr_357 d_h_requireEffective_11 d_h_requireEffective_14 d_h_requireEffective_15 d_h_requireEffective_18 d_h_requireEffective_21 rfl (by decide) (by decide) (by decide) (by decide) (hX (fun q => by have h2 := hz.2.mp z8; omega))
theorem t_h_requireMayChange {g : xG} {h : hp} {QX : qE} {x : Nat} {s e f : Int} {v0 v1 v2 v3 v4 v5 v6 v7 v8 v9 v10 v11 v12 : Value} (hs : R32 s) (he : 0 ≤ e) (hf : R32 f) (hx : h x = some (.inr (2, [v0, v1, v2, v3, .int (iI s), v5, v6, v7, v8, .int (iI e), v10, v11, v12]))) (hX : ¬ (s = 0 ∧ (f < 4 → bit e 1 = 1)) → QX "java/lang/IllegalStateException" h) : xM g y_h_requireMayChange k_h_requireMayChange M_h_requireMayChange [.ref x, .int (iI f)] h (fun v h9 => v = none ∧ h = h9 ∧ (s = 0 ∧ (f < 4 → bit e 1 = 1))) QX := by
  refine xM.of rfl (by decide) rfl rfl rfl (by simp [Value.category]) (Nat.le_of_ble_eq_true rfl) rfl ?_
  refine x_aload_n d_h_requireMayChange_0 rfl ?_
  refine x_callS d_h_requireMayChange_1 q_h_requireMayChange_203 s_h_requireRunning (t_h_requireRunning (v4 := .null) hs hx (fun q => hX (fun z => q z.1))) rfl rfl (Nat.le_of_ble_eq_true rfl) rfl rfl rfl (fun _ _ hx9 => hx9) ?_
  rintro _ _ ⟨rfl, rfl, hs0⟩
  refine x_iload_n d_h_requireMayChange_4 rfl ?_
  refine x_iconst d_h_requireMayChange_5 ?_
  refine x_icmp_ge (tgt := 14) d_h_requireMayChange_6 (by decide) (by first | assumption | (unfold R32; omega)) (by first | assumption | (unfold R32; omega)) (fun z6 => ?_) (fun z6 => ?_)
  · exact x_vret rfl d_h_requireMayChange_14 (⟨rfl, rfl, hs0, fun _ => by first | assumption | omega⟩)
  · refine x_aload_n d_h_requireMayChange_9 rfl ?_
    refine x_iconst d_h_requireMayChange_10 ?_
    refine x_callS d_h_requireMayChange_11 q_h_requireMayChange_245 s_h_requireEffective (t_h_requireEffective (v9 := .null) he (by omega) (by omega) hx (fun q => hX (fun z => q (z.2 (by omega))))) rfl rfl (Nat.le_of_ble_eq_true rfl) rfl rfl rfl (fun _ _ hx9 => hx9) ?_
    rintro _ _ ⟨rfl, rfl, he1⟩
    exact x_vret rfl d_h_requireMayChange_14 (⟨rfl, rfl, hs0, fun _ => by first | assumption | omega⟩)
