theorem w44o : Cond.methodLink "java/util/AbstractCollection" 1 Lib.objectInit ∈ lw_tbl := mt (i := 43) (by decide +kernel)
theorem t_abc_init {g : xG} {h : hp} {QX : qE} {l : Nat} : xM g y_abc_init k_abc_init M_abc_init [.ref l] h (fun v h9 => v = none ∧ h = h9) QX := by
  refine xM.of rfl (by decide) rfl rfl rfl (by simp [Value.category]) (Nat.le_of_ble_eq_true rfl) rfl ?_
  refine x_aload_n d_abc_init_0 rfl ?_
  refine x_objInit d_abc_init_1 w44o wOI1 wOI2 (by decide) (by decide) (Nat.le_of_ble_eq_true rfl) ?_
  exact x_vret rfl d_abc_init_4 ⟨rfl, rfl⟩
theorem t_abl_init {g : xG} {h : hp} {QX : qE} {l : Nat} {v0 v1 v2 : Value} (hl : h l = some (.inr (0, [v0, v1, v2]))) : xM g y_abl_init k_abl_init M_abl_init [.ref l] h (fun v h9 => v = none ∧ h9 = hset h l (.inr (0, [.int (iI 0), v1, v2]))) QX := by
  refine xM.of rfl (by decide) rfl rfl rfl (by simp [Value.category]) (Nat.le_of_ble_eq_true rfl) rfl ?_
  refine x_aload_n d_abl_init_0 rfl ?_
  refine x_callI d_abl_init_1 rfl q_abl_init_1 s_abc_init rfl t_abc_init rfl rfl (Nat.le_of_ble_eq_true rfl) rfl rfl rfl (fun _ _ hx9 => hx9) ?_
  rintro _ _ ⟨rfl, rfl⟩
  refine x_aload_n d_abl_init_4 rfl ?_
  refine x_iconst d_abl_init_5 ?_
  refine fp_abl_7_0 d_abl_init_6 rfl hl (Nat.le_of_ble_eq_true rfl) ?_
  exact x_vret rfl d_abl_init_9 (⟨rfl, rfl⟩)
theorem t_al_init {g : xG} {h : hp} {QX : qE} {l d : Nat} {v0 v1 v2 : Value} (hD : isD g d) (hl : h l = some (.inr (0, [v0, v1, v2]))) : xM g y_al_init k_al_init M_al_init [.ref l] h (fun v h9 => v = none ∧ h9 = hset h l (.inr (0, [.int (iI 0), .ref d, v2]))) QX := by
  refine xM.of rfl (by decide) rfl rfl rfl (by simp [Value.category]) (Nat.le_of_ble_eq_true rfl) rfl ?_
  refine x_aload_n d_al_init_0 rfl ?_
  refine x_callI d_al_init_1 rfl q_al_init_1 s_abl_init rfl (t_abl_init hl) rfl rfl (Nat.le_of_ble_eq_true rfl) rfl rfl rfl (fun _ _ hx9 => hx9) ?_
  rintro _ _ ⟨rfl, rfl⟩
  refine x_aload_n d_al_init_4 rfl ?_
  refine x_gets hD d_al_init_5 wDf ?_
  refine fp_al_9_0 (Or.inr ⟨_, rfl⟩) d_al_init_8 rfl (hset_s _ _ _) (Nat.le_of_ble_eq_true rfl) ?_
  exact x_vret rfl d_al_init_11 (⟨rfl, hset_hset _ _ _ _⟩)
def clrP (g : xG) (h : hp) (l d N : Nat) (m : Int) (h9 : hp) : Prop := h9 l = some (.inr (0, [.int (iI (m + 1)), .ref d, .int (iI 0)])) ∧ (capOk N → h9 d = some (oarr g N (fun _ => none))) ∧ ∀ a, a ≠ l → (a = d → N = 0) → h9 a = h a
theorem L_al_clear {g : xG} {h : hp} {QX : qE} {rc rs l d N : Nat} {n m : Int} {f : Nat → Option Nat} (hld : d ≠ l) (hP : datP g h d N n f) : ∀ (f9 : Nat) (k : Int), 0 ≤ k → k ≤ n → n < k + f9 → ∀ h1 : hp, h1 l = some (.inr (0, [.int (iI (m + 1)), .ref d, .int (iI 0)])) → (capOk N → h1 d = some (oarr g N (fun i => if (i : Int) < k then none else f i))) → (∀ a, a ≠ l → (a = d → N = 0) → h1 a = h a) → xW g M_al_clear (fun v h9 => v = none ∧ clrP g h l d N m h9) QX rc rs h1 27 [some (.ref l), some (.ref d), some (.int (iI n)), some (.int (iI k))] [] := by
  intro f9
  induction f9 with
  | zero => intros; omega
  | succ f9 ih =>
    intro k k0 k1 k2 h1 i1 i2 i3
    have hn33 : n ≤ 33 := by
      rcases hP.1 with q | q
      · have := hP.2.2.1; omega
      · have := hP.2.2.1; have := q.1; unfold capOk at this; omega
    refine x_iload_n d_al_clear_27 rfl ?_
    refine x_iload_n d_al_clear_28 rfl ?_
    refine x_icmp_ge (tgt := 42) d_al_clear_29 (by decide) (by unfold R32; omega) (by unfold R32; omega) (fun z29 => ?_) (fun z29 => ?_)
    · exact x_vret rfl d_al_clear_42 (⟨rfl, i1, fun hc => by
        rw [i2 hc]
        have : (fun i : Nat => if (i : Int) < k then none else f i) = fun _ => none := by
          funext i
          by_cases q : (i : Int) < k
          · rw [if_pos q]
          · rw [if_neg q]; exact hP.2.2.2.1 i (by omega)
        rw [this], i3⟩)
    · refine x_aload_n d_al_clear_32 rfl ?_
      refine x_iload_n d_al_clear_33 rfl ?_
      refine x_null d_al_clear_34 ?_
      have hcN : capOk N := by
        rcases hP.1 with q | q
        · have := hP.2.2.1; omega
        · exact q.1
      have hN9 := hP.2.2.1
      refine x_aastN (t := 3) rfl d_al_clear_35 (i2 hcN) (by unfold capOk at hcN; omega) (by omega) (by omega) ?_
      refine x_iinc d_al_clear_36 rfl (by decide) ?_
      refine x_goto (tgt := 27) d_al_clear_39 (by decide) ?_
      refine ih (k + 1) (by omega) (by omega) (by omega) _ ((hset_n _ _ hld.symm).trans i1) (fun _ => ?_) (fun a a1 a2 => ?_)
      · rw [hset_s]
        have : va_up (fun i : Nat => if (i : Int) < k then none else f i) k.toNat none = fun i : Nat => if (i : Int) < k + 1 then none else f i := by
          funext i
          unfold va_up
          by_cases q : i = k.toNat
          · rw [if_pos q, if_pos (by omega)]
          · rw [if_neg q]
            show (if (i : Int) < k then none else f i) = _
            by_cases q2 : (i : Int) < k
            · rw [if_pos q2, if_pos (by omega)]
            · rw [if_neg q2, if_neg (by omega)]
        rw [this]
      · by_cases e : a = d
        · have := a2 e
          unfold capOk at hcN
          omega
        · rw [hset_n _ _ e]
          exact i3 a a1 a2
theorem t_al_clear {g : xG} {h : hp} {QX : qE} {l d N : Nat} {n m : Int} {f : Nat → Option Nat} (hl : h l = some (.inr (0, [.int (iI m), .ref d, .int (iI n)]))) (hld : d ≠ l) (hP : datP g h d N n f) : xM g y_al_clear k_al_clear M_al_clear [.ref l] h (fun v h9 => v = none ∧ clrP g h l d N m h9) QX := by
  refine xM.of rfl (by decide) rfl rfl rfl (by simp [Value.category]) (Nat.le_of_ble_eq_true rfl) rfl ?_
  refine x_aload_n d_al_clear_0 rfl ?_
  refine x_dup d_al_clear_1 rfl ?_
  refine fg_al_63_0 d_al_clear_2 rfl hl rfl ?_
  refine x_iconst d_al_clear_5 ?_
  refine x_iadd d_al_clear_6 ?_
  refine fp_al_63_0 d_al_clear_7 rfl hl (Nat.le_of_ble_eq_true rfl) ?_
  refine x_aload_n d_al_clear_10 rfl ?_
  refine fg_al_9_0 d_al_clear_11 rfl (hset_s _ _ _) rfl ?_
  refine x_astore_n d_al_clear_14 (by decide) ?_
  refine x_aload_n d_al_clear_15 rfl ?_
  refine fg_al_48_0 d_al_clear_16 rfl (hset_s _ _ _) rfl ?_
  refine x_istore_n d_al_clear_19 (by decide) ?_
  refine x_aload_n d_al_clear_20 rfl ?_
  refine x_iconst d_al_clear_21 ?_
  refine x_dup_x1 d_al_clear_22 rfl rfl ?_
  refine fp_al_48_0 d_al_clear_23 rfl (hset_s _ _ _) (Nat.le_of_ble_eq_true rfl) ?_
  refine x_istore_n d_al_clear_26 (by decide) ?_
  refine L_al_clear hld hP (n.toNat + 1) 0 (by omega) hP.2.1 (by have := hP.2.1; omega) _ (hset_s _ _ _) (fun hc => ?_) (fun a a1 a2 => (hset_n _ _ a1).trans (hset_n _ _ a1))
  rcases hP.1 with q | q
  · unfold capOk at hc; omega
  · rw [hset_n _ _ hld, hset_n _ _ hld, q.2]
    have : (fun i : Nat => if (i : Int) < 0 then none else f i) = f := by
      funext i
      rw [if_neg (by omega)]
    rw [this]
