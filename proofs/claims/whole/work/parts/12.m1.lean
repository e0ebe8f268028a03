theorem t_m_isIn (g : xG) {a n : Int} (ha : R32 a) (hn : R32 n) : sM g y_m_isIn k_m_isIn M_m_isIn [.int (iI a), .int (iI n)] (fun v => v = some (.int (iI (isin a n)))) := by
  refine sM.of rfl (by decide) rfl rfl rfl (by simp [Value.category]) (Nat.le_of_ble_eq_true rfl) rfl (fun h => ?_)
  refine x_iload_n d_m_isIn_0 rfl ?_
  refine x_if_lt (tgt := 13) d_m_isIn_1 (by decide) (by first | assumption | (unfold R32; omega)) (fun z1 => ?_) (fun z1 => ?_)
  · refine x_iconst d_m_isIn_13 ?_
    exact x_zret rfl (by omega) d_m_isIn_14 (⟨by have := isin_s a n; exact congrArg (fun z => some (Value.int (iI z))) (by omega), rfl⟩)
  · refine x_iload_n d_m_isIn_4 rfl ?_
    refine x_iload_n d_m_isIn_5 rfl ?_
    refine x_icmp_ge (tgt := 13) d_m_isIn_6 (by decide) (by first | assumption | (unfold R32; omega)) (by first | assumption | (unfold R32; omega)) (fun z6 => ?_) (fun z6 => ?_)
    · refine x_iconst d_m_isIn_13 ?_
      exact x_zret rfl (by omega) d_m_isIn_14 (⟨by have := isin_s a n; exact congrArg (fun z => some (Value.int (iI z))) (by omega), rfl⟩)
    · refine x_iconst d_m_isIn_9 ?_
      refine x_goto (tgt := 14) d_m_isIn_10 (by decide) ?_
      exact x_zret rfl (by omega) d_m_isIn_14 (⟨by have := isin_s a n; exact congrArg (fun z => some (Value.int (iI z))) (by omega), rfl⟩)
theorem t_m_holds {g : xG} {x0 : Nat} {ad : Nat → Nat} {tt : Int} {S : gS} {p : Int} (hp : R32 p) : mM g y_m_holds k_m_holds M_m_holds x0 ad [.int (iI p)] tt S (fun v t9 S9 => v = some (.int (iI (if p = 0 then 1 else 0))) ∧ p = t9 ∧ S = S9) := by
  refine mM.of rfl (by decide) rfl rfl rfl (by simp [Value.category]) (Nat.le_of_ble_eq_true rfl) rfl (fun h0 => ?_)
  refine m_aload_n d_m_holds_0 rfl ?_
  refine m_iload_n d_m_holds_1 rfl ?_
  refine mp_84 d_m_holds_2 rfl ?_
  refine m_iload_n d_m_holds_5 rfl ?_
  refine m_if_ne (tgt := 13) d_m_holds_6 (by decide) hp (fun z6 => ?_) (fun z6 => ?_)
  · refine m_iconst d_m_holds_13 ?_
    exact m_zret rfl d_m_holds_14 (by omega) (⟨congrArg (fun z => some (Value.int (iI z))) (by split <;> omega), rfl, rfl⟩)
  · refine m_iconst d_m_holds_9 ?_
    refine m_goto (tgt := 14) d_m_holds_10 (by decide) ?_
    exact m_zret rfl d_m_holds_14 (by omega) (⟨congrArg (fun z => some (Value.int (iI z))) (by split <;> omega), rfl, rfl⟩)
theorem t_m_isImage {g : xG} {x0 : Nat} {ad : Nat → Nat} {tt : Int} {S : gS} {a : Int} (hR : hRp S) (ha : R32 a) : mM g y_m_isImage k_m_isImage M_m_isImage x0 ad [.int (iI a)] tt S (fun v t9 S9 => v = some (.int (iI (isin a (S 3 0)))) ∧ tt = t9 ∧ S = S9) := by
  refine mM.of rfl (by decide) rfl rfl rfl (by simp [Value.category]) (Nat.le_of_ble_eq_true rfl) rfl (fun h0 => ?_)
  have hs := isin_s a (S 3 0)
  refine m_iload_n d_m_isImage_0 rfl ?_
  refine m_aload_n d_m_isImage_1 rfl ?_
  refine mg_87 d_m_isImage_2 rfl ?_
  refine m_callS d_m_isImage_5 q_m_isImage_90 s_m_isIn (t_m_isIn g ha (hR 3 0 (by decide))) rfl rfl (Nat.le_of_ble_eq_true rfl) rfl rfl rfl ?_
  rintro _ rfl
  exact m_zret rfl d_m_isImage_8 (by omega) (⟨congrArg (fun z => some (Value.int (iI z))) (rfl), rfl, rfl⟩)
theorem t_m_isContainer {g : xG} {x0 : Nat} {ad : Nat → Nat} {tt : Int} {S : gS} {a : Int} (hR : hRp S) (ha : R32 a) : mM g y_m_isContainer k_m_isContainer M_m_isContainer x0 ad [.int (iI a)] tt S (fun v t9 S9 => v = some (.int (iI (isin a (S 11 0)))) ∧ tt = t9 ∧ S = S9) := by
  refine mM.of rfl (by decide) rfl rfl rfl (by simp [Value.category]) (Nat.le_of_ble_eq_true rfl) rfl (fun h0 => ?_)
  have hs := isin_s a (S 11 0)
  refine m_iload_n d_m_isContainer_0 rfl ?_
  refine m_aload_n d_m_isContainer_1 rfl ?_
  refine mg_94 d_m_isContainer_2 rfl ?_
  refine m_callS d_m_isContainer_5 q_m_isContainer_90 s_m_isIn (t_m_isIn g ha (hR 11 0 (by decide))) rfl rfl (Nat.le_of_ble_eq_true rfl) rfl rfl rfl ?_
  rintro _ rfl
  exact m_zret rfl d_m_isContainer_8 (by omega) (⟨congrArg (fun z => some (Value.int (iI z))) (rfl), rfl, rfl⟩)
theorem t_m_isGroup {g : xG} {x0 : Nat} {ad : Nat → Nat} {tt : Int} {S : gS} {a : Int} (hR : hRp S) (ha : R32 a) : mM g y_m_isGroup k_m_isGroup M_m_isGroup x0 ad [.int (iI a)] tt S (fun v t9 S9 => v = some (.int (iI (isin a (S 6 0)))) ∧ tt = t9 ∧ S = S9) := by
  refine mM.of rfl (by decide) rfl rfl rfl (by simp [Value.category]) (Nat.le_of_ble_eq_true rfl) rfl (fun h0 => ?_)
  have hs := isin_s a (S 6 0)
  refine m_iload_n d_m_isGroup_0 rfl ?_
  refine m_aload_n d_m_isGroup_1 rfl ?_
  refine mg_23 d_m_isGroup_2 rfl ?_
  refine m_callS d_m_isGroup_5 q_m_isGroup_90 s_m_isIn (t_m_isIn g ha (hR 6 0 (by decide))) rfl rfl (Nat.le_of_ble_eq_true rfl) rfl rfl rfl ?_
  rintro _ rfl
  exact m_zret rfl d_m_isGroup_8 (by omega) (⟨congrArg (fun z => some (Value.int (iI z))) (rfl), rfl, rfl⟩)
theorem L_m_layersOf {g : xG} {x0 : Nat} {ad : Nat → Nat} {h0 : hp} {tt : Int} {S : gS} {a : Int} (hi1 : Inv1 S) (hi2 : Inv2 S) : ∀ (f : Nat) (k n : Int), k + 1 < f → -1 ≤ k → k < S 3 0 → n + lay S k = lay S a → mW g M_m_layersOf x0 ad h0 (fun v t9 S9 => v = some (.int (iI (lay S a))) ∧ tt = t9 ∧ S = S9) tt S 4 [some (.ref x0), some (.int (iI a)), some (.int (iI n)), some (.int (iI k))] [] := by
  intro f9
  induction f9 with
  | zero => intros; omega
  | succ f9 ih =>
    intro k n h1 h2 h3 h4
    obtain ⟨him, -⟩ := id hi1
    refine m_iload_n d_m_layersOf_4 rfl ?_
    refine m_iconst d_m_layersOf_5 ?_
    refine m_icmp_eq (tgt := 22) d_m_layersOf_6 (by decide) (by unfold R32; omega) (by unfold R32; omega) (fun z6 => ?_) (fun z6 => ?_)
    · refine m_iload_n d_m_layersOf_22 rfl ?_
      exact m_iret rfl d_m_layersOf_23 (⟨congrArg (fun z => some (Value.int (iI z))) (by subst z6; rw [lay_m1] at h4; omega), rfl, rfl⟩)
    · have hb := hi2.1 k (by omega) h3
      have hl := lay_s hi2 (k := k) (by omega) h3
      refine m_iinc d_m_layersOf_9 rfl (by decide) ?_
      refine m_aload_n d_m_layersOf_12 rfl ?_
      refine mg_16 d_m_layersOf_13 rfl ?_
      refine m_iload_n d_m_layersOf_16 rfl ?_
      refine m_ald 10 rfl (by decide) rfl d_m_layersOf_17 (by omega) (by omega) ?_
      refine m_istore_n d_m_layersOf_18 (by decide) ?_
      refine m_goto (tgt := 4) d_m_layersOf_19 (by decide) ?_
      exact ih _ _ (by omega) (by omega) (by omega) (by omega)
theorem t_m_layersOf {g : xG} {x0 : Nat} {ad : Nat → Nat} {tt : Int} {S : gS} {a : Int} (hi1 : Inv1 S) (hi2 : Inv2 S) (ha : -1 ≤ a) (hb : a < S 3 0) : mM g y_m_layersOf k_m_layersOf M_m_layersOf x0 ad [.int (iI a)] tt S (fun v t9 S9 => v = some (.int (iI (lay S a))) ∧ tt = t9 ∧ S = S9) := by
  refine mM.of rfl (by decide) rfl rfl rfl (by simp [Value.category]) (Nat.le_of_ble_eq_true rfl) rfl (fun h0 => ?_)
  refine m_iconst d_m_layersOf_0 ?_
  refine m_istore_n d_m_layersOf_1 (by decide) ?_
  refine m_iload_n d_m_layersOf_2 rfl ?_
  refine m_istore_n d_m_layersOf_3 (by decide) ?_
  exact L_m_layersOf hi1 hi2 ((a + 2).toNat) a 0 (by omega) ha hb (by omega)
