theorem t_m_isIn (g : xG) {a n : Int} (ha : R32 a) (hn : R32 n) : sM g y_m_isIn k_m_isIn M_m_isIn [.int (iI a), .int (iI n)] (fun v => v = some (.int (iI (isin a n)))) := by
  refine sM.of rfl (by decide) rfl rfl rfl (by simp [Value.category]) (Nat.le_of_ble_eq_true rfl) rfl (fun h => ?_)
  refine x_iload_n d_m_isIn_0 rfl ?_
  refine x_if_lt (tgt := 13) d_m_isIn_1 (by decide) (by first | assumption | (unfold R32; omega)) (fun z1 => ?_) (fun z1 => ?_)
  · refine x_iconst d_m_isIn_13 ?_
    exact x_zret rfl (by omega) d_m_isIn_14 (⟨by have := isin_s a n; exact congrArg (fun z => some (Value.int (iI z))) (by omega), rfl⟩)
  · refine x_iload_n d_m_isIn_4 rfl ?_
    refine x_iload_n d_m_isIn_5 rfl ?_
    refine x_icmp_ge (tgt := 13) d_m_isIn_6 (by decide) (by first | assumption | (unfold R32; omega)) (by first | assumption | (unfold R32; omega)) (fun z6 => ?_) (fun z6 => ?_)
    · refine x_iconst d_m_isIn_13 ?_
      exact x_zret rfl (by omega) d_m_isIn_14 (⟨by have := isin_s a n; exact congrArg (fun z => some (Value.int (iI z))) (by omega), rfl⟩)
    · refine x_iconst d_m_isIn_9 ?_
      refine x_goto (tgt := 14) d_m_isIn_10 (by decide) ?_
      exact x_zret rfl (by omega) d_m_isIn_14 (⟨by have := isin_s a n; exact congrArg (fun z => some (Value.int (iI z))) (by omega), rfl⟩)
theorem t_m_holds {g : xG} {x0 : Nat} {ad : Nat → Nat} {S : gS} {p : Int} (hp : R32 p) : mM g y_m_holds k_m_holds M_m_holds x0 ad [.int (iI p)] S (fun v S9 => v = some (.int (iI (if p = 0 then 1 else 0))) ∧ S9 = sset S 0 0 p) := by
  refine mM.of rfl (by decide) rfl rfl rfl (by simp [Value.category]) (Nat.le_of_ble_eq_true rfl) rfl (fun h0 => ?_)
  refine m_aload_n d_m_holds_0 rfl ?_
  refine m_iload_n d_m_holds_1 rfl ?_
  refine mp_84 d_m_holds_2 rfl ?_
  refine m_iload_n d_m_holds_5 rfl ?_
  refine m_if_ne (tgt := 13) d_m_holds_6 (by decide) hp (fun z6 => ?_) (fun z6 => ?_)
  · refine m_iconst d_m_holds_13 ?_
    exact m_zret rfl d_m_holds_14 (by omega) (⟨congrArg (fun z => some (Value.int (iI z))) (by split <;> omega), rfl⟩)
  · refine m_iconst d_m_holds_9 ?_
    refine m_goto (tgt := 14) d_m_holds_10 (by decide) ?_
    exact m_zret rfl d_m_holds_14 (by omega) (⟨congrArg (fun z => some (Value.int (iI z))) (by split <;> omega), rfl⟩)
theorem t_m_isImage {g : xG} {x0 : Nat} {ad : Nat → Nat} {S : gS} {a : Int} (hR : hRp S) (ha : R32 a) : mM g y_m_isImage k_m_isImage M_m_isImage x0 ad [.int (iI a)] S (fun v S9 => v = some (.int (iI (isin a (S 3 0)))) ∧ S9 = S) := by
  refine mM.of rfl (by decide) rfl rfl rfl (by simp [Value.category]) (Nat.le_of_ble_eq_true rfl) rfl (fun h0 => ?_)
  have hs := isin_s a (S 3 0)
  refine m_iload_n d_m_isImage_0 rfl ?_
  refine m_aload_n d_m_isImage_1 rfl ?_
  refine mg_87 d_m_isImage_2 rfl ?_
  refine m_callS d_m_isImage_5 q_m_isImage_90 s_m_isIn (t_m_isIn g ha (hR 3 0 (by decide))) rfl rfl (by decide) rfl rfl rfl ?_
  rintro _ rfl
  exact m_zret rfl d_m_isImage_8 (by omega) (⟨congrArg (fun z => some (Value.int (iI z))) (rfl), rfl⟩)
theorem t_m_isContainer {g : xG} {x0 : Nat} {ad : Nat → Nat} {S : gS} {a : Int} (hR : hRp S) (ha : R32 a) : mM g y_m_isContainer k_m_isContainer M_m_isContainer x0 ad [.int (iI a)] S (fun v S9 => v = some (.int (iI (isin a (S 11 0)))) ∧ S9 = S) := by
  refine mM.of rfl (by decide) rfl rfl rfl (by simp [Value.category]) (Nat.le_of_ble_eq_true rfl) rfl (fun h0 => ?_)
  have hs := isin_s a (S 11 0)
  refine m_iload_n d_m_isContainer_0 rfl ?_
  refine m_aload_n d_m_isContainer_1 rfl ?_
  refine mg_94 d_m_isContainer_2 rfl ?_
  refine m_callS d_m_isContainer_5 q_m_isContainer_90 s_m_isIn (t_m_isIn g ha (hR 11 0 (by decide))) rfl rfl (by decide) rfl rfl rfl ?_
  rintro _ rfl
  exact m_zret rfl d_m_isContainer_8 (by omega) (⟨congrArg (fun z => some (Value.int (iI z))) (rfl), rfl⟩)
theorem t_m_isGroup {g : xG} {x0 : Nat} {ad : Nat → Nat} {S : gS} {a : Int} (hR : hRp S) (ha : R32 a) : mM g y_m_isGroup k_m_isGroup M_m_isGroup x0 ad [.int (iI a)] S (fun v S9 => v = some (.int (iI (isin a (S 6 0)))) ∧ S9 = S) := by
  refine mM.of rfl (by decide) rfl rfl rfl (by simp [Value.category]) (Nat.le_of_ble_eq_true rfl) rfl (fun h0 => ?_)
  have hs := isin_s a (S 6 0)
  refine m_iload_n d_m_isGroup_0 rfl ?_
  refine m_aload_n d_m_isGroup_1 rfl ?_
  refine mg_23 d_m_isGroup_2 rfl ?_
  refine m_callS d_m_isGroup_5 q_m_isGroup_90 s_m_isIn (t_m_isIn g ha (hR 6 0 (by decide))) rfl rfl (by decide) rfl rfl rfl ?_
  rintro _ rfl
  exact m_zret rfl d_m_isGroup_8 (by omega) (⟨congrArg (fun z => some (Value.int (iI z))) (rfl), rfl⟩)
