theorem t_m_isEffective {g : xG} {x0 : Nat} {ad : Nat → Nat} {tt : Int} {S : gS} {a k : Int} (hI : Inv S) (ha : 0 ≤ a) (ha2 : a < S 11 0) (hk : 0 ≤ k) (hk2 : k < 31) : mM g y_m_isEffective k_m_isEffective M_m_isEffective x0 ad [.int (iI a), .int (iI k)] tt S (fun v t9 S9 => v = some (.int (iI (bit (S 17 a) k))) ∧ tt = t9 ∧ S = S9) := by
  refine mM.of rfl (by decide) rfl rfl rfl (by simp [Value.category]) (Nat.le_of_ble_eq_true rfl) rfl (fun h0 => ?_)
  obtain ⟨hR, hi1, hi2, hi3, hi4, hi5, hi6, hi7⟩ := id hI
  obtain ⟨him, hgr, hco, hck⟩ := id hi1
  have hb := hi3 a (Or.inl ⟨ha, ha2⟩)
  refine m_aload_n d_m_isEffective_0 rfl ?_
  refine mg_54 d_m_isEffective_1 rfl ?_
  refine m_iload_n d_m_isEffective_4 rfl ?_
  refine m_ald 25 rfl (by decide) rfl d_m_isEffective_5 (by omega) (by omega) ?_
  refine m_iload_n d_m_isEffective_6 rfl ?_
  refine m_ishrI d_m_isEffective_7 (by omega) (by omega) (by omega) (by omega) ?_
  refine m_iconst d_m_isEffective_8 ?_
  refine m_iand1 d_m_isEffective_9 (Int.ediv_nonneg (by omega) (Int.le_of_lt (Int.pow_pos (by omega)))) ?_
  refine m_iconst d_m_isEffective_10 ?_
  refine m_icmp_ne (tgt := 18) d_m_isEffective_11 (by decide) (by first | assumption | exact hR _ _ (by decide) | (unfold R32; omega)) (by first | assumption | exact hR _ _ (by decide) | (unfold R32; omega)) (fun z11 => ?_) (fun z11 => ?_)
  · refine m_iconst d_m_isEffective_18 ?_
    exact m_zret rfl d_m_isEffective_19 (by omega) (⟨congrArg (fun z => some (Value.int (iI z))) (by have q := bit_01 (S 17 a) k; first | (have y : bit (S 17 a) k = 1 := z11; omega) | (have y : ¬ bit (S 17 a) k = 1 := z11; omega)), rfl, rfl⟩)
  · refine m_iconst d_m_isEffective_14 ?_
    refine m_goto (tgt := 19) d_m_isEffective_15 (by decide) ?_
    exact m_zret rfl d_m_isEffective_19 (by omega) (⟨congrArg (fun z => some (Value.int (iI z))) (by have q := bit_01 (S 17 a) k; first | (have y : bit (S 17 a) k = 1 := z11; omega) | (have y : ¬ bit (S 17 a) k = 1 := z11; omega)), rfl, rfl⟩)
theorem t_m_isListening {g : xG} {x0 : Nat} {ad : Nat → Nat} {tt : Int} {S : gS} {a k : Int} (hI : Inv S) (ha : 0 ≤ a) (ha2 : a < S 11 0) (hk : 0 ≤ k) (hk2 : k < 31) : mM g y_m_isListening k_m_isListening M_m_isListening x0 ad [.int (iI a), .int (iI k)] tt S (fun v t9 S9 => v = some (.int (iI (bit (S 18 a) k))) ∧ tt = t9 ∧ S = S9) := by
  refine mM.of rfl (by decide) rfl rfl rfl (by simp [Value.category]) (Nat.le_of_ble_eq_true rfl) rfl (fun h0 => ?_)
  obtain ⟨hR, hi1, hi2, hi3, hi4, hi5, hi6, hi7⟩ := id hI
  obtain ⟨him, hgr, hco, hck⟩ := id hi1
  have hb := hi3 a (Or.inl ⟨ha, ha2⟩)
  refine m_aload_n d_m_isListening_0 rfl ?_
  refine mg_57 d_m_isListening_1 rfl ?_
  refine m_iload_n d_m_isListening_4 rfl ?_
  refine m_ald 25 rfl (by decide) rfl d_m_isListening_5 (by omega) (by omega) ?_
  refine m_iload_n d_m_isListening_6 rfl ?_
  refine m_ishrI d_m_isListening_7 (by omega) (by omega) (by omega) (by omega) ?_
  refine m_iconst d_m_isListening_8 ?_
  refine m_iand1 d_m_isListening_9 (Int.ediv_nonneg (by omega) (Int.le_of_lt (Int.pow_pos (by omega)))) ?_
  refine m_iconst d_m_isListening_10 ?_
  refine m_icmp_ne (tgt := 18) d_m_isListening_11 (by decide) (by first | assumption | exact hR _ _ (by decide) | (unfold R32; omega)) (by first | assumption | exact hR _ _ (by decide) | (unfold R32; omega)) (fun z11 => ?_) (fun z11 => ?_)
  · refine m_iconst d_m_isListening_18 ?_
    exact m_zret rfl d_m_isListening_19 (by omega) (⟨congrArg (fun z => some (Value.int (iI z))) (by have q := bit_01 (S 18 a) k; first | (have y : bit (S 18 a) k = 1 := z11; omega) | (have y : ¬ bit (S 18 a) k = 1 := z11; omega)), rfl, rfl⟩)
  · refine m_iconst d_m_isListening_14 ?_
    refine m_goto (tgt := 19) d_m_isListening_15 (by decide) ?_
    exact m_zret rfl d_m_isListening_19 (by omega) (⟨congrArg (fun z => some (Value.int (iI z))) (by have q := bit_01 (S 18 a) k; first | (have y : bit (S 18 a) k = 1 := z11; omega) | (have y : ¬ bit (S 18 a) k = 1 := z11; omega)), rfl, rfl⟩)
def may (S : gS) (c f : Int) : Int := if S 19 c = 0 ∧ (4 ≤ f ∨ bit (S 17 c) 1 = 1) then 1 else 0
theorem may_s (S : gS) (c f : Int) : (may S c f = 1 ∧ S 19 c = 0 ∧ (4 ≤ f ∨ bit (S 17 c) 1 = 1)) ∨ (may S c f = 0 ∧ ¬ (S 19 c = 0 ∧ (4 ≤ f ∨ bit (S 17 c) 1 = 1))) := by
  unfold may; split <;> omega
theorem csee_b {S : gS} (h : Inv6 S) (c f : Int) : 0 ≤ csee S c f ∧ csee S c f ≤ 999 := by
  have := see_b h (S 12 c) f
  exact lyr_b h this.1 this.2
theorem t_m_mayChange {g : xG} {x0 : Nat} {ad : Nat → Nat} {tt : Int} {S : gS} {c f : Int} (hI : Inv S) (hc : 0 ≤ c) (hc2 : c < S 11 0) (hf : R32 f) : mM g y_m_mayChange k_m_mayChange M_m_mayChange x0 ad [.int (iI c), .int (iI f)] tt S (fun v t9 S9 => v = some (.int (iI (may S c f))) ∧ tt = t9 ∧ S = S9) := by
  refine mM.of rfl (by decide) rfl rfl rfl (by simp [Value.category]) (Nat.le_of_ble_eq_true rfl) rfl (fun h0 => ?_)
  obtain ⟨hR, hi1, hi2, hi3, hi4, hi5, hi6, hi7⟩ := id hI
  obtain ⟨him, hgr, hco, hck⟩ := id hi1
  have e5 := bit_01 (S 17 c) 1
  refine m_aload_n d_m_mayChange_0 rfl ?_
  refine mg_60 d_m_mayChange_1 rfl ?_
  refine m_iload_n d_m_mayChange_4 rfl ?_
  refine m_ald 20 rfl (by decide) rfl d_m_mayChange_5 (by omega) (by omega) ?_
  refine m_if_ne (tgt := 27) d_m_mayChange_6 (by decide) (by first | assumption | exact hR _ _ (by decide) | (unfold R32; omega)) (fun z6 => ?_) (fun z6 => ?_)
  · refine m_iconst d_m_mayChange_27 ?_
    exact m_zret rfl d_m_mayChange_28 (by omega) (⟨congrArg (fun z => some (Value.int (iI z))) (by unfold may; (repeat' split) <;> omega), rfl, rfl⟩)
  · refine m_iload_n d_m_mayChange_9 rfl ?_
    refine m_iconst d_m_mayChange_10 ?_
    refine m_icmp_ge (tgt := 23) d_m_mayChange_11 (by decide) (by first | assumption | exact hR _ _ (by decide) | (unfold R32; omega)) (by first | assumption | exact hR _ _ (by decide) | (unfold R32; omega)) (fun z11 => ?_) (fun z11 => ?_)
    · refine m_iconst d_m_mayChange_23 ?_
      refine m_goto (tgt := 28) d_m_mayChange_24 (by decide) ?_
      exact m_zret rfl d_m_mayChange_28 (by omega) (⟨congrArg (fun z => some (Value.int (iI z))) (by unfold may; (repeat' split) <;> omega), rfl, rfl⟩)
    · refine m_aload_n d_m_mayChange_14 rfl ?_
      refine m_iload_n d_m_mayChange_15 rfl ?_
      refine m_iconst d_m_mayChange_16 ?_
      refine m_callV d_m_mayChange_17 q_m_mayChange_173 s_m_isEffective v_m_isEffective rfl (t_m_isEffective hI (by omega) (by omega) (by omega) (by omega)) rfl rfl (Nat.le_of_ble_eq_true rfl) rfl rfl rfl ?_
      rintro _ _ _ ⟨rfl, rfl, rfl⟩
      refine m_if_eq (tgt := 27) d_m_mayChange_20 (by decide) (by first | assumption | exact hR _ _ (by decide) | (unfold R32; omega)) (fun z20 => ?_) (fun z20 => ?_)
      · refine m_iconst d_m_mayChange_27 ?_
        exact m_zret rfl d_m_mayChange_28 (by omega) (⟨congrArg (fun z => some (Value.int (iI z))) (by unfold may; (repeat' split) <;> omega), rfl, rfl⟩)
      · refine m_iconst d_m_mayChange_23 ?_
        refine m_goto (tgt := 28) d_m_mayChange_24 (by decide) ?_
        exact m_zret rfl d_m_mayChange_28 (by omega) (⟨congrArg (fun z => some (Value.int (iI z))) (by unfold may; (repeat' split) <;> omega), rfl, rfl⟩)
def cd_writeFile (S : gS) (c f v : Int) : Int := if ¬ (0 ≤ c ∧ c < S 11 0 ∧ 0 ≤ f ∧ f < 32) then 1 else if ¬ (1 ≤ v ∧ v ≤ 999) then 2 else if may S c f = 0 then 3 else 0
def vl_writeFile (S : gS) (c f v : Int) : Int := csee S c f
def st_writeFile (S : gS) (c f v : Int) : gS := sset S 1 (32 * (10 + c) + f) v
theorem t_m_writeFile {g : xG} {x0 : Nat} {ad : Nat → Nat} {tt : Int} {S : gS} {c f v : Int} (hI : Inv S) (hc : R32 c) (hf : R32 f) (hv : R32 v) : mM g y_m_writeFile k_m_writeFile M_m_writeFile x0 ad [.int (iI c), .int (iI f), .int (iI v)] tt S (opQ S (cd_writeFile S c f v) (vl_writeFile S c f v) (st_writeFile S c f v)) := by
  refine mM.of rfl (by decide) rfl rfl rfl (by simp [Value.category]) (Nat.le_of_ble_eq_true rfl) rfl (fun h0 => ?_)
  obtain ⟨hR, hi1, hi2, hi3, hi4, hi5, hi6, hi7⟩ := id hI
  obtain ⟨him, hgr, hco, hck⟩ := id hi1
  have e1 := isin_s c (S 11 0)
  have e2 := isin_s f 32
  have e3 := ict_s v
  have e4 := may_s S c f
  refine m_aload_n d_m_writeFile_0 rfl ?_
  refine m_iload_n d_m_writeFile_1 rfl ?_
  refine m_callV d_m_writeFile_2 q_m_writeFile_123 s_m_isContainer v_m_isContainer rfl (t_m_isContainer hR (by assumption)) rfl rfl (Nat.le_of_ble_eq_true rfl) rfl rfl rfl ?_
  rintro _ _ _ ⟨rfl, rfl, rfl⟩
  refine m_if_eq (tgt := 21) d_m_writeFile_5 (by decide) (by first | assumption | exact hR _ _ (by decide) | (unfold R32; omega)) (fun z5 => ?_) (fun z5 => ?_)
  · refine m_iconst d_m_writeFile_21 ?_
    refine m_istore d_m_writeFile_22 (by decide) ?_
    refine m_aload_n d_m_writeFile_24 rfl ?_
    refine m_iload d_m_writeFile_25 rfl ?_
    refine m_if_ne (tgt := 34) d_m_writeFile_27 (by decide) (by first | assumption | exact hR _ _ (by decide) | (unfold R32; omega)) (fun z27 => ?_) (fun z27 => ?_)
    · exact absurd z27 (by decide)
    · refine m_iconst d_m_writeFile_30 ?_
      refine m_goto (tgt := 59) d_m_writeFile_31 (by decide) ?_
      refine m_callV d_m_writeFile_59 q_m_writeFile_109 s_m_holds v_m_holds rfl (t_m_holds ⟨by omega, by omega⟩) rfl rfl (Nat.le_of_ble_eq_true rfl) rfl rfl rfl ?_
      rintro _ _ _ ⟨rfl, rfl, rfl⟩
      refine m_if_ne (tgt := 67) d_m_writeFile_62 (by decide) (by first | assumption | exact hR _ _ (by decide) | (unfold R32; omega)) (fun z62 => ?_) (fun z62 => ?_)
      · exact absurd z62 (by decide)
      · refine m_iconst d_m_writeFile_65 ?_
        exact m_iret rfl d_m_writeFile_66 (opQ.bad (by unfold cd_writeFile; (repeat' split) <;> omega) (by decide))
  · refine m_iload_n d_m_writeFile_8 rfl ?_
    refine m_bipush d_m_writeFile_9 (by decide) ?_
    refine m_callS d_m_writeFile_11 q_m_writeFile_90 s_m_isIn (t_m_isIn g hf ⟨by omega, by omega⟩) rfl rfl (Nat.le_of_ble_eq_true rfl) rfl rfl rfl ?_
    rintro _ rfl
    refine m_if_eq (tgt := 21) d_m_writeFile_14 (by decide) (by first | assumption | exact hR _ _ (by decide) | (unfold R32; omega)) (fun z14 => ?_) (fun z14 => ?_)
    · refine m_iconst d_m_writeFile_21 ?_
      refine m_istore d_m_writeFile_22 (by decide) ?_
      refine m_aload_n d_m_writeFile_24 rfl ?_
      refine m_iload d_m_writeFile_25 rfl ?_
      refine m_if_ne (tgt := 34) d_m_writeFile_27 (by decide) (by first | assumption | exact hR _ _ (by decide) | (unfold R32; omega)) (fun z27 => ?_) (fun z27 => ?_)
      · exact absurd z27 (by decide)
      · refine m_iconst d_m_writeFile_30 ?_
        refine m_goto (tgt := 59) d_m_writeFile_31 (by decide) ?_
        refine m_callV d_m_writeFile_59 q_m_writeFile_109 s_m_holds v_m_holds rfl (t_m_holds ⟨by omega, by omega⟩) rfl rfl (Nat.le_of_ble_eq_true rfl) rfl rfl rfl ?_
        rintro _ _ _ ⟨rfl, rfl, rfl⟩
        refine m_if_ne (tgt := 67) d_m_writeFile_62 (by decide) (by first | assumption | exact hR _ _ (by decide) | (unfold R32; omega)) (fun z62 => ?_) (fun z62 => ?_)
        · exact absurd z62 (by decide)
        · refine m_iconst d_m_writeFile_65 ?_
          exact m_iret rfl d_m_writeFile_66 (opQ.bad (by unfold cd_writeFile; (repeat' split) <;> omega) (by decide))
    · refine m_iconst d_m_writeFile_17 ?_
      refine m_goto (tgt := 22) d_m_writeFile_18 (by decide) ?_
      refine m_istore d_m_writeFile_22 (by decide) ?_
      refine m_aload_n d_m_writeFile_24 rfl ?_
      refine m_iload d_m_writeFile_25 rfl ?_
      refine m_if_ne (tgt := 34) d_m_writeFile_27 (by decide) (by first | assumption | exact hR _ _ (by decide) | (unfold R32; omega)) (fun z27 => ?_) (fun z27 => ?_)
      · refine m_iload_n d_m_writeFile_34 rfl ?_
        refine m_callS d_m_writeFile_35 q_m_writeFile_116 s_m_isContent (t_m_isContent g hv) rfl rfl (Nat.le_of_ble_eq_true rfl) rfl rfl rfl ?_
        rintro _ rfl
        refine m_if_ne (tgt := 45) d_m_writeFile_38 (by decide) (by first | assumption | exact hR _ _ (by decide) | (unfold R32; omega)) (fun z38 => ?_) (fun z38 => ?_)
        · refine m_aload_n d_m_writeFile_45 rfl ?_
          refine m_iload_n d_m_writeFile_46 rfl ?_
          refine m_iload_n d_m_writeFile_47 rfl ?_
          refine m_callV d_m_writeFile_48 q_m_writeFile_176 s_m_mayChange v_m_mayChange rfl (t_m_mayChange hI (by omega) (by omega) hf) rfl rfl (Nat.le_of_ble_eq_true rfl) rfl rfl rfl ?_
          rintro _ _ _ ⟨rfl, rfl, rfl⟩
          refine m_if_eq (tgt := 58) d_m_writeFile_51 (by decide) (by first | assumption | exact hR _ _ (by decide) | (unfold R32; omega)) (fun z51 => ?_) (fun z51 => ?_)
          · refine m_iconst d_m_writeFile_58 ?_
            refine m_callV d_m_writeFile_59 q_m_writeFile_109 s_m_holds v_m_holds rfl (t_m_holds ⟨by omega, by omega⟩) rfl rfl (Nat.le_of_ble_eq_true rfl) rfl rfl rfl ?_
            rintro _ _ _ ⟨rfl, rfl, rfl⟩
            refine m_if_ne (tgt := 67) d_m_writeFile_62 (by decide) (by first | assumption | exact hR _ _ (by decide) | (unfold R32; omega)) (fun z62 => ?_) (fun z62 => ?_)
            · exact absurd z62 (by decide)
            · refine m_iconst d_m_writeFile_65 ?_
              exact m_iret rfl d_m_writeFile_66 (opQ.bad (by unfold cd_writeFile; (repeat' split) <;> omega) (by decide))
          · refine m_iconst d_m_writeFile_54 ?_
            refine m_goto (tgt := 59) d_m_writeFile_55 (by decide) ?_
            refine m_callV d_m_writeFile_59 q_m_writeFile_109 s_m_holds v_m_holds rfl (t_m_holds ⟨by omega, by omega⟩) rfl rfl (Nat.le_of_ble_eq_true rfl) rfl rfl rfl ?_
            rintro _ _ _ ⟨rfl, rfl, rfl⟩
            refine m_if_ne (tgt := 67) d_m_writeFile_62 (by decide) (by first | assumption | exact hR _ _ (by decide) | (unfold R32; omega)) (fun z62 => ?_) (fun z62 => ?_)
            · refine m_aload_n d_m_writeFile_67 rfl ?_
              refine m_iload_n d_m_writeFile_68 rfl ?_
              refine m_iload_n d_m_writeFile_69 rfl ?_
              refine m_callV d_m_writeFile_70 q_m_writeFile_179 s_m_containerSees v_m_containerSees rfl (t_m_containerSees hI (by omega) (by omega) (by omega) (by omega)) rfl rfl (Nat.le_of_ble_eq_true rfl) rfl rfl rfl ?_
              rintro _ _ _ ⟨rfl, rfl, rfl⟩
              refine m_istore d_m_writeFile_73 (by decide) ?_
              refine m_aload_n d_m_writeFile_75 rfl ?_
              refine mg_7 d_m_writeFile_76 rfl ?_
              refine m_bipush d_m_writeFile_79 (by decide) ?_
              refine m_bipush d_m_writeFile_81 (by decide) ?_
              refine m_iload_n d_m_writeFile_83 rfl ?_
              refine m_iadd d_m_writeFile_84 ?_
              refine m_imul d_m_writeFile_85 ?_
              refine m_iload_n d_m_writeFile_86 rfl ?_
              refine m_iadd d_m_writeFile_87 ?_
              refine m_iload_n d_m_writeFile_88 rfl ?_
              refine m_ast 1120 rfl (by decide) rfl d_m_writeFile_89 (by omega) (by omega) ?_
              refine m_iload d_m_writeFile_90 rfl ?_
              exact m_iret rfl d_m_writeFile_92 (opQ.good (by unfold cd_writeFile; (repeat' split) <;> omega) (rfl) (rfl))
            · exact absurd z62 (by decide)
        · refine m_iconst d_m_writeFile_41 ?_
          refine m_goto (tgt := 59) d_m_writeFile_42 (by decide) ?_
          refine m_callV d_m_writeFile_59 q_m_writeFile_109 s_m_holds v_m_holds rfl (t_m_holds ⟨by omega, by omega⟩) rfl rfl (Nat.le_of_ble_eq_true rfl) rfl rfl rfl ?_
          rintro _ _ _ ⟨rfl, rfl, rfl⟩
          refine m_if_ne (tgt := 67) d_m_writeFile_62 (by decide) (by first | assumption | exact hR _ _ (by decide) | (unfold R32; omega)) (fun z62 => ?_) (fun z62 => ?_)
          · exact absurd z62 (by decide)
          · refine m_iconst d_m_writeFile_65 ?_
            exact m_iret rfl d_m_writeFile_66 (opQ.bad (by unfold cd_writeFile; (repeat' split) <;> omega) (by decide))
      · exact absurd z27 (by decide)
def cd_removeFile (S : gS) (c f : Int) : Int := if ¬ (0 ≤ c ∧ c < S 11 0 ∧ 0 ≤ f ∧ f < 32) then 1 else if may S c f = 0 ∨ csee S c f = 0 then 2 else 0
def vl_removeFile (S : gS) (c f : Int) : Int := csee S c f
def st_removeFile (S : gS) (c f : Int) : gS := sset S 1 (32 * (10 + c) + f) (-1)
theorem t_m_removeFile {g : xG} {x0 : Nat} {ad : Nat → Nat} {tt : Int} {S : gS} {c f : Int} (hI : Inv S) (hc : R32 c) (hf : R32 f) : mM g y_m_removeFile k_m_removeFile M_m_removeFile x0 ad [.int (iI c), .int (iI f)] tt S (opQ S (cd_removeFile S c f) (vl_removeFile S c f) (st_removeFile S c f)) := by
  refine mM.of rfl (by decide) rfl rfl rfl (by simp [Value.category]) (Nat.le_of_ble_eq_true rfl) rfl (fun h0 => ?_)
  obtain ⟨hR, hi1, hi2, hi3, hi4, hi5, hi6, hi7⟩ := id hI
  obtain ⟨him, hgr, hco, hck⟩ := id hi1
  have e1 := isin_s c (S 11 0)
  have e2 := isin_s f 32
  have e4 := may_s S c f
  have e5 := csee_b hi6 c f
  refine m_aload_n d_m_removeFile_0 rfl ?_
  refine m_iload_n d_m_removeFile_1 rfl ?_
  refine m_callV d_m_removeFile_2 q_m_removeFile_123 s_m_isContainer v_m_isContainer rfl (t_m_isContainer hR (by assumption)) rfl rfl (Nat.le_of_ble_eq_true rfl) rfl rfl rfl ?_
  rintro _ _ _ ⟨rfl, rfl, rfl⟩
  refine m_if_eq (tgt := 21) d_m_removeFile_5 (by decide) (by first | assumption | exact hR _ _ (by decide) | (unfold R32; omega)) (fun z5 => ?_) (fun z5 => ?_)
  · refine m_iconst d_m_removeFile_21 ?_
    refine m_istore_n d_m_removeFile_22 (by decide) ?_
    refine m_aload_n d_m_removeFile_23 rfl ?_
    refine m_iload_n d_m_removeFile_24 rfl ?_
    refine m_if_ne (tgt := 32) d_m_removeFile_25 (by decide) (by first | assumption | exact hR _ _ (by decide) | (unfold R32; omega)) (fun z25 => ?_) (fun z25 => ?_)
    · exact absurd z25 (by decide)
    · refine m_iconst d_m_removeFile_28 ?_
      refine m_goto (tgt := 55) d_m_removeFile_29 (by decide) ?_
      refine m_callV d_m_removeFile_55 q_m_removeFile_109 s_m_holds v_m_holds rfl (t_m_holds ⟨by omega, by omega⟩) rfl rfl (Nat.le_of_ble_eq_true rfl) rfl rfl rfl ?_
      rintro _ _ _ ⟨rfl, rfl, rfl⟩
      refine m_if_ne (tgt := 63) d_m_removeFile_58 (by decide) (by first | assumption | exact hR _ _ (by decide) | (unfold R32; omega)) (fun z58 => ?_) (fun z58 => ?_)
      · exact absurd z58 (by decide)
      · refine m_iconst d_m_removeFile_61 ?_
        exact m_iret rfl d_m_removeFile_62 (opQ.bad (by unfold cd_removeFile; (repeat' split) <;> omega) (by decide))
  · refine m_iload_n d_m_removeFile_8 rfl ?_
    refine m_bipush d_m_removeFile_9 (by decide) ?_
    refine m_callS d_m_removeFile_11 q_m_removeFile_90 s_m_isIn (t_m_isIn g hf ⟨by omega, by omega⟩) rfl rfl (Nat.le_of_ble_eq_true rfl) rfl rfl rfl ?_
    rintro _ rfl
    refine m_if_eq (tgt := 21) d_m_removeFile_14 (by decide) (by first | assumption | exact hR _ _ (by decide) | (unfold R32; omega)) (fun z14 => ?_) (fun z14 => ?_)
    · refine m_iconst d_m_removeFile_21 ?_
      refine m_istore_n d_m_removeFile_22 (by decide) ?_
      refine m_aload_n d_m_removeFile_23 rfl ?_
      refine m_iload_n d_m_removeFile_24 rfl ?_
      refine m_if_ne (tgt := 32) d_m_removeFile_25 (by decide) (by first | assumption | exact hR _ _ (by decide) | (unfold R32; omega)) (fun z25 => ?_) (fun z25 => ?_)
      · exact absurd z25 (by decide)
      · refine m_iconst d_m_removeFile_28 ?_
        refine m_goto (tgt := 55) d_m_removeFile_29 (by decide) ?_
        refine m_callV d_m_removeFile_55 q_m_removeFile_109 s_m_holds v_m_holds rfl (t_m_holds ⟨by omega, by omega⟩) rfl rfl (Nat.le_of_ble_eq_true rfl) rfl rfl rfl ?_
        rintro _ _ _ ⟨rfl, rfl, rfl⟩
        refine m_if_ne (tgt := 63) d_m_removeFile_58 (by decide) (by first | assumption | exact hR _ _ (by decide) | (unfold R32; omega)) (fun z58 => ?_) (fun z58 => ?_)
        · exact absurd z58 (by decide)
        · refine m_iconst d_m_removeFile_61 ?_
          exact m_iret rfl d_m_removeFile_62 (opQ.bad (by unfold cd_removeFile; (repeat' split) <;> omega) (by decide))
    · refine m_iconst d_m_removeFile_17 ?_
      refine m_goto (tgt := 22) d_m_removeFile_18 (by decide) ?_
      refine m_istore_n d_m_removeFile_22 (by decide) ?_
      refine m_aload_n d_m_removeFile_23 rfl ?_
      refine m_iload_n d_m_removeFile_24 rfl ?_
      refine m_if_ne (tgt := 32) d_m_removeFile_25 (by decide) (by first | assumption | exact hR _ _ (by decide) | (unfold R32; omega)) (fun z25 => ?_) (fun z25 => ?_)
      · refine m_aload_n d_m_removeFile_32 rfl ?_
        refine m_iload_n d_m_removeFile_33 rfl ?_
        refine m_iload_n d_m_removeFile_34 rfl ?_
        refine m_callV d_m_removeFile_35 q_m_removeFile_176 s_m_mayChange v_m_mayChange rfl (t_m_mayChange hI (by omega) (by omega) hf) rfl rfl (Nat.le_of_ble_eq_true rfl) rfl rfl rfl ?_
        rintro _ _ _ ⟨rfl, rfl, rfl⟩
        refine m_if_eq (tgt := 54) d_m_removeFile_38 (by decide) (by first | assumption | exact hR _ _ (by decide) | (unfold R32; omega)) (fun z38 => ?_) (fun z38 => ?_)
        · refine m_iconst d_m_removeFile_54 ?_
          refine m_callV d_m_removeFile_55 q_m_removeFile_109 s_m_holds v_m_holds rfl (t_m_holds ⟨by omega, by omega⟩) rfl rfl (Nat.le_of_ble_eq_true rfl) rfl rfl rfl ?_
          rintro _ _ _ ⟨rfl, rfl, rfl⟩
          refine m_if_ne (tgt := 63) d_m_removeFile_58 (by decide) (by first | assumption | exact hR _ _ (by decide) | (unfold R32; omega)) (fun z58 => ?_) (fun z58 => ?_)
          · exact absurd z58 (by decide)
          · refine m_iconst d_m_removeFile_61 ?_
            exact m_iret rfl d_m_removeFile_62 (opQ.bad (by unfold cd_removeFile; (repeat' split) <;> omega) (by decide))
        · refine m_aload_n d_m_removeFile_41 rfl ?_
          refine m_iload_n d_m_removeFile_42 rfl ?_
          refine m_iload_n d_m_removeFile_43 rfl ?_
          refine m_callV d_m_removeFile_44 q_m_removeFile_179 s_m_containerSees v_m_containerSees rfl (t_m_containerSees hI (by omega) (by omega) (by omega) (by omega)) rfl rfl (Nat.le_of_ble_eq_true rfl) rfl rfl rfl ?_
          rintro _ _ _ ⟨rfl, rfl, rfl⟩
          refine m_if_le (tgt := 54) d_m_removeFile_47 (by decide) (by first | assumption | exact hR _ _ (by decide) | (unfold R32; omega)) (fun z47 => ?_) (fun z47 => ?_)
          · refine m_iconst d_m_removeFile_54 ?_
            refine m_callV d_m_removeFile_55 q_m_removeFile_109 s_m_holds v_m_holds rfl (t_m_holds ⟨by omega, by omega⟩) rfl rfl (Nat.le_of_ble_eq_true rfl) rfl rfl rfl ?_
            rintro _ _ _ ⟨rfl, rfl, rfl⟩
            refine m_if_ne (tgt := 63) d_m_removeFile_58 (by decide) (by first | assumption | exact hR _ _ (by decide) | (unfold R32; omega)) (fun z58 => ?_) (fun z58 => ?_)
            · exact absurd z58 (by decide)
            · refine m_iconst d_m_removeFile_61 ?_
              exact m_iret rfl d_m_removeFile_62 (opQ.bad (by unfold cd_removeFile; (repeat' split) <;> omega) (by decide))
          · refine m_iconst d_m_removeFile_50 ?_
            refine m_goto (tgt := 55) d_m_removeFile_51 (by decide) ?_
            refine m_callV d_m_removeFile_55 q_m_removeFile_109 s_m_holds v_m_holds rfl (t_m_holds ⟨by omega, by omega⟩) rfl rfl (Nat.le_of_ble_eq_true rfl) rfl rfl rfl ?_
            rintro _ _ _ ⟨rfl, rfl, rfl⟩
            refine m_if_ne (tgt := 63) d_m_removeFile_58 (by decide) (by first | assumption | exact hR _ _ (by decide) | (unfold R32; omega)) (fun z58 => ?_) (fun z58 => ?_)
            · refine m_aload_n d_m_removeFile_63 rfl ?_
              refine m_iload_n d_m_removeFile_64 rfl ?_
              refine m_iload_n d_m_removeFile_65 rfl ?_
              refine m_callV d_m_removeFile_66 q_m_removeFile_179 s_m_containerSees v_m_containerSees rfl (t_m_containerSees hI (by omega) (by omega) (by omega) (by omega)) rfl rfl (Nat.le_of_ble_eq_true rfl) rfl rfl rfl ?_
              rintro _ _ _ ⟨rfl, rfl, rfl⟩
              refine m_istore d_m_removeFile_69 (by decide) ?_
              refine m_aload_n d_m_removeFile_71 rfl ?_
              refine mg_7 d_m_removeFile_72 rfl ?_
              refine m_bipush d_m_removeFile_75 (by decide) ?_
              refine m_bipush d_m_removeFile_77 (by decide) ?_
              refine m_iload_n d_m_removeFile_79 rfl ?_
              refine m_iadd d_m_removeFile_80 ?_
              refine m_imul d_m_removeFile_81 ?_
              refine m_iload_n d_m_removeFile_82 rfl ?_
              refine m_iadd d_m_removeFile_83 ?_
              refine m_iconst d_m_removeFile_84 ?_
              refine m_ast 1120 rfl (by decide) rfl d_m_removeFile_85 (by omega) (by omega) ?_
              refine m_iload d_m_removeFile_86 rfl ?_
              exact m_iret rfl d_m_removeFile_88 (opQ.good (by unfold cd_removeFile; (repeat' split) <;> omega) (rfl) (rfl))
            · exact absurd z58 (by decide)
      · exact absurd z25 (by decide)
def cd_fileOf (S : gS) (c f : Int) : Int := if 0 ≤ c ∧ c < S 11 0 ∧ 0 ≤ f ∧ f < 32 then 0 else 1
def vl_fileOf (S : gS) (c f : Int) : Int := csee S c f
def st_fileOf (S : gS) (c f : Int) : gS := S
theorem t_m_fileOf {g : xG} {x0 : Nat} {ad : Nat → Nat} {tt : Int} {S : gS} {c f : Int} (hI : Inv S) (hc : R32 c) (hf : R32 f) : mM g y_m_fileOf k_m_fileOf M_m_fileOf x0 ad [.int (iI c), .int (iI f)] tt S (opQ S (cd_fileOf S c f) (vl_fileOf S c f) (st_fileOf S c f)) := by
  refine mM.of rfl (by decide) rfl rfl rfl (by simp [Value.category]) (Nat.le_of_ble_eq_true rfl) rfl (fun h0 => ?_)
  obtain ⟨hR, hi1, hi2, hi3, hi4, hi5, hi6, hi7⟩ := id hI
  obtain ⟨him, hgr, hco, hck⟩ := id hi1
  have e1 := isin_s c (S 11 0)
  have e2 := isin_s f 32
  refine m_aload_n d_m_fileOf_0 rfl ?_
  refine m_aload_n d_m_fileOf_1 rfl ?_
  refine m_iload_n d_m_fileOf_2 rfl ?_
  refine m_callV d_m_fileOf_3 q_m_fileOf_123 s_m_isContainer v_m_isContainer rfl (t_m_isContainer hR (by assumption)) rfl rfl (Nat.le_of_ble_eq_true rfl) rfl rfl rfl ?_
  rintro _ _ _ ⟨rfl, rfl, rfl⟩
  refine m_if_eq (tgt := 22) d_m_fileOf_6 (by decide) (by first | assumption | exact hR _ _ (by decide) | (unfold R32; omega)) (fun z6 => ?_) (fun z6 => ?_)
  · refine m_iconst d_m_fileOf_22 ?_
    refine m_callV d_m_fileOf_23 q_m_fileOf_109 s_m_holds v_m_holds rfl (t_m_holds ⟨by omega, by omega⟩) rfl rfl (Nat.le_of_ble_eq_true rfl) rfl rfl rfl ?_
    rintro _ _ _ ⟨rfl, rfl, rfl⟩
    refine m_if_eq (tgt := 38) d_m_fileOf_26 (by decide) (by first | assumption | exact hR _ _ (by decide) | (unfold R32; omega)) (fun z26 => ?_) (fun z26 => ?_)
    · refine m_iconst d_m_fileOf_38 ?_
      exact m_iret rfl d_m_fileOf_39 (by first | exact opQ.bad (by unfold cd_fileOf; (repeat' split) <;> omega) (by decide) | exact opQ.good (by unfold cd_fileOf; (repeat' split) <;> omega) rfl rfl)
    · exact absurd z26 (by decide)
  · refine m_iload_n d_m_fileOf_9 rfl ?_
    refine m_bipush d_m_fileOf_10 (by decide) ?_
    refine m_callS d_m_fileOf_12 q_m_fileOf_90 s_m_isIn (t_m_isIn g hf ⟨by omega, by omega⟩) rfl rfl (Nat.le_of_ble_eq_true rfl) rfl rfl rfl ?_
    rintro _ rfl
    refine m_if_eq (tgt := 22) d_m_fileOf_15 (by decide) (by first | assumption | exact hR _ _ (by decide) | (unfold R32; omega)) (fun z15 => ?_) (fun z15 => ?_)
    · refine m_iconst d_m_fileOf_22 ?_
      refine m_callV d_m_fileOf_23 q_m_fileOf_109 s_m_holds v_m_holds rfl (t_m_holds ⟨by omega, by omega⟩) rfl rfl (Nat.le_of_ble_eq_true rfl) rfl rfl rfl ?_
      rintro _ _ _ ⟨rfl, rfl, rfl⟩
      refine m_if_eq (tgt := 38) d_m_fileOf_26 (by decide) (by first | assumption | exact hR _ _ (by decide) | (unfold R32; omega)) (fun z26 => ?_) (fun z26 => ?_)
      · refine m_iconst d_m_fileOf_38 ?_
        exact m_iret rfl d_m_fileOf_39 (by first | exact opQ.bad (by unfold cd_fileOf; (repeat' split) <;> omega) (by decide) | exact opQ.good (by unfold cd_fileOf; (repeat' split) <;> omega) rfl rfl)
      · exact absurd z26 (by decide)
    · refine m_iconst d_m_fileOf_18 ?_
      refine m_goto (tgt := 23) d_m_fileOf_19 (by decide) ?_
      refine m_callV d_m_fileOf_23 q_m_fileOf_109 s_m_holds v_m_holds rfl (t_m_holds ⟨by omega, by omega⟩) rfl rfl (Nat.le_of_ble_eq_true rfl) rfl rfl rfl ?_
      rintro _ _ _ ⟨rfl, rfl, rfl⟩
      refine m_if_eq (tgt := 38) d_m_fileOf_26 (by decide) (by first | assumption | exact hR _ _ (by decide) | (unfold R32; omega)) (fun z26 => ?_) (fun z26 => ?_)
      · exact absurd z26 (by decide)
      · refine m_aload_n d_m_fileOf_29 rfl ?_
        refine m_iload_n d_m_fileOf_30 rfl ?_
        refine m_iload_n d_m_fileOf_31 rfl ?_
        refine m_callV d_m_fileOf_32 q_m_fileOf_179 s_m_containerSees v_m_containerSees rfl (t_m_containerSees hI (by omega) (by omega) (by omega) (by omega)) rfl rfl (Nat.le_of_ble_eq_true rfl) rfl rfl rfl ?_
        rintro _ _ _ ⟨rfl, rfl, rfl⟩
        refine m_goto (tgt := 39) d_m_fileOf_35 (by decide) ?_
        exact m_iret rfl d_m_fileOf_39 (by first | exact opQ.bad (by unfold cd_fileOf; (repeat' split) <;> omega) (by decide) | exact opQ.good (by unfold cd_fileOf; (repeat' split) <;> omega) rfl rfl)
def icp (S : gS) (c k b : Int) : Int := if ¬ (0 ≤ c ∧ c < S 11 0 ∧ 0 ≤ k ∧ k < 4) then 1 else if S 19 c ≠ 0 ∨ (b = 1 ∧ bit (S 16 c) k = 0) then 2 else 0
def icq (S : gS) (c k b : Int) : Int := if icp S c k b = 0 then 1 else 0
theorem icq_s (S : gS) (c k b : Int) : (icq S c k b = 1 ∧ icp S c k b = 0 ∧ 0 ≤ c ∧ c < S 11 0 ∧ 0 ≤ k ∧ k < 4 ∧ S 19 c = 0) ∨ (icq S c k b = 0 ∧ icp S c k b ≠ 0) := by
  unfold icq icp
  (repeat' split) <;> omega
theorem t_m_isCapability {g : xG} {x0 : Nat} {ad : Nat → Nat} {tt : Int} {S : gS} {c k b : Int} (hI : Inv S) (hc : R32 c) (hk : R32 k) (hb : b = 0 ∨ b = 1) : mM g y_m_isCapability k_m_isCapability M_m_isCapability x0 ad [.int (iI c), .int (iI k), .int (iI b)] tt S (fun v t9 S9 => v = some (.int (iI (icq S c k b))) ∧ icp S c k b = t9 ∧ S = S9) := by
  refine mM.of rfl (by decide) rfl rfl rfl (by simp [Value.category]) (Nat.le_of_ble_eq_true rfl) rfl (fun h0 => ?_)
  obtain ⟨hR, hi1, hi2, hi3, hi4, hi5, hi6, hi7⟩ := id hI
  obtain ⟨him, hgr, hco, hck⟩ := id hi1
  have e1 := isin_s c (S 11 0)
  have e2 := isin_s k 4
  refine m_aload_n d_m_isCapability_0 rfl ?_
  refine m_iload_n d_m_isCapability_1 rfl ?_
  refine m_callV d_m_isCapability_2 q_m_isCapability_123 s_m_isContainer v_m_isContainer rfl (t_m_isContainer hR (by assumption)) rfl rfl (Nat.le_of_ble_eq_true rfl) rfl rfl rfl ?_
  rintro _ _ _ ⟨rfl, rfl, rfl⟩
  refine m_if_eq (tgt := 20) d_m_isCapability_5 (by decide) (by first | assumption | exact hR _ _ (by decide) | (unfold R32; omega)) (fun z5 => ?_) (fun z5 => ?_)
  · refine m_iconst d_m_isCapability_20 ?_
    refine m_istore d_m_isCapability_21 (by decide) ?_
    refine m_aload_n d_m_isCapability_23 rfl ?_
    refine m_iload d_m_isCapability_24 rfl ?_
    refine m_if_ne (tgt := 33) d_m_isCapability_26 (by decide) (by first | assumption | exact hR _ _ (by decide) | (unfold R32; omega)) (fun z26 => ?_) (fun z26 => ?_)
    · exact absurd z26 (by decide)
    · refine m_iconst d_m_isCapability_29 ?_
      refine m_goto (tgt := 64) d_m_isCapability_30 (by decide) ?_
      refine m_callV d_m_isCapability_64 q_m_isCapability_109 s_m_holds v_m_holds rfl (t_m_holds ⟨by omega, by omega⟩) rfl rfl (Nat.le_of_ble_eq_true rfl) rfl rfl rfl ?_
      rintro _ _ _ ⟨rfl, rfl, rfl⟩
      exact m_zret rfl d_m_isCapability_67 (by omega) (by first | (have y : ¬ bit (S 16 c) k = 0 := z56; exact ⟨congrArg (fun z => some (Value.int (iI z))) (by unfold icq icp; (repeat' split) <;> omega), by unfold icp; (repeat' split) <;> omega, rfl⟩) | (have y : bit (S 16 c) k = 0 := z56; exact ⟨congrArg (fun z => some (Value.int (iI z))) (by unfold icq icp; (repeat' split) <;> omega), by unfold icp; (repeat' split) <;> omega, rfl⟩) | exact ⟨congrArg (fun z => some (Value.int (iI z))) (by unfold icq icp; (repeat' split) <;> omega), by unfold icp; (repeat' split) <;> omega, rfl⟩)
  · refine m_iload_n d_m_isCapability_8 rfl ?_
    refine m_iconst d_m_isCapability_9 ?_
    refine m_callS d_m_isCapability_10 q_m_isCapability_90 s_m_isIn (t_m_isIn g hk ⟨by omega, by omega⟩) rfl rfl (Nat.le_of_ble_eq_true rfl) rfl rfl rfl ?_
    rintro _ rfl
    refine m_if_eq (tgt := 20) d_m_isCapability_13 (by decide) (by first | assumption | exact hR _ _ (by decide) | (unfold R32; omega)) (fun z13 => ?_) (fun z13 => ?_)
    · refine m_iconst d_m_isCapability_20 ?_
      refine m_istore d_m_isCapability_21 (by decide) ?_
      refine m_aload_n d_m_isCapability_23 rfl ?_
      refine m_iload d_m_isCapability_24 rfl ?_
      refine m_if_ne (tgt := 33) d_m_isCapability_26 (by decide) (by first | assumption | exact hR _ _ (by decide) | (unfold R32; omega)) (fun z26 => ?_) (fun z26 => ?_)
      · exact absurd z26 (by decide)
      · refine m_iconst d_m_isCapability_29 ?_
        refine m_goto (tgt := 64) d_m_isCapability_30 (by decide) ?_
        refine m_callV d_m_isCapability_64 q_m_isCapability_109 s_m_holds v_m_holds rfl (t_m_holds ⟨by omega, by omega⟩) rfl rfl (Nat.le_of_ble_eq_true rfl) rfl rfl rfl ?_
        rintro _ _ _ ⟨rfl, rfl, rfl⟩
        exact m_zret rfl d_m_isCapability_67 (by omega) (by first | (have y : ¬ bit (S 16 c) k = 0 := z56; exact ⟨congrArg (fun z => some (Value.int (iI z))) (by unfold icq icp; (repeat' split) <;> omega), by unfold icp; (repeat' split) <;> omega, rfl⟩) | (have y : bit (S 16 c) k = 0 := z56; exact ⟨congrArg (fun z => some (Value.int (iI z))) (by unfold icq icp; (repeat' split) <;> omega), by unfold icp; (repeat' split) <;> omega, rfl⟩) | exact ⟨congrArg (fun z => some (Value.int (iI z))) (by unfold icq icp; (repeat' split) <;> omega), by unfold icp; (repeat' split) <;> omega, rfl⟩)
    · refine m_iconst d_m_isCapability_16 ?_
      refine m_goto (tgt := 21) d_m_isCapability_17 (by decide) ?_
      refine m_istore d_m_isCapability_21 (by decide) ?_
      refine m_aload_n d_m_isCapability_23 rfl ?_
      refine m_iload d_m_isCapability_24 rfl ?_
      refine m_if_ne (tgt := 33) d_m_isCapability_26 (by decide) (by first | assumption | exact hR _ _ (by decide) | (unfold R32; omega)) (fun z26 => ?_) (fun z26 => ?_)
      · refine m_aload_n d_m_isCapability_33 rfl ?_
        refine mg_60 d_m_isCapability_34 rfl ?_
        refine m_iload_n d_m_isCapability_37 rfl ?_
        refine m_ald 20 rfl (by decide) rfl d_m_isCapability_38 (by omega) (by omega) ?_
        refine m_if_ne (tgt := 59) d_m_isCapability_39 (by decide) (by first | assumption | exact hR _ _ (by decide) | (unfold R32; omega)) (fun z39 => ?_) (fun z39 => ?_)
        · refine m_iconst d_m_isCapability_59 ?_
          refine m_goto (tgt := 64) d_m_isCapability_60 (by decide) ?_
          refine m_callV d_m_isCapability_64 q_m_isCapability_109 s_m_holds v_m_holds rfl (t_m_holds ⟨by omega, by omega⟩) rfl rfl (Nat.le_of_ble_eq_true rfl) rfl rfl rfl ?_
          rintro _ _ _ ⟨rfl, rfl, rfl⟩
          exact m_zret rfl d_m_isCapability_67 (by omega) (by first | (have y : ¬ bit (S 16 c) k = 0 := z56; exact ⟨congrArg (fun z => some (Value.int (iI z))) (by unfold icq icp; (repeat' split) <;> omega), by unfold icp; (repeat' split) <;> omega, rfl⟩) | (have y : bit (S 16 c) k = 0 := z56; exact ⟨congrArg (fun z => some (Value.int (iI z))) (by unfold icq icp; (repeat' split) <;> omega), by unfold icp; (repeat' split) <;> omega, rfl⟩) | exact ⟨congrArg (fun z => some (Value.int (iI z))) (by unfold icq icp; (repeat' split) <;> omega), by unfold icp; (repeat' split) <;> omega, rfl⟩)
        · refine m_iload_n d_m_isCapability_42 rfl ?_
          refine m_if_eq (tgt := 63) d_m_isCapability_43 (by decide) (by first | assumption | exact hR _ _ (by decide) | (unfold R32; omega)) (fun z43 => ?_) (fun z43 => ?_)
          · refine m_iconst d_m_isCapability_63 ?_
            refine m_callV d_m_isCapability_64 q_m_isCapability_109 s_m_holds v_m_holds rfl (t_m_holds ⟨by omega, by omega⟩) rfl rfl (Nat.le_of_ble_eq_true rfl) rfl rfl rfl ?_
            rintro _ _ _ ⟨rfl, rfl, rfl⟩
            exact m_zret rfl d_m_isCapability_67 (by omega) (by first | (have y : ¬ bit (S 16 c) k = 0 := z56; exact ⟨congrArg (fun z => some (Value.int (iI z))) (by unfold icq icp; (repeat' split) <;> omega), by unfold icp; (repeat' split) <;> omega, rfl⟩) | (have y : bit (S 16 c) k = 0 := z56; exact ⟨congrArg (fun z => some (Value.int (iI z))) (by unfold icq icp; (repeat' split) <;> omega), by unfold icp; (repeat' split) <;> omega, rfl⟩) | exact ⟨congrArg (fun z => some (Value.int (iI z))) (by unfold icq icp; (repeat' split) <;> omega), by unfold icp; (repeat' split) <;> omega, rfl⟩)
          · have e4 := hi3 c (Or.inl (by omega))
            refine m_aload_n d_m_isCapability_46 rfl ?_
            refine mg_51 d_m_isCapability_47 rfl ?_
            refine m_iload_n d_m_isCapability_50 rfl ?_
            refine m_ald 25 rfl (by decide) rfl d_m_isCapability_51 (by omega) (by omega) ?_
            refine m_iload_n d_m_isCapability_52 rfl ?_
            refine m_ishrI d_m_isCapability_53 (by omega) (by omega) (by omega) (by omega) ?_
            refine m_iconst d_m_isCapability_54 ?_
            refine m_iand1 d_m_isCapability_55 (Int.ediv_nonneg (by omega) (Int.le_of_lt (Int.pow_pos (by omega)))) ?_
            refine m_if_ne (tgt := 63) d_m_isCapability_56 (by decide) (by first | assumption | exact hR _ _ (by decide) | (unfold R32; omega)) (fun z56 => ?_) (fun z56 => ?_)
            · refine m_iconst d_m_isCapability_63 ?_
              refine m_callV d_m_isCapability_64 q_m_isCapability_109 s_m_holds v_m_holds rfl (t_m_holds ⟨by omega, by omega⟩) rfl rfl (Nat.le_of_ble_eq_true rfl) rfl rfl rfl ?_
              rintro _ _ _ ⟨rfl, rfl, rfl⟩
              exact m_zret rfl d_m_isCapability_67 (by omega) (by first | (have y : ¬ bit (S 16 c) k = 0 := z56; exact ⟨congrArg (fun z => some (Value.int (iI z))) (by unfold icq icp; (repeat' split) <;> omega), by unfold icp; (repeat' split) <;> omega, rfl⟩) | (have y : bit (S 16 c) k = 0 := z56; exact ⟨congrArg (fun z => some (Value.int (iI z))) (by unfold icq icp; (repeat' split) <;> omega), by unfold icp; (repeat' split) <;> omega, rfl⟩) | exact ⟨congrArg (fun z => some (Value.int (iI z))) (by unfold icq icp; (repeat' split) <;> omega), by unfold icp; (repeat' split) <;> omega, rfl⟩)
            · refine m_iconst d_m_isCapability_59 ?_
              refine m_goto (tgt := 64) d_m_isCapability_60 (by decide) ?_
              refine m_callV d_m_isCapability_64 q_m_isCapability_109 s_m_holds v_m_holds rfl (t_m_holds ⟨by omega, by omega⟩) rfl rfl (Nat.le_of_ble_eq_true rfl) rfl rfl rfl ?_
              rintro _ _ _ ⟨rfl, rfl, rfl⟩
              exact m_zret rfl d_m_isCapability_67 (by omega) (by first | (have y : ¬ bit (S 16 c) k = 0 := z56; exact ⟨congrArg (fun z => some (Value.int (iI z))) (by unfold icq icp; (repeat' split) <;> omega), by unfold icp; (repeat' split) <;> omega, rfl⟩) | (have y : bit (S 16 c) k = 0 := z56; exact ⟨congrArg (fun z => some (Value.int (iI z))) (by unfold icq icp; (repeat' split) <;> omega), by unfold icp; (repeat' split) <;> omega, rfl⟩) | exact ⟨congrArg (fun z => some (Value.int (iI z))) (by unfold icq icp; (repeat' split) <;> omega), by unfold icp; (repeat' split) <;> omega, rfl⟩)
      · exact absurd z26 (by decide)
def cd_raise (S : gS) (c k : Int) : Int := icp S c k 1
def vl_raise (S : gS) (c k : Int) : Int := bset (S 17 c) k
def st_raise (S : gS) (c k : Int) : gS := sset S 17 c (bset (S 17 c) k)
theorem t_m_raise {g : xG} {x0 : Nat} {ad : Nat → Nat} {tt : Int} {S : gS} {c k : Int} (hI : Inv S) (hc : R32 c) (hk : R32 k) : mM g y_m_raise k_m_raise M_m_raise x0 ad [.int (iI c), .int (iI k)] tt S (opQ S (cd_raise S c k) (vl_raise S c k) (st_raise S c k)) := by
  refine mM.of rfl (by decide) rfl rfl rfl (by simp [Value.category]) (Nat.le_of_ble_eq_true rfl) rfl (fun h0 => ?_)
  obtain ⟨hR, hi1, hi2, hi3, hi4, hi5, hi6, hi7⟩ := id hI
  obtain ⟨him, hgr, hco, hck⟩ := id hi1
  have e1 := icq_s S c k 1
  refine m_aload_n d_m_raise_0 rfl ?_
  refine m_iload_n d_m_raise_1 rfl ?_
  refine m_iload_n d_m_raise_2 rfl ?_
  refine m_iconst d_m_raise_3 ?_
  refine m_callV d_m_raise_4 q_m_raise_185 s_m_isCapability v_m_isCapability rfl (t_m_isCapability hI hc hk (b := 1) (by omega)) rfl rfl (Nat.le_of_ble_eq_true rfl) rfl rfl rfl ?_
  rintro _ _ _ ⟨rfl, rfl, rfl⟩
  refine m_if_ne (tgt := 12) d_m_raise_7 (by decide) (by first | assumption | exact hR _ _ (by decide) | (unfold R32; omega)) (fun z7 => ?_) (fun z7 => ?_)
  · have e4 := hi3 c (Or.inl (by omega))
    refine m_aload_n d_m_raise_12 rfl ?_
    refine mg_54 d_m_raise_13 rfl ?_
    refine m_iload_n d_m_raise_16 rfl ?_
    refine m_dup2 d_m_raise_17 rfl rfl ?_
    refine m_ald 25 rfl (by decide) rfl d_m_raise_18 (by omega) (by omega) ?_
    refine m_iconst d_m_raise_19 ?_
    refine m_iload_n d_m_raise_20 rfl ?_
    refine m_ishl1 d_m_raise_21 (by omega) (by omega) ?_
    refine m_iork d_m_raise_22 (by omega) ?_
    refine m_ast 25 rfl (by decide) rfl d_m_raise_23 (by omega) (by omega) ?_
    refine m_aload_n d_m_raise_24 rfl ?_
    refine mg_54 d_m_raise_25 rfl ?_
    refine m_iload_n d_m_raise_28 rfl ?_
    refine m_aldv 25 rfl (by decide) rfl (bset (S 17 c) k) (sset_e _ 17 c _) d_m_raise_29 (by omega) (by omega) ?_
    exact m_iret rfl d_m_raise_30 (opQ.good2 rfl (by unfold cd_raise; omega) rfl rfl)
  · refine m_iconst d_m_raise_10 ?_
    exact m_iret rfl d_m_raise_11 (opQ.bad rfl (by omega))
def cd_lower (S : gS) (c k : Int) : Int := icp S c k 0
def vl_lower (S : gS) (c k : Int) : Int := bclr (S 17 c) k
def st_lower (S : gS) (c k : Int) : gS := sset S 17 c (bclr (S 17 c) k)
theorem t_m_lower {g : xG} {x0 : Nat} {ad : Nat → Nat} {tt : Int} {S : gS} {c k : Int} (hI : Inv S) (hc : R32 c) (hk : R32 k) : mM g y_m_lower k_m_lower M_m_lower x0 ad [.int (iI c), .int (iI k)] tt S (opQ S (cd_lower S c k) (vl_lower S c k) (st_lower S c k)) := by
  refine mM.of rfl (by decide) rfl rfl rfl (by simp [Value.category]) (Nat.le_of_ble_eq_true rfl) rfl (fun h0 => ?_)
  obtain ⟨hR, hi1, hi2, hi3, hi4, hi5, hi6, hi7⟩ := id hI
  obtain ⟨him, hgr, hco, hck⟩ := id hi1
  have e1 := icq_s S c k 0
  refine m_aload_n d_m_lower_0 rfl ?_
  refine m_iload_n d_m_lower_1 rfl ?_
  refine m_iload_n d_m_lower_2 rfl ?_
  refine m_iconst d_m_lower_3 ?_
  refine m_callV d_m_lower_4 q_m_lower_185 s_m_isCapability v_m_isCapability rfl (t_m_isCapability hI hc hk (b := 0) (by omega)) rfl rfl (Nat.le_of_ble_eq_true rfl) rfl rfl rfl ?_
  rintro _ _ _ ⟨rfl, rfl, rfl⟩
  refine m_if_ne (tgt := 12) d_m_lower_7 (by decide) (by first | assumption | exact hR _ _ (by decide) | (unfold R32; omega)) (fun z7 => ?_) (fun z7 => ?_)
  · have e4 := hi3 c (Or.inl (by omega))
    refine m_aload_n d_m_lower_12 rfl ?_
    refine mg_54 d_m_lower_13 rfl ?_
    refine m_iload_n d_m_lower_16 rfl ?_
    refine m_dup2 d_m_lower_17 rfl rfl ?_
    refine m_ald 25 rfl (by decide) rfl d_m_lower_18 (by omega) (by omega) ?_
    refine m_iconst d_m_lower_19 ?_
    refine m_iload_n d_m_lower_20 rfl ?_
    refine m_ishl1 d_m_lower_21 (by omega) (by omega) ?_
    refine m_iconst d_m_lower_22 ?_
    refine m_inot d_m_lower_23 ?_
    refine m_iandc d_m_lower_24 (by omega) ?_
    refine m_ast 25 rfl (by decide) rfl d_m_lower_25 (by omega) (by omega) ?_
    refine m_aload_n d_m_lower_26 rfl ?_
    refine mg_54 d_m_lower_27 rfl ?_
    refine m_iload_n d_m_lower_30 rfl ?_
    refine m_aldv 25 rfl (by decide) rfl (bclr (S 17 c) k) (sset_e _ 17 c _) d_m_lower_31 (by omega) (by omega) ?_
    exact m_iret rfl d_m_lower_32 (opQ.good2 rfl (by unfold cd_lower; omega) rfl rfl)
  · refine m_iconst d_m_lower_10 ?_
    exact m_iret rfl d_m_lower_11 (opQ.bad rfl (by omega))
def cd_drop (S : gS) (c k : Int) : Int := icp S c k 0
def vl_drop (S : gS) (c k : Int) : Int := bclr (S 16 c) k
def st_drop (S : gS) (c k : Int) : gS := sset (sset S 17 c (bclr (S 17 c) k)) 16 c (bclr (S 16 c) k)
theorem t_m_drop {g : xG} {x0 : Nat} {ad : Nat → Nat} {tt : Int} {S : gS} {c k : Int} (hI : Inv S) (hc : R32 c) (hk : R32 k) : mM g y_m_drop k_m_drop M_m_drop x0 ad [.int (iI c), .int (iI k)] tt S (opQ S (cd_drop S c k) (vl_drop S c k) (st_drop S c k)) := by
  refine mM.of rfl (by decide) rfl rfl rfl (by simp [Value.category]) (Nat.le_of_ble_eq_true rfl) rfl (fun h0 => ?_)
  obtain ⟨hR, hi1, hi2, hi3, hi4, hi5, hi6, hi7⟩ := id hI
  obtain ⟨him, hgr, hco, hck⟩ := id hi1
  have e1 := icq_s S c k 0
  refine m_aload_n d_m_drop_0 rfl ?_
  refine m_iload_n d_m_drop_1 rfl ?_
  refine m_iload_n d_m_drop_2 rfl ?_
  refine m_iconst d_m_drop_3 ?_
  refine m_callV d_m_drop_4 q_m_drop_185 s_m_isCapability v_m_isCapability rfl (t_m_isCapability hI hc hk (b := 0) (by omega)) rfl rfl (Nat.le_of_ble_eq_true rfl) rfl rfl rfl ?_
  rintro _ _ _ ⟨rfl, rfl, rfl⟩
  refine m_if_ne (tgt := 12) d_m_drop_7 (by decide) (by first | assumption | exact hR _ _ (by decide) | (unfold R32; omega)) (fun z7 => ?_) (fun z7 => ?_)
  · have e4 := hi3 c (Or.inl (by omega))
    refine m_aload_n d_m_drop_12 rfl ?_
    refine mg_54 d_m_drop_13 rfl ?_
    refine m_iload_n d_m_drop_16 rfl ?_
    refine m_dup2 d_m_drop_17 rfl rfl ?_
    refine m_ald 25 rfl (by decide) rfl d_m_drop_18 (by omega) (by omega) ?_
    refine m_iconst d_m_drop_19 ?_
    refine m_iload_n d_m_drop_20 rfl ?_
    refine m_ishl1 d_m_drop_21 (by omega) (by omega) ?_
    refine m_iconst d_m_drop_22 ?_
    refine m_inot d_m_drop_23 ?_
    refine m_iandc d_m_drop_24 (by omega) ?_
    refine m_ast 25 rfl (by decide) rfl d_m_drop_25 (by omega) (by omega) ?_
    refine m_aload_n d_m_drop_26 rfl ?_
    refine mg_51 d_m_drop_27 rfl ?_
    refine m_iload_n d_m_drop_30 rfl ?_
    refine m_dup2 d_m_drop_31 rfl rfl ?_
    refine m_aldv 25 rfl (by decide) rfl (S 16 c) rfl d_m_drop_32 (by omega) (by omega) ?_
    refine m_iconst d_m_drop_33 ?_
    refine m_iload_n d_m_drop_34 rfl ?_
    refine m_ishl1 d_m_drop_35 (by omega) (by omega) ?_
    refine m_iconst d_m_drop_36 ?_
    refine m_inot d_m_drop_37 ?_
    refine m_iandc d_m_drop_38 (by omega) ?_
    refine m_ast 25 rfl (by decide) rfl d_m_drop_39 (by omega) (by omega) ?_
    refine m_aload_n d_m_drop_40 rfl ?_
    refine mg_51 d_m_drop_41 rfl ?_
    refine m_iload_n d_m_drop_44 rfl ?_
    refine m_aldv 25 rfl (by decide) rfl (bclr (S 16 c) k) (sset_e _ 16 c _) d_m_drop_45 (by omega) (by omega) ?_
    exact m_iret rfl d_m_drop_46 (opQ.good2 rfl (by unfold cd_drop; omega) rfl rfl)
  · refine m_iconst d_m_drop_10 ?_
    exact m_iret rfl d_m_drop_11 (opQ.bad rfl (by omega))
def cd_kill (S : gS) (c v : Int) : Int := if ¬ (0 ≤ c ∧ c < S 11 0 ∧ 0 ≤ v ∧ v < S 11 0) then 1 else if S 19 c = 0 ∧ bit (S 17 c) 3 = 1 ∧ v ≠ c ∧ S 19 v ≠ 2 ∧ bel S (S 20 v) (S 20 c) = 1 then 0 else 2
def vl_kill (S : gS) (c v : Int) : Int := S 14 v
def st_kill (S : gS) (c v : Int) : gS := stp S v
theorem t_m_kill {g : xG} {x0 : Nat} {ad : Nat → Nat} {tt : Int} {S : gS} {c v : Int} (hI : Inv S) (hc : R32 c) (hv : R32 v) : mM g y_m_kill k_m_kill M_m_kill x0 ad [.int (iI c), .int (iI v)] tt S (opQ S (cd_kill S c v) (vl_kill S c v) (st_kill S c v)) := by
  refine mM.of rfl (by decide) rfl rfl rfl (by simp [Value.category]) (Nat.le_of_ble_eq_true rfl) rfl (fun h0 => ?_)
  obtain ⟨hR, hi1, hi2, hi3, hi4, hi5, hi6, hi7⟩ := id hI
  obtain ⟨him, hgr, hco, hck⟩ := id hi1
  have e1 := isin_s c (S 11 0)
  have e2 := isin_s v (S 11 0)
  have e3 := bit_01 (S 17 c) 3
  have e4 := bel_01 S (S 20 v) (S 20 c)
  refine m_aload_n d_m_kill_0 rfl ?_
  refine m_iload_n d_m_kill_1 rfl ?_
  refine m_callV d_m_kill_2 q_m_kill_123 s_m_isContainer v_m_isContainer rfl (t_m_isContainer hR (by assumption)) rfl rfl (Nat.le_of_ble_eq_true rfl) rfl rfl rfl ?_
  rintro _ _ _ ⟨rfl, rfl, rfl⟩
  refine m_if_eq (tgt := 20) d_m_kill_5 (by decide) (by first | assumption | exact hR _ _ (by decide) | (unfold R32; omega)) (fun z5 => ?_) (fun z5 => ?_)
  · refine m_iconst d_m_kill_20 ?_
    refine m_istore_n d_m_kill_21 (by decide) ?_
    refine m_iload_n d_m_kill_22 rfl ?_
    refine m_if_eq (tgt := 82) d_m_kill_23 (by decide) (by first | assumption | exact hR _ _ (by decide) | (unfold R32; omega)) (fun z23 => ?_) (fun z23 => ?_)
    · refine m_iconst d_m_kill_82 ?_
      refine m_istore d_m_kill_83 (by decide) ?_
      refine m_aload_n d_m_kill_85 rfl ?_
      refine m_iload_n d_m_kill_86 rfl ?_
      refine m_if_ne (tgt := 94) d_m_kill_87 (by decide) (by first | assumption | exact hR _ _ (by decide) | (unfold R32; omega)) (fun z87 => ?_) (fun z87 => ?_)
      · exact absurd z87 (by decide)
      · refine m_iconst d_m_kill_90 ?_
        refine m_goto (tgt := 104) d_m_kill_91 (by decide) ?_
        refine m_callV d_m_kill_104 q_m_kill_109 s_m_holds v_m_holds rfl (t_m_holds ⟨by omega, by omega⟩) rfl rfl (Nat.le_of_ble_eq_true rfl) rfl rfl rfl ?_
        rintro _ _ _ ⟨rfl, rfl, rfl⟩
        refine m_if_eq (tgt := 118) d_m_kill_107 (by decide) (by first | assumption | exact hR _ _ (by decide) | (unfold R32; omega)) (fun z107 => ?_) (fun z107 => ?_)
        · refine m_iconst d_m_kill_118 ?_
          exact m_iret rfl d_m_kill_119 (by first | exact opQ.bad (by unfold cd_kill; (repeat' split) <;> omega) (by decide) | exact opQ.good (by unfold cd_kill; (repeat' split) <;> omega) rfl rfl)
        · exact absurd z107 (by decide)
    · exact absurd z23 (by decide)
  · refine m_aload_n d_m_kill_8 rfl ?_
    refine m_iload_n d_m_kill_9 rfl ?_
    refine m_callV d_m_kill_10 q_m_kill_123 s_m_isContainer v_m_isContainer rfl (t_m_isContainer hR (by assumption)) rfl rfl (Nat.le_of_ble_eq_true rfl) rfl rfl rfl ?_
    rintro _ _ _ ⟨rfl, rfl, rfl⟩
    refine m_if_eq (tgt := 20) d_m_kill_13 (by decide) (by first | assumption | exact hR _ _ (by decide) | (unfold R32; omega)) (fun z13 => ?_) (fun z13 => ?_)
    · refine m_iconst d_m_kill_20 ?_
      refine m_istore_n d_m_kill_21 (by decide) ?_
      refine m_iload_n d_m_kill_22 rfl ?_
      refine m_if_eq (tgt := 82) d_m_kill_23 (by decide) (by first | assumption | exact hR _ _ (by decide) | (unfold R32; omega)) (fun z23 => ?_) (fun z23 => ?_)
      · refine m_iconst d_m_kill_82 ?_
        refine m_istore d_m_kill_83 (by decide) ?_
        refine m_aload_n d_m_kill_85 rfl ?_
        refine m_iload_n d_m_kill_86 rfl ?_
        refine m_if_ne (tgt := 94) d_m_kill_87 (by decide) (by first | assumption | exact hR _ _ (by decide) | (unfold R32; omega)) (fun z87 => ?_) (fun z87 => ?_)
        · exact absurd z87 (by decide)
        · refine m_iconst d_m_kill_90 ?_
          refine m_goto (tgt := 104) d_m_kill_91 (by decide) ?_
          refine m_callV d_m_kill_104 q_m_kill_109 s_m_holds v_m_holds rfl (t_m_holds ⟨by omega, by omega⟩) rfl rfl (Nat.le_of_ble_eq_true rfl) rfl rfl rfl ?_
          rintro _ _ _ ⟨rfl, rfl, rfl⟩
          refine m_if_eq (tgt := 118) d_m_kill_107 (by decide) (by first | assumption | exact hR _ _ (by decide) | (unfold R32; omega)) (fun z107 => ?_) (fun z107 => ?_)
          · refine m_iconst d_m_kill_118 ?_
            exact m_iret rfl d_m_kill_119 (by first | exact opQ.bad (by unfold cd_kill; (repeat' split) <;> omega) (by decide) | exact opQ.good (by unfold cd_kill; (repeat' split) <;> omega) rfl rfl)
          · exact absurd z107 (by decide)
      · exact absurd z23 (by decide)
    · refine m_iconst d_m_kill_16 ?_
      refine m_goto (tgt := 21) d_m_kill_17 (by decide) ?_
      refine m_istore_n d_m_kill_21 (by decide) ?_
      refine m_iload_n d_m_kill_22 rfl ?_
      refine m_if_eq (tgt := 82) d_m_kill_23 (by decide) (by first | assumption | exact hR _ _ (by decide) | (unfold R32; omega)) (fun z23 => ?_) (fun z23 => ?_)
      · exact absurd z23 (by decide)
      · refine m_aload_n d_m_kill_26 rfl ?_
        refine mg_60 d_m_kill_27 rfl ?_
        refine m_iload_n d_m_kill_30 rfl ?_
        refine m_ald 20 rfl (by decide) rfl d_m_kill_31 (by omega) (by omega) ?_
        refine m_if_ne (tgt := 82) d_m_kill_32 (by decide) (by first | assumption | exact hR _ _ (by decide) | (unfold R32; omega)) (fun z32 => ?_) (fun z32 => ?_)
        · refine m_iconst d_m_kill_82 ?_
          refine m_istore d_m_kill_83 (by decide) ?_
          refine m_aload_n d_m_kill_85 rfl ?_
          refine m_iload_n d_m_kill_86 rfl ?_
          refine m_if_ne (tgt := 94) d_m_kill_87 (by decide) (by first | assumption | exact hR _ _ (by decide) | (unfold R32; omega)) (fun z87 => ?_) (fun z87 => ?_)
          · refine m_iload d_m_kill_94 rfl ?_
            refine m_if_eq (tgt := 103) d_m_kill_96 (by decide) (by first | assumption | exact hR _ _ (by decide) | (unfold R32; omega)) (fun z96 => ?_) (fun z96 => ?_)
            · refine m_iconst d_m_kill_103 ?_
              refine m_callV d_m_kill_104 q_m_kill_109 s_m_holds v_m_holds rfl (t_m_holds ⟨by omega, by omega⟩) rfl rfl (Nat.le_of_ble_eq_true rfl) rfl rfl rfl ?_
              rintro _ _ _ ⟨rfl, rfl, rfl⟩
              refine m_if_eq (tgt := 118) d_m_kill_107 (by decide) (by first | assumption | exact hR _ _ (by decide) | (unfold R32; omega)) (fun z107 => ?_) (fun z107 => ?_)
              · refine m_iconst d_m_kill_118 ?_
                exact m_iret rfl d_m_kill_119 (by first | exact opQ.bad (by unfold cd_kill; (repeat' split) <;> omega) (by decide) | exact opQ.good (by unfold cd_kill; (repeat' split) <;> omega) rfl rfl)
              · exact absurd z107 (by decide)
            · exact absurd z96 (by decide)
          · exact absurd z87 (by decide)
        · refine m_aload_n d_m_kill_35 rfl ?_
          refine m_iload_n d_m_kill_36 rfl ?_
          refine m_iconst d_m_kill_37 ?_
          refine m_callV d_m_kill_38 q_m_kill_173 s_m_isEffective v_m_isEffective rfl (t_m_isEffective hI (by omega) (by omega) (by omega) (by omega)) rfl rfl (Nat.le_of_ble_eq_true rfl) rfl rfl rfl ?_
          rintro _ _ _ ⟨rfl, rfl, rfl⟩
          refine m_if_eq (tgt := 82) d_m_kill_41 (by decide) (by first | assumption | exact hR _ _ (by decide) | (unfold R32; omega)) (fun z41 => ?_) (fun z41 => ?_)
          · refine m_iconst d_m_kill_82 ?_
            refine m_istore d_m_kill_83 (by decide) ?_
            refine m_aload_n d_m_kill_85 rfl ?_
            refine m_iload_n d_m_kill_86 rfl ?_
            refine m_if_ne (tgt := 94) d_m_kill_87 (by decide) (by first | assumption | exact hR _ _ (by decide) | (unfold R32; omega)) (fun z87 => ?_) (fun z87 => ?_)
            · refine m_iload d_m_kill_94 rfl ?_
              refine m_if_eq (tgt := 103) d_m_kill_96 (by decide) (by first | assumption | exact hR _ _ (by decide) | (unfold R32; omega)) (fun z96 => ?_) (fun z96 => ?_)
              · refine m_iconst d_m_kill_103 ?_
                refine m_callV d_m_kill_104 q_m_kill_109 s_m_holds v_m_holds rfl (t_m_holds ⟨by omega, by omega⟩) rfl rfl (Nat.le_of_ble_eq_true rfl) rfl rfl rfl ?_
                rintro _ _ _ ⟨rfl, rfl, rfl⟩
                refine m_if_eq (tgt := 118) d_m_kill_107 (by decide) (by first | assumption | exact hR _ _ (by decide) | (unfold R32; omega)) (fun z107 => ?_) (fun z107 => ?_)
                · refine m_iconst d_m_kill_118 ?_
                  exact m_iret rfl d_m_kill_119 (by first | exact opQ.bad (by unfold cd_kill; (repeat' split) <;> omega) (by decide) | exact opQ.good (by unfold cd_kill; (repeat' split) <;> omega) rfl rfl)
                · exact absurd z107 (by decide)
              · exact absurd z96 (by decide)
            · exact absurd z87 (by decide)
          · refine m_iload_n d_m_kill_44 rfl ?_
            refine m_iload_n d_m_kill_45 rfl ?_
            refine m_icmp_eq (tgt := 82) d_m_kill_46 (by decide) (by first | assumption | exact hR _ _ (by decide) | (unfold R32; omega)) (by first | assumption | exact hR _ _ (by decide) | (unfold R32; omega)) (fun z46 => ?_) (fun z46 => ?_)
            · refine m_iconst d_m_kill_82 ?_
              refine m_istore d_m_kill_83 (by decide) ?_
              refine m_aload_n d_m_kill_85 rfl ?_
              refine m_iload_n d_m_kill_86 rfl ?_
              refine m_if_ne (tgt := 94) d_m_kill_87 (by decide) (by first | assumption | exact hR _ _ (by decide) | (unfold R32; omega)) (fun z87 => ?_) (fun z87 => ?_)
              · refine m_iload d_m_kill_94 rfl ?_
                refine m_if_eq (tgt := 103) d_m_kill_96 (by decide) (by first | assumption | exact hR _ _ (by decide) | (unfold R32; omega)) (fun z96 => ?_) (fun z96 => ?_)
                · refine m_iconst d_m_kill_103 ?_
                  refine m_callV d_m_kill_104 q_m_kill_109 s_m_holds v_m_holds rfl (t_m_holds ⟨by omega, by omega⟩) rfl rfl (Nat.le_of_ble_eq_true rfl) rfl rfl rfl ?_
                  rintro _ _ _ ⟨rfl, rfl, rfl⟩
                  refine m_if_eq (tgt := 118) d_m_kill_107 (by decide) (by first | assumption | exact hR _ _ (by decide) | (unfold R32; omega)) (fun z107 => ?_) (fun z107 => ?_)
                  · refine m_iconst d_m_kill_118 ?_
                    exact m_iret rfl d_m_kill_119 (by first | exact opQ.bad (by unfold cd_kill; (repeat' split) <;> omega) (by decide) | exact opQ.good (by unfold cd_kill; (repeat' split) <;> omega) rfl rfl)
                  · exact absurd z107 (by decide)
                · exact absurd z96 (by decide)
              · exact absurd z87 (by decide)
            · refine m_aload_n d_m_kill_49 rfl ?_
              refine mg_60 d_m_kill_50 rfl ?_
              refine m_iload_n d_m_kill_53 rfl ?_
              refine m_ald 20 rfl (by decide) rfl d_m_kill_54 (by omega) (by omega) ?_
              refine m_iconst d_m_kill_55 ?_
              refine m_icmp_eq (tgt := 82) d_m_kill_56 (by decide) (by first | assumption | exact hR _ _ (by decide) | (unfold R32; omega)) (by first | assumption | exact hR _ _ (by decide) | (unfold R32; omega)) (fun z56 => ?_) (fun z56 => ?_)
              · refine m_iconst d_m_kill_82 ?_
                refine m_istore d_m_kill_83 (by decide) ?_
                refine m_aload_n d_m_kill_85 rfl ?_
                refine m_iload_n d_m_kill_86 rfl ?_
                refine m_if_ne (tgt := 94) d_m_kill_87 (by decide) (by first | assumption | exact hR _ _ (by decide) | (unfold R32; omega)) (fun z87 => ?_) (fun z87 => ?_)
                · refine m_iload d_m_kill_94 rfl ?_
                  refine m_if_eq (tgt := 103) d_m_kill_96 (by decide) (by first | assumption | exact hR _ _ (by decide) | (unfold R32; omega)) (fun z96 => ?_) (fun z96 => ?_)
                  · refine m_iconst d_m_kill_103 ?_
                    refine m_callV d_m_kill_104 q_m_kill_109 s_m_holds v_m_holds rfl (t_m_holds ⟨by omega, by omega⟩) rfl rfl (Nat.le_of_ble_eq_true rfl) rfl rfl rfl ?_
                    rintro _ _ _ ⟨rfl, rfl, rfl⟩
                    refine m_if_eq (tgt := 118) d_m_kill_107 (by decide) (by first | assumption | exact hR _ _ (by decide) | (unfold R32; omega)) (fun z107 => ?_) (fun z107 => ?_)
                    · refine m_iconst d_m_kill_118 ?_
                      exact m_iret rfl d_m_kill_119 (by first | exact opQ.bad (by unfold cd_kill; (repeat' split) <;> omega) (by decide) | exact opQ.good (by unfold cd_kill; (repeat' split) <;> omega) rfl rfl)
                    · exact absurd z107 (by decide)
                  · exact absurd z96 (by decide)
                · exact absurd z87 (by decide)
              · refine m_aload_n d_m_kill_59 rfl ?_
                have e6 := hi4 c (by omega) (by omega)
                have e7 := hi4 v (by omega) (by omega)
                refine m_aload_n d_m_kill_60 rfl ?_
                refine mg_63 d_m_kill_61 rfl ?_
                refine m_iload_n d_m_kill_64 rfl ?_
                refine m_ald 20 rfl (by decide) rfl d_m_kill_65 (by omega) (by omega) ?_
                refine m_aload_n d_m_kill_66 rfl ?_
                refine mg_63 d_m_kill_67 rfl ?_
                refine m_iload_n d_m_kill_70 rfl ?_
                refine m_ald 20 rfl (by decide) rfl d_m_kill_71 (by omega) (by omega) ?_
                refine m_callV d_m_kill_72 q_m_kill_130 s_m_isBelow v_m_isBelow rfl (t_m_isBelow hI (by omega) (by omega) (by omega) (by unfold R32; omega)) rfl rfl (Nat.le_of_ble_eq_true rfl) rfl rfl rfl ?_
                rintro _ _ _ ⟨rfl, rfl, rfl⟩
                refine m_if_eq (tgt := 82) d_m_kill_75 (by decide) (by first | assumption | exact hR _ _ (by decide) | (unfold R32; omega)) (fun z75 => ?_) (fun z75 => ?_)
                · refine m_iconst d_m_kill_82 ?_
                  refine m_istore d_m_kill_83 (by decide) ?_
                  refine m_aload_n d_m_kill_85 rfl ?_
                  refine m_iload_n d_m_kill_86 rfl ?_
                  refine m_if_ne (tgt := 94) d_m_kill_87 (by decide) (by first | assumption | exact hR _ _ (by decide) | (unfold R32; omega)) (fun z87 => ?_) (fun z87 => ?_)
                  · refine m_iload d_m_kill_94 rfl ?_
                    refine m_if_eq (tgt := 103) d_m_kill_96 (by decide) (by first | assumption | exact hR _ _ (by decide) | (unfold R32; omega)) (fun z96 => ?_) (fun z96 => ?_)
                    · refine m_iconst d_m_kill_103 ?_
                      refine m_callV d_m_kill_104 q_m_kill_109 s_m_holds v_m_holds rfl (t_m_holds ⟨by omega, by omega⟩) rfl rfl (Nat.le_of_ble_eq_true rfl) rfl rfl rfl ?_
                      rintro _ _ _ ⟨rfl, rfl, rfl⟩
                      refine m_if_eq (tgt := 118) d_m_kill_107 (by decide) (by first | assumption | exact hR _ _ (by decide) | (unfold R32; omega)) (fun z107 => ?_) (fun z107 => ?_)
                      · refine m_iconst d_m_kill_118 ?_
                        exact m_iret rfl d_m_kill_119 (by first | exact opQ.bad (by unfold cd_kill; (repeat' split) <;> omega) (by decide) | exact opQ.good (by unfold cd_kill; (repeat' split) <;> omega) rfl rfl)
                      · exact absurd z107 (by decide)
                    · exact absurd z96 (by decide)
                  · exact absurd z87 (by decide)
                · refine m_iconst d_m_kill_78 ?_
                  refine m_goto (tgt := 83) d_m_kill_79 (by decide) ?_
                  refine m_istore d_m_kill_83 (by decide) ?_
                  refine m_aload_n d_m_kill_85 rfl ?_
                  refine m_iload_n d_m_kill_86 rfl ?_
                  refine m_if_ne (tgt := 94) d_m_kill_87 (by decide) (by first | assumption | exact hR _ _ (by decide) | (unfold R32; omega)) (fun z87 => ?_) (fun z87 => ?_)
                  · refine m_iload d_m_kill_94 rfl ?_
                    refine m_if_eq (tgt := 103) d_m_kill_96 (by decide) (by first | assumption | exact hR _ _ (by decide) | (unfold R32; omega)) (fun z96 => ?_) (fun z96 => ?_)
                    · exact absurd z96 (by decide)
                    · refine m_iconst d_m_kill_99 ?_
                      refine m_goto (tgt := 104) d_m_kill_100 (by decide) ?_
                      refine m_callV d_m_kill_104 q_m_kill_109 s_m_holds v_m_holds rfl (t_m_holds ⟨by omega, by omega⟩) rfl rfl (Nat.le_of_ble_eq_true rfl) rfl rfl rfl ?_
                      rintro _ _ _ ⟨rfl, rfl, rfl⟩
                      refine m_if_eq (tgt := 118) d_m_kill_107 (by decide) (by first | assumption | exact hR _ _ (by decide) | (unfold R32; omega)) (fun z107 => ?_) (fun z107 => ?_)
                      · exact absurd z107 (by decide)
                      · refine m_aload_n d_m_kill_110 rfl ?_
                        refine m_iload_n d_m_kill_111 rfl ?_
                        refine m_callV d_m_kill_112 q_m_kill_152 s_m_stops v_m_stops rfl (t_m_stops hR (by omega) (by omega)) rfl rfl (Nat.le_of_ble_eq_true rfl) rfl rfl rfl ?_
                        rintro _ _ _ ⟨rfl, rfl, rfl⟩
                        refine m_goto (tgt := 119) d_m_kill_115 (by decide) ?_
                        exact m_iret rfl d_m_kill_119 (by first | exact opQ.bad (by unfold cd_kill; (repeat' split) <;> omega) (by decide) | exact opQ.good (by unfold cd_kill; (repeat' split) <;> omega) rfl rfl)
                  · exact absurd z87 (by decide)
