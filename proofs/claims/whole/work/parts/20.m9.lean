/-- what a checkpoint keeps, from one place to another -/
def kps0 (S : gS) (t f : Int) : gS := sset (sset (sset (sset (sset (sset (sset S 12 t (S 12 f)) 13 t (S 13 f)) 14 t (S 14 f)) 15 t (S 15 f)) 16 t (S 16 f)) 17 t (S 17 f)) 18 t (S 18 f)
def kps (S : gS) (t f : Int) : gS := cz (kps0 S t f) (10 + t) (10 + f) 32
theorem t_m_keeps {g : xG} {x0 : Nat} {ad : Nat → Nat} {tt : Int} {S : gS} {t f : Int} (ht : 0 ≤ t) (ht2 : t < 25) (hf : 0 ≤ f) (hf2 : f < 25) (htf : t ≠ f) : mM g y_m_keeps k_m_keeps M_m_keeps x0 ad [.int (iI t), .int (iI f)] tt S (fun v t9 S9 => v = none ∧ tt = t9 ∧ kps S t f = S9) := by
  refine mM.of rfl (by decide) rfl rfl rfl (by simp [Value.category]) (Nat.le_of_ble_eq_true rfl) rfl (fun h0 => ?_)
  refine m_aload_n d_m_keeps_0 rfl ?_
  refine mg_39 d_m_keeps_1 rfl ?_
  refine m_iload_n d_m_keeps_4 rfl ?_
  refine m_aload_n d_m_keeps_5 rfl ?_
  refine mg_39 d_m_keeps_6 rfl ?_
  refine m_iload_n d_m_keeps_9 rfl ?_
  refine m_ald 25 rfl (by decide) rfl d_m_keeps_10 (by omega) (by omega) ?_
  refine m_ast 25 rfl (by decide) rfl d_m_keeps_11 (by omega) (by omega) ?_
  refine m_aload_n d_m_keeps_12 rfl ?_
  refine mg_42 d_m_keeps_13 rfl ?_
  refine m_iload_n d_m_keeps_16 rfl ?_
  refine m_aload_n d_m_keeps_17 rfl ?_
  refine mg_42 d_m_keeps_18 rfl ?_
  refine m_iload_n d_m_keeps_21 rfl ?_
  refine m_aldv 25 rfl (by decide) rfl (S 13 f) rfl d_m_keeps_22 (by omega) (by omega) ?_
  refine m_ast 25 rfl (by decide) rfl d_m_keeps_23 (by omega) (by omega) ?_
  refine m_aload_n d_m_keeps_24 rfl ?_
  refine mg_45 d_m_keeps_25 rfl ?_
  refine m_iload_n d_m_keeps_28 rfl ?_
  refine m_aload_n d_m_keeps_29 rfl ?_
  refine mg_45 d_m_keeps_30 rfl ?_
  refine m_iload_n d_m_keeps_33 rfl ?_
  refine m_aldv 25 rfl (by decide) rfl (S 14 f) rfl d_m_keeps_34 (by omega) (by omega) ?_
  refine m_ast 25 rfl (by decide) rfl d_m_keeps_35 (by omega) (by omega) ?_
  refine m_aload_n d_m_keeps_36 rfl ?_
  refine mg_48 d_m_keeps_37 rfl ?_
  refine m_iload_n d_m_keeps_40 rfl ?_
  refine m_aload_n d_m_keeps_41 rfl ?_
  refine mg_48 d_m_keeps_42 rfl ?_
  refine m_iload_n d_m_keeps_45 rfl ?_
  refine m_aldv 25 rfl (by decide) rfl (S 15 f) rfl d_m_keeps_46 (by omega) (by omega) ?_
  refine m_ast 25 rfl (by decide) rfl d_m_keeps_47 (by omega) (by omega) ?_
  refine m_aload_n d_m_keeps_48 rfl ?_
  refine mg_51 d_m_keeps_49 rfl ?_
  refine m_iload_n d_m_keeps_52 rfl ?_
  refine m_aload_n d_m_keeps_53 rfl ?_
  refine mg_51 d_m_keeps_54 rfl ?_
  refine m_iload_n d_m_keeps_57 rfl ?_
  refine m_aldv 25 rfl (by decide) rfl (S 16 f) rfl d_m_keeps_58 (by omega) (by omega) ?_
  refine m_ast 25 rfl (by decide) rfl d_m_keeps_59 (by omega) (by omega) ?_
  refine m_aload_n d_m_keeps_60 rfl ?_
  refine mg_54 d_m_keeps_61 rfl ?_
  refine m_iload_n d_m_keeps_64 rfl ?_
  refine m_aload_n d_m_keeps_65 rfl ?_
  refine mg_54 d_m_keeps_66 rfl ?_
  refine m_iload_n d_m_keeps_69 rfl ?_
  refine m_aldv 25 rfl (by decide) rfl (S 17 f) rfl d_m_keeps_70 (by omega) (by omega) ?_
  refine m_ast 25 rfl (by decide) rfl d_m_keeps_71 (by omega) (by omega) ?_
  refine m_aload_n d_m_keeps_72 rfl ?_
  refine mg_57 d_m_keeps_73 rfl ?_
  refine m_iload_n d_m_keeps_76 rfl ?_
  refine m_aload_n d_m_keeps_77 rfl ?_
  refine mg_57 d_m_keeps_78 rfl ?_
  refine m_iload_n d_m_keeps_81 rfl ?_
  refine m_aldv 25 rfl (by decide) rfl (S 18 f) rfl d_m_keeps_82 (by omega) (by omega) ?_
  refine m_ast 25 rfl (by decide) rfl d_m_keeps_83 (by omega) (by omega) ?_
  refine m_aload_n d_m_keeps_84 rfl ?_
  refine m_bipush d_m_keeps_85 (by decide) ?_
  refine m_iload_n d_m_keeps_87 rfl ?_
  refine m_iadd d_m_keeps_88 ?_
  refine m_bipush d_m_keeps_89 (by decide) ?_
  refine m_iload_n d_m_keeps_91 rfl ?_
  refine m_iadd d_m_keeps_92 ?_
  refine m_callV d_m_keeps_93 q_m_keeps_126 s_m_copies v_m_copies rfl (t_m_copies (t := 10 + t) (f := 10 + f) (by omega) (by omega) (by omega) (by omega) (by omega)) rfl rfl (Nat.le_of_ble_eq_true rfl) rfl rfl rfl ?_
  rintro _ _ _ ⟨rfl, rfl, rfl⟩
  exact m_vret rfl d_m_keeps_96 (⟨rfl, rfl, rfl⟩)
def cd_save (S : gS) (c : Int) : Int := if ¬ (0 ≤ c ∧ c < S 11 0) then 1 else if S 19 c ≠ 1 ∨ S 23 0 = 5 then 2 else 0
def vl_save (S : gS) (c : Int) : Int := S 23 0
def st_save (S : gS) (c : Int) : gS := sset (kps S (20 + S 23 0) c) 23 0 (S 23 0 + 1)
theorem t_m_save {g : xG} {x0 : Nat} {ad : Nat → Nat} {tt : Int} {S : gS} {c : Int} (hI : Inv S) (hc : R32 c) : mM g y_m_save k_m_save M_m_save x0 ad [.int (iI c)] tt S (opQ S (cd_save S c) (vl_save S c) (st_save S c)) := by
  refine mM.of rfl (by decide) rfl rfl rfl (by simp [Value.category]) (Nat.le_of_ble_eq_true rfl) rfl (fun h0 => ?_)
  obtain ⟨hR, hi1, hi2, hi3, hi4, hi5, hi6, hi7⟩ := id hI
  obtain ⟨him, hgr, hco, hck⟩ := id hi1
  have e1 := isin_s c (S 11 0)
  refine m_aload_n d_m_save_0 rfl ?_
  refine m_iload_n d_m_save_1 rfl ?_
  refine m_callV d_m_save_2 q_m_save_123 s_m_isContainer v_m_isContainer rfl (t_m_isContainer hR (by assumption)) rfl rfl (Nat.le_of_ble_eq_true rfl) rfl rfl rfl ?_
  rintro _ _ _ ⟨rfl, rfl, rfl⟩
  refine m_istore_n d_m_save_5 (by decide) ?_
  refine m_aload_n d_m_save_6 rfl ?_
  refine m_iload_n d_m_save_7 rfl ?_
  refine m_if_ne (tgt := 15) d_m_save_8 (by decide) (by first | assumption | exact hR _ _ (by decide) | (unfold R32; omega)) (fun z8 => ?_) (fun z8 => ?_)
  · refine m_aload_n d_m_save_15 rfl ?_
    refine mg_60 d_m_save_16 rfl ?_
    refine m_iload_n d_m_save_19 rfl ?_
    refine m_ald 20 rfl (by decide) rfl d_m_save_20 (by omega) (by omega) ?_
    refine m_iconst d_m_save_21 ?_
    refine m_icmp_ne (tgt := 33) d_m_save_22 (by decide) (by first | assumption | exact hR _ _ (by decide) | (unfold R32; omega)) (by first | assumption | exact hR _ _ (by decide) | (unfold R32; omega)) (fun z22 => ?_) (fun z22 => ?_)
    · refine m_iconst d_m_save_33 ?_
      refine m_goto (tgt := 38) d_m_save_34 (by decide) ?_
      refine m_callV d_m_save_38 q_m_save_109 s_m_holds v_m_holds rfl (t_m_holds ⟨by omega, by omega⟩) rfl rfl (Nat.le_of_ble_eq_true rfl) rfl rfl rfl ?_
      rintro _ _ _ ⟨rfl, rfl, rfl⟩
      refine m_if_ne (tgt := 46) d_m_save_41 (by decide) (by first | assumption | exact hR _ _ (by decide) | (unfold R32; omega)) (fun z41 => ?_) (fun z41 => ?_)
      · exact absurd z41 (by decide)
      · refine m_iconst d_m_save_44 ?_
        exact m_iret rfl d_m_save_45 (opQ.bad (by unfold cd_save; (repeat' split) <;> omega) (by decide))
    · refine m_aload_n d_m_save_25 rfl ?_
      refine mg_198 d_m_save_26 rfl ?_
      refine m_iconst d_m_save_29 ?_
      refine m_icmp_ne (tgt := 37) d_m_save_30 (by decide) (by first | assumption | exact hR _ _ (by decide) | (unfold R32; omega)) (by first | assumption | exact hR _ _ (by decide) | (unfold R32; omega)) (fun z30 => ?_) (fun z30 => ?_)
      · refine m_iconst d_m_save_37 ?_
        refine m_callV d_m_save_38 q_m_save_109 s_m_holds v_m_holds rfl (t_m_holds ⟨by omega, by omega⟩) rfl rfl (Nat.le_of_ble_eq_true rfl) rfl rfl rfl ?_
        rintro _ _ _ ⟨rfl, rfl, rfl⟩
        refine m_if_ne (tgt := 46) d_m_save_41 (by decide) (by first | assumption | exact hR _ _ (by decide) | (unfold R32; omega)) (fun z41 => ?_) (fun z41 => ?_)
        · refine m_aload_n d_m_save_46 rfl ?_
          refine m_bipush d_m_save_47 (by decide) ?_
          refine m_aload_n d_m_save_49 rfl ?_
          refine mg_198 d_m_save_50 rfl ?_
          refine m_iadd d_m_save_53 ?_
          refine m_iload_n d_m_save_54 rfl ?_
          refine m_callV d_m_save_55 q_m_save_201 s_m_keeps v_m_keeps rfl (t_m_keeps (t := 20 + S 23 0) (f := c) (by omega) (by omega) (by omega) (by omega) (by omega)) rfl rfl (Nat.le_of_ble_eq_true rfl) rfl rfl rfl ?_
          rintro _ _ _ ⟨rfl, rfl, rfl⟩
          refine m_aload_n d_m_save_58 rfl ?_
          refine m_dup d_m_save_59 rfl ?_
          refine mgv_198 (S 23 0) rfl d_m_save_60 rfl ?_
          refine m_iconst d_m_save_63 ?_
          refine m_iadd d_m_save_64 ?_
          refine mp_198 d_m_save_65 rfl ?_
          refine m_aload_n d_m_save_68 rfl ?_
          refine mgv_198 (S 23 0 + 1) rfl d_m_save_69 rfl ?_
          refine m_iconst d_m_save_72 ?_
          refine m_isub d_m_save_73 ?_
          exact m_iret rfl d_m_save_74 (opQ.good (by unfold cd_save; (repeat' split) <;> omega) (by unfold vl_save; omega) (rfl))
        · exact absurd z41 (by decide)
      · refine m_iconst d_m_save_33 ?_
        refine m_goto (tgt := 38) d_m_save_34 (by decide) ?_
        refine m_callV d_m_save_38 q_m_save_109 s_m_holds v_m_holds rfl (t_m_holds ⟨by omega, by omega⟩) rfl rfl (Nat.le_of_ble_eq_true rfl) rfl rfl rfl ?_
        rintro _ _ _ ⟨rfl, rfl, rfl⟩
        refine m_if_ne (tgt := 46) d_m_save_41 (by decide) (by first | assumption | exact hR _ _ (by decide) | (unfold R32; omega)) (fun z41 => ?_) (fun z41 => ?_)
        · exact absurd z41 (by decide)
        · refine m_iconst d_m_save_44 ?_
          exact m_iret rfl d_m_save_45 (opQ.bad (by unfold cd_save; (repeat' split) <;> omega) (by decide))
  · refine m_iconst d_m_save_11 ?_
    refine m_goto (tgt := 38) d_m_save_12 (by decide) ?_
    refine m_callV d_m_save_38 q_m_save_109 s_m_holds v_m_holds rfl (t_m_holds ⟨by omega, by omega⟩) rfl rfl (Nat.le_of_ble_eq_true rfl) rfl rfl rfl ?_
    rintro _ _ _ ⟨rfl, rfl, rfl⟩
    refine m_if_ne (tgt := 46) d_m_save_41 (by decide) (by first | assumption | exact hR _ _ (by decide) | (unfold R32; omega)) (fun z41 => ?_) (fun z41 => ?_)
    · exact absurd z41 (by decide)
    · refine m_iconst d_m_save_44 ?_
      exact m_iret rfl d_m_save_45 (opQ.bad (by unfold cd_save; (repeat' split) <;> omega) (by decide))
def cd_restore (S : gS) (k w : Int) : Int := if ¬ (0 ≤ k ∧ k < S 23 0 ∧ 0 ≤ w ∧ w < S 6 0) then 1 else if S 11 0 = 20 ∨ tm S w (S 14 (20 + k)) (S 15 (20 + k)) ≠ -1 then 2 else 0
def vl_restore (S : gS) (k w : Int) : Int := S 11 0
def st_restore (S : gS) (k w : Int) : gS := kps (bgn S 0 w 0 1) (S 11 0) (20 + k)
theorem t_m_restore {g : xG} {x0 : Nat} {ad : Nat → Nat} {tt : Int} {S : gS} {k w : Int} (hI : Inv S) (hk : R32 k) (hw : R32 w) : mM g y_m_restore k_m_restore M_m_restore x0 ad [.int (iI k), .int (iI w)] tt S (opQ S (cd_restore S k w) (vl_restore S k w) (st_restore S k w)) := by
  refine mM.of rfl (by decide) rfl rfl rfl (by simp [Value.category]) (Nat.le_of_ble_eq_true rfl) rfl (fun h0 => ?_)
  obtain ⟨hR, hi1, hi2, hi3, hi4, hi5, hi6, hi7⟩ := id hI
  obtain ⟨him, hgr, hco, hck⟩ := id hi1
  have e1 := isin_s k (S 23 0)
  have e2 := isin_s w (S 6 0)
  refine m_iload_n d_m_restore_0 rfl ?_
  refine m_aload_n d_m_restore_1 rfl ?_
  refine mg_198 d_m_restore_2 rfl ?_
  refine m_callS d_m_restore_5 q_m_restore_90 s_m_isIn (t_m_isIn g hk (hR 23 0 (by decide))) rfl rfl (Nat.le_of_ble_eq_true rfl) rfl rfl rfl ?_
  rintro _ rfl
  refine m_if_eq (tgt := 23) d_m_restore_8 (by decide) (by first | assumption | exact hR _ _ (by decide) | (unfold R32; omega)) (fun z8 => ?_) (fun z8 => ?_)
  · refine m_iconst d_m_restore_23 ?_
    refine m_istore_n d_m_restore_24 (by decide) ?_
    refine m_bipush d_m_restore_25 (by decide) ?_
    refine m_iload_n d_m_restore_27 rfl ?_
    refine m_iadd d_m_restore_28 ?_
    refine m_istore d_m_restore_29 (by decide) ?_
    refine m_aload_n d_m_restore_31 rfl ?_
    refine m_iload_n d_m_restore_32 rfl ?_
    refine m_if_ne (tgt := 40) d_m_restore_33 (by decide) (by first | assumption | exact hR _ _ (by decide) | (unfold R32; omega)) (fun z33 => ?_) (fun z33 => ?_)
    · exact absurd z33 (by decide)
    · refine m_iconst d_m_restore_36 ?_
      refine m_goto (tgt := 77) d_m_restore_37 (by decide) ?_
      refine m_callV d_m_restore_77 q_m_restore_109 s_m_holds v_m_holds rfl (t_m_holds ⟨by omega, by omega⟩) rfl rfl (Nat.le_of_ble_eq_true rfl) rfl rfl rfl ?_
      rintro _ _ _ ⟨rfl, rfl, rfl⟩
      refine m_if_ne (tgt := 85) d_m_restore_80 (by decide) (by first | assumption | exact hR _ _ (by decide) | (unfold R32; omega)) (fun z80 => ?_) (fun z80 => ?_)
      · exact absurd z80 (by decide)
      · refine m_iconst d_m_restore_83 ?_
        exact m_iret rfl d_m_restore_84 (opQ.bad (by unfold cd_restore; (repeat' split) <;> omega) (by decide))
  · refine m_aload_n d_m_restore_11 rfl ?_
    refine m_iload_n d_m_restore_12 rfl ?_
    refine m_callV d_m_restore_13 q_m_restore_133 s_m_isGroup v_m_isGroup rfl (t_m_isGroup hR (by assumption)) rfl rfl (Nat.le_of_ble_eq_true rfl) rfl rfl rfl ?_
    rintro _ _ _ ⟨rfl, rfl, rfl⟩
    refine m_if_eq (tgt := 23) d_m_restore_16 (by decide) (by first | assumption | exact hR _ _ (by decide) | (unfold R32; omega)) (fun z16 => ?_) (fun z16 => ?_)
    · refine m_iconst d_m_restore_23 ?_
      refine m_istore_n d_m_restore_24 (by decide) ?_
      refine m_bipush d_m_restore_25 (by decide) ?_
      refine m_iload_n d_m_restore_27 rfl ?_
      refine m_iadd d_m_restore_28 ?_
      refine m_istore d_m_restore_29 (by decide) ?_
      refine m_aload_n d_m_restore_31 rfl ?_
      refine m_iload_n d_m_restore_32 rfl ?_
      refine m_if_ne (tgt := 40) d_m_restore_33 (by decide) (by first | assumption | exact hR _ _ (by decide) | (unfold R32; omega)) (fun z33 => ?_) (fun z33 => ?_)
      · exact absurd z33 (by decide)
      · refine m_iconst d_m_restore_36 ?_
        refine m_goto (tgt := 77) d_m_restore_37 (by decide) ?_
        refine m_callV d_m_restore_77 q_m_restore_109 s_m_holds v_m_holds rfl (t_m_holds ⟨by omega, by omega⟩) rfl rfl (Nat.le_of_ble_eq_true rfl) rfl rfl rfl ?_
        rintro _ _ _ ⟨rfl, rfl, rfl⟩
        refine m_if_ne (tgt := 85) d_m_restore_80 (by decide) (by first | assumption | exact hR _ _ (by decide) | (unfold R32; omega)) (fun z80 => ?_) (fun z80 => ?_)
        · exact absurd z80 (by decide)
        · refine m_iconst d_m_restore_83 ?_
          exact m_iret rfl d_m_restore_84 (opQ.bad (by unfold cd_restore; (repeat' split) <;> omega) (by decide))
    · refine m_iconst d_m_restore_19 ?_
      refine m_goto (tgt := 24) d_m_restore_20 (by decide) ?_
      refine m_istore_n d_m_restore_24 (by decide) ?_
      refine m_bipush d_m_restore_25 (by decide) ?_
      refine m_iload_n d_m_restore_27 rfl ?_
      refine m_iadd d_m_restore_28 ?_
      refine m_istore d_m_restore_29 (by decide) ?_
      refine m_aload_n d_m_restore_31 rfl ?_
      refine m_iload_n d_m_restore_32 rfl ?_
      refine m_if_ne (tgt := 40) d_m_restore_33 (by decide) (by first | assumption | exact hR _ _ (by decide) | (unfold R32; omega)) (fun z33 => ?_) (fun z33 => ?_)
      · refine m_aload_n d_m_restore_40 rfl ?_
        refine mg_94 d_m_restore_41 rfl ?_
        refine m_bipush d_m_restore_44 (by decide) ?_
        refine m_icmp_eq (tgt := 72) d_m_restore_46 (by decide) (by first | assumption | exact hR _ _ (by decide) | (unfold R32; omega)) (by first | assumption | exact hR _ _ (by decide) | (unfold R32; omega)) (fun z46 => ?_) (fun z46 => ?_)
        · refine m_iconst d_m_restore_72 ?_
          refine m_goto (tgt := 77) d_m_restore_73 (by decide) ?_
          refine m_callV d_m_restore_77 q_m_restore_109 s_m_holds v_m_holds rfl (t_m_holds ⟨by omega, by omega⟩) rfl rfl (Nat.le_of_ble_eq_true rfl) rfl rfl rfl ?_
          rintro _ _ _ ⟨rfl, rfl, rfl⟩
          refine m_if_ne (tgt := 85) d_m_restore_80 (by decide) (by first | assumption | exact hR _ _ (by decide) | (unfold R32; omega)) (fun z80 => ?_) (fun z80 => ?_)
          · exact absurd z80 (by decide)
          · refine m_iconst d_m_restore_83 ?_
            exact m_iret rfl d_m_restore_84 (opQ.bad (by unfold cd_restore; (repeat' split) <;> omega) (by decide))
        · have e6 := hi3 (20 + k) (Or.inr (by omega))
          refine m_aload_n d_m_restore_49 rfl ?_
          refine m_iload_n d_m_restore_50 rfl ?_
          refine m_aload_n d_m_restore_51 rfl ?_
          refine mg_45 d_m_restore_52 rfl ?_
          refine m_iload d_m_restore_55 rfl ?_
          refine m_ald 25 rfl (by decide) rfl d_m_restore_57 (by omega) (by omega) ?_
          refine m_aload_n d_m_restore_58 rfl ?_
          refine mg_48 d_m_restore_59 rfl ?_
          refine m_iload d_m_restore_62 rfl ?_
          refine m_ald 25 rfl (by decide) rfl d_m_restore_64 (by omega) (by omega) ?_
          refine m_callV d_m_restore_65 q_m_restore_142 s_m_tooMuch v_m_tooMuch rfl (t_m_tooMuch hI (by omega) (by omega) (by omega) (by omega) (by omega) (by omega)) rfl rfl (Nat.le_of_ble_eq_true rfl) rfl rfl rfl ?_
          rintro _ _ _ ⟨rfl, rfl, rfl⟩
          have e7 := tm_r hi2 hi1 (S 14 (20 + k)) (S 15 (20 + k)) (k := w) (by omega) (by omega)
          refine m_iconst d_m_restore_68 ?_
          refine m_icmp_eq (tgt := 76) d_m_restore_69 (by decide) (by first | assumption | exact hR _ _ (by decide) | (unfold R32; omega)) (by first | assumption | exact hR _ _ (by decide) | (unfold R32; omega)) (fun z69 => ?_) (fun z69 => ?_)
          · refine m_iconst d_m_restore_76 ?_
            refine m_callV d_m_restore_77 q_m_restore_109 s_m_holds v_m_holds rfl (t_m_holds ⟨by omega, by omega⟩) rfl rfl (Nat.le_of_ble_eq_true rfl) rfl rfl rfl ?_
            rintro _ _ _ ⟨rfl, rfl, rfl⟩
            refine m_if_ne (tgt := 85) d_m_restore_80 (by decide) (by first | assumption | exact hR _ _ (by decide) | (unfold R32; omega)) (fun z80 => ?_) (fun z80 => ?_)
            · refine m_aload_n d_m_restore_85 rfl ?_
              refine m_iconst d_m_restore_86 ?_
              refine m_iload_n d_m_restore_87 rfl ?_
              refine m_iconst d_m_restore_88 ?_
              refine m_iconst d_m_restore_89 ?_
              refine m_callV d_m_restore_90 q_m_restore_145 s_m_begins v_m_begins rfl (t_m_begins (i := 0) (w := w) (p := 0) (s := 1) hi1 (by omega)) rfl rfl (Nat.le_of_ble_eq_true rfl) rfl rfl rfl ?_
              rintro _ _ _ ⟨rfl, rfl, rfl⟩
              refine m_aload_n d_m_restore_93 rfl ?_
              refine m_aload_n d_m_restore_94 rfl ?_
              refine mgv_94 (S 11 0 + 1) rfl d_m_restore_95 rfl ?_
              refine m_iconst d_m_restore_98 ?_
              refine m_isub d_m_restore_99 ?_
              refine m_iload d_m_restore_100 rfl ?_
              rw [show S 11 0 + 1 - 1 = S 11 0 by omega]
              refine m_callV d_m_restore_102 q_m_restore_201 s_m_keeps v_m_keeps rfl (t_m_keeps (S := bgn S 0 w 0 1) (t := S 11 0) (f := 20 + k) (by omega) (by omega) (by omega) (by omega) (by omega)) rfl rfl (Nat.le_of_ble_eq_true rfl) rfl rfl rfl ?_
              rintro _ _ _ ⟨rfl, rfl, rfl⟩
              refine m_aload_n d_m_restore_105 rfl ?_
              refine mgv_94 (S 11 0 + 1) rfl d_m_restore_106 rfl ?_
              refine m_iconst d_m_restore_109 ?_
              refine m_isub d_m_restore_110 ?_
              exact m_iret rfl d_m_restore_111 (opQ.good (by unfold cd_restore; (repeat' split) <;> omega) (by unfold vl_restore; omega) (rfl))
            · exact absurd z80 (by decide)
          · refine m_iconst d_m_restore_72 ?_
            refine m_goto (tgt := 77) d_m_restore_73 (by decide) ?_
            refine m_callV d_m_restore_77 q_m_restore_109 s_m_holds v_m_holds rfl (t_m_holds ⟨by omega, by omega⟩) rfl rfl (Nat.le_of_ble_eq_true rfl) rfl rfl rfl ?_
            rintro _ _ _ ⟨rfl, rfl, rfl⟩
            refine m_if_ne (tgt := 85) d_m_restore_80 (by decide) (by first | assumption | exact hR _ _ (by decide) | (unfold R32; omega)) (fun z80 => ?_) (fun z80 => ?_)
            · exact absurd z80 (by decide)
            · refine m_iconst d_m_restore_83 ?_
              exact m_iret rfl d_m_restore_84 (opQ.bad (by unfold cd_restore; (repeat' split) <;> omega) (by decide))
      · exact absurd z33 (by decide)
theorem t_m_containers {g : xG} {x0 : Nat} {ad : Nat → Nat} {tt : Int} {S : gS}  : mM g y_m_containers k_m_containers M_m_containers x0 ad [] tt S (fun v t9 S9 => v = some (.int (iI (S 11 0))) ∧ 0 = t9 ∧ S = S9) := by
  refine mM.of rfl (by decide) rfl rfl rfl (by simp [Value.category]) (Nat.le_of_ble_eq_true rfl) rfl (fun h0 => ?_)
  refine m_aload_n d_m_containers_0 rfl ?_
  refine m_iconst d_m_containers_1 ?_
  refine mp_84 d_m_containers_2 rfl ?_
  refine m_aload_n d_m_containers_5 rfl ?_
  refine mg_94 d_m_containers_6 rfl ?_
  exact m_iret rfl d_m_containers_9 (⟨congrArg (fun z => some (Value.int (iI z))) (rfl), rfl, rfl⟩)
theorem t_m_isAsked {g : xG} {x0 : Nat} {ad : Nat → Nat} {tt : Int} {S : gS} {c : Int} (hI : Inv S) (hc : R32 c) : mM g y_m_isAsked k_m_isAsked M_m_isAsked x0 ad [.int (iI c)] tt S (fun v t9 S9 => v = some (.int (iI (isin c (S 11 0)))) ∧ 1 - isin c (S 11 0) = t9 ∧ S = S9) := by
  refine mM.of rfl (by decide) rfl rfl rfl (by simp [Value.category]) (Nat.le_of_ble_eq_true rfl) rfl (fun h0 => ?_)
  obtain ⟨hR, hi1, hi2, hi3, hi4, hi5, hi6, hi7⟩ := id hI
  obtain ⟨him, hgr, hco, hck⟩ := id hi1
  have e1 := isin_s c (S 11 0)
  refine m_aload_n d_m_isAsked_0 rfl ?_
  refine m_aload_n d_m_isAsked_1 rfl ?_
  refine m_iload_n d_m_isAsked_2 rfl ?_
  refine m_callV d_m_isAsked_3 q_m_isAsked_123 s_m_isContainer v_m_isContainer rfl (t_m_isContainer hR (by assumption)) rfl rfl (Nat.le_of_ble_eq_true rfl) rfl rfl rfl ?_
  rintro _ _ _ ⟨rfl, rfl, rfl⟩
  refine m_if_eq (tgt := 13) d_m_isAsked_6 (by decide) (by first | assumption | exact hR _ _ (by decide) | (unfold R32; omega)) (fun z6 => ?_) (fun z6 => ?_)
  · refine m_iconst d_m_isAsked_13 ?_
    refine m_callV d_m_isAsked_14 q_m_isAsked_109 s_m_holds v_m_holds rfl (t_m_holds ⟨by omega, by omega⟩) rfl rfl (Nat.le_of_ble_eq_true rfl) rfl rfl rfl ?_
    rintro _ _ _ ⟨rfl, rfl, rfl⟩
    exact m_zret rfl d_m_isAsked_17 (by omega) (⟨congrArg (fun z => some (Value.int (iI z))) (by split <;> omega), by omega, rfl⟩)
  · refine m_iconst d_m_isAsked_9 ?_
    refine m_goto (tgt := 14) d_m_isAsked_10 (by decide) ?_
    refine m_callV d_m_isAsked_14 q_m_isAsked_109 s_m_holds v_m_holds rfl (t_m_holds ⟨by omega, by omega⟩) rfl rfl (Nat.le_of_ble_eq_true rfl) rfl rfl rfl ?_
    rintro _ _ _ ⟨rfl, rfl, rfl⟩
    exact m_zret rfl d_m_isAsked_17 (by omega) (⟨congrArg (fun z => some (Value.int (iI z))) (by split <;> omega), by omega, rfl⟩)
def cd_stateOf (S : gS) (c : Int) : Int := if 0 ≤ c ∧ c < S 11 0 then 0 else 1
def vl_stateOf (S : gS) (c : Int) : Int := S 19 c
def st_stateOf (S : gS) (c : Int) : gS := S
theorem t_m_stateOf {g : xG} {x0 : Nat} {ad : Nat → Nat} {tt : Int} {S : gS} {c : Int} (hI : Inv S) (hc : R32 c) : mM g y_m_stateOf k_m_stateOf M_m_stateOf x0 ad [.int (iI c)] tt S (opQ S (cd_stateOf S c) (vl_stateOf S c) (st_stateOf S c)) := by
  refine mM.of rfl (by decide) rfl rfl rfl (by simp [Value.category]) (Nat.le_of_ble_eq_true rfl) rfl (fun h0 => ?_)
  obtain ⟨hR, hi1, hi2, hi3, hi4, hi5, hi6, hi7⟩ := id hI
  obtain ⟨him, hgr, hco, hck⟩ := id hi1
  have e1 := isin_s c (S 11 0)
  refine m_aload_n d_m_stateOf_0 rfl ?_
  refine m_iload_n d_m_stateOf_1 rfl ?_
  refine m_callV d_m_stateOf_2 q_m_stateOf_204 s_m_isAsked v_m_isAsked rfl (t_m_isAsked hI hc) rfl rfl (Nat.le_of_ble_eq_true rfl) rfl rfl rfl ?_
  rintro _ _ _ ⟨rfl, rfl, rfl⟩
  refine m_if_eq (tgt := 17) d_m_stateOf_5 (by decide) (by first | assumption | exact hR _ _ (by decide) | (unfold R32; omega)) (fun z5 => ?_) (fun z5 => ?_)
  · refine m_iconst d_m_stateOf_17 ?_
    exact m_iret rfl d_m_stateOf_18 (by first | exact opQ.good2 (by unfold cd_stateOf; (repeat' split) <;> omega) (by unfold cd_stateOf; (repeat' split) <;> omega) rfl rfl | exact opQ.bad (by unfold cd_stateOf; (repeat' split) <;> omega) (by omega))
  · refine m_aload_n d_m_stateOf_8 rfl ?_
    refine mg_60 d_m_stateOf_9 rfl ?_
    refine m_iload_n d_m_stateOf_12 rfl ?_
    refine m_ald 20 rfl (by decide) rfl d_m_stateOf_13 (by omega) (by omega) ?_
    refine m_goto (tgt := 18) d_m_stateOf_14 (by decide) ?_
    exact m_iret rfl d_m_stateOf_18 (by first | exact opQ.good2 (by unfold cd_stateOf; (repeat' split) <;> omega) (by unfold cd_stateOf; (repeat' split) <;> omega) rfl rfl | exact opQ.bad (by unfold cd_stateOf; (repeat' split) <;> omega) (by omega))
def cd_memoryOf (S : gS) (c : Int) : Int := if 0 ≤ c ∧ c < S 11 0 then 0 else 1
def vl_memoryOf (S : gS) (c : Int) : Int := S 14 c
def st_memoryOf (S : gS) (c : Int) : gS := S
theorem t_m_memoryOf {g : xG} {x0 : Nat} {ad : Nat → Nat} {tt : Int} {S : gS} {c : Int} (hI : Inv S) (hc : R32 c) : mM g y_m_memoryOf k_m_memoryOf M_m_memoryOf x0 ad [.int (iI c)] tt S (opQ S (cd_memoryOf S c) (vl_memoryOf S c) (st_memoryOf S c)) := by
  refine mM.of rfl (by decide) rfl rfl rfl (by simp [Value.category]) (Nat.le_of_ble_eq_true rfl) rfl (fun h0 => ?_)
  obtain ⟨hR, hi1, hi2, hi3, hi4, hi5, hi6, hi7⟩ := id hI
  obtain ⟨him, hgr, hco, hck⟩ := id hi1
  have e1 := isin_s c (S 11 0)
  refine m_aload_n d_m_memoryOf_0 rfl ?_
  refine m_iload_n d_m_memoryOf_1 rfl ?_
  refine m_callV d_m_memoryOf_2 q_m_memoryOf_204 s_m_isAsked v_m_isAsked rfl (t_m_isAsked hI hc) rfl rfl (Nat.le_of_ble_eq_true rfl) rfl rfl rfl ?_
  rintro _ _ _ ⟨rfl, rfl, rfl⟩
  refine m_if_eq (tgt := 17) d_m_memoryOf_5 (by decide) (by first | assumption | exact hR _ _ (by decide) | (unfold R32; omega)) (fun z5 => ?_) (fun z5 => ?_)
  · refine m_iconst d_m_memoryOf_17 ?_
    exact m_iret rfl d_m_memoryOf_18 (by first | exact opQ.good2 (by unfold cd_memoryOf; (repeat' split) <;> omega) (by unfold cd_memoryOf; (repeat' split) <;> omega) rfl rfl | exact opQ.bad (by unfold cd_memoryOf; (repeat' split) <;> omega) (by omega))
  · refine m_aload_n d_m_memoryOf_8 rfl ?_
    refine mg_45 d_m_memoryOf_9 rfl ?_
    refine m_iload_n d_m_memoryOf_12 rfl ?_
    refine m_ald 25 rfl (by decide) rfl d_m_memoryOf_13 (by omega) (by omega) ?_
    refine m_goto (tgt := 18) d_m_memoryOf_14 (by decide) ?_
    exact m_iret rfl d_m_memoryOf_18 (by first | exact opQ.good2 (by unfold cd_memoryOf; (repeat' split) <;> omega) (by unfold cd_memoryOf; (repeat' split) <;> omega) rfl rfl | exact opQ.bad (by unfold cd_memoryOf; (repeat' split) <;> omega) (by omega))
def cd_timeOf (S : gS) (c : Int) : Int := if 0 ≤ c ∧ c < S 11 0 then 0 else 1
def vl_timeOf (S : gS) (c : Int) : Int := S 22 c
def st_timeOf (S : gS) (c : Int) : gS := S
theorem t_m_timeOf {g : xG} {x0 : Nat} {ad : Nat → Nat} {tt : Int} {S : gS} {c : Int} (hI : Inv S) (hc : R32 c) : mM g y_m_timeOf k_m_timeOf M_m_timeOf x0 ad [.int (iI c)] tt S (opQ S (cd_timeOf S c) (vl_timeOf S c) (st_timeOf S c)) := by
  refine mM.of rfl (by decide) rfl rfl rfl (by simp [Value.category]) (Nat.le_of_ble_eq_true rfl) rfl (fun h0 => ?_)
  obtain ⟨hR, hi1, hi2, hi3, hi4, hi5, hi6, hi7⟩ := id hI
  obtain ⟨him, hgr, hco, hck⟩ := id hi1
  have e1 := isin_s c (S 11 0)
  refine m_aload_n d_m_timeOf_0 rfl ?_
  refine m_iload_n d_m_timeOf_1 rfl ?_
  refine m_callV d_m_timeOf_2 q_m_timeOf_204 s_m_isAsked v_m_isAsked rfl (t_m_isAsked hI hc) rfl rfl (Nat.le_of_ble_eq_true rfl) rfl rfl rfl ?_
  rintro _ _ _ ⟨rfl, rfl, rfl⟩
  refine m_if_eq (tgt := 17) d_m_timeOf_5 (by decide) (by first | assumption | exact hR _ _ (by decide) | (unfold R32; omega)) (fun z5 => ?_) (fun z5 => ?_)
  · refine m_iconst d_m_timeOf_17 ?_
    exact m_iret rfl d_m_timeOf_18 (by first | exact opQ.good2 (by unfold cd_timeOf; (repeat' split) <;> omega) (by unfold cd_timeOf; (repeat' split) <;> omega) rfl rfl | exact opQ.bad (by unfold cd_timeOf; (repeat' split) <;> omega) (by omega))
  · refine m_aload_n d_m_timeOf_8 rfl ?_
    refine mg_69 d_m_timeOf_9 rfl ?_
    refine m_iload_n d_m_timeOf_12 rfl ?_
    refine m_ald 20 rfl (by decide) rfl d_m_timeOf_13 (by omega) (by omega) ?_
    refine m_goto (tgt := 18) d_m_timeOf_14 (by decide) ?_
    exact m_iret rfl d_m_timeOf_18 (by first | exact opQ.good2 (by unfold cd_timeOf; (repeat' split) <;> omega) (by unfold cd_timeOf; (repeat' split) <;> omega) rfl rfl | exact opQ.bad (by unfold cd_timeOf; (repeat' split) <;> omega) (by omega))
def cd_capabilitiesOf (S : gS) (c : Int) : Int := if 0 ≤ c ∧ c < S 11 0 then 0 else 1
def vl_capabilitiesOf (S : gS) (c : Int) : Int := 16 * S 16 c + S 17 c
def st_capabilitiesOf (S : gS) (c : Int) : gS := S
theorem t_m_capabilitiesOf {g : xG} {x0 : Nat} {ad : Nat → Nat} {tt : Int} {S : gS} {c : Int} (hI : Inv S) (hc : R32 c) : mM g y_m_capabilitiesOf k_m_capabilitiesOf M_m_capabilitiesOf x0 ad [.int (iI c)] tt S (opQ S (cd_capabilitiesOf S c) (vl_capabilitiesOf S c) (st_capabilitiesOf S c)) := by
  refine mM.of rfl (by decide) rfl rfl rfl (by simp [Value.category]) (Nat.le_of_ble_eq_true rfl) rfl (fun h0 => ?_)
  obtain ⟨hR, hi1, hi2, hi3, hi4, hi5, hi6, hi7⟩ := id hI
  obtain ⟨him, hgr, hco, hck⟩ := id hi1
  have e1 := isin_s c (S 11 0)
  refine m_aload_n d_m_capabilitiesOf_0 rfl ?_
  refine m_iload_n d_m_capabilitiesOf_1 rfl ?_
  refine m_callV d_m_capabilitiesOf_2 q_m_capabilitiesOf_204 s_m_isAsked v_m_isAsked rfl (t_m_isAsked hI hc) rfl rfl (Nat.le_of_ble_eq_true rfl) rfl rfl rfl ?_
  rintro _ _ _ ⟨rfl, rfl, rfl⟩
  refine m_if_eq (tgt := 27) d_m_capabilitiesOf_5 (by decide) (by first | assumption | exact hR _ _ (by decide) | (unfold R32; omega)) (fun z5 => ?_) (fun z5 => ?_)
  · refine m_iconst d_m_capabilitiesOf_27 ?_
    exact m_iret rfl d_m_capabilitiesOf_28 (by first | exact opQ.good2 (by unfold cd_capabilitiesOf; (repeat' split) <;> omega) (by unfold cd_capabilitiesOf; (repeat' split) <;> omega) rfl rfl | exact opQ.bad (by unfold cd_capabilitiesOf; (repeat' split) <;> omega) (by omega))
  · refine m_bipush d_m_capabilitiesOf_8 (by decide) ?_
    refine m_aload_n d_m_capabilitiesOf_10 rfl ?_
    refine mg_51 d_m_capabilitiesOf_11 rfl ?_
    refine m_iload_n d_m_capabilitiesOf_14 rfl ?_
    refine m_ald 25 rfl (by decide) rfl d_m_capabilitiesOf_15 (by omega) (by omega) ?_
    refine m_imul d_m_capabilitiesOf_16 ?_
    refine m_aload_n d_m_capabilitiesOf_17 rfl ?_
    refine mg_54 d_m_capabilitiesOf_18 rfl ?_
    refine m_iload_n d_m_capabilitiesOf_21 rfl ?_
    refine m_ald 25 rfl (by decide) rfl d_m_capabilitiesOf_22 (by omega) (by omega) ?_
    refine m_iadd d_m_capabilitiesOf_23 ?_
    refine m_goto (tgt := 28) d_m_capabilitiesOf_24 (by decide) ?_
    exact m_iret rfl d_m_capabilitiesOf_28 (by first | exact opQ.good2 (by unfold cd_capabilitiesOf; (repeat' split) <;> omega) (by unfold cd_capabilitiesOf; (repeat' split) <;> omega) rfl rfl | exact opQ.bad (by unfold cd_capabilitiesOf; (repeat' split) <;> omega) (by omega))
def cd_addressOf (S : gS) (c : Int) : Int := if 0 ≤ c ∧ c < S 11 0 then 0 else 1
def vl_addressOf (S : gS) (c : Int) : Int := S 21 c
def st_addressOf (S : gS) (c : Int) : gS := S
theorem t_m_addressOf {g : xG} {x0 : Nat} {ad : Nat → Nat} {tt : Int} {S : gS} {c : Int} (hI : Inv S) (hc : R32 c) : mM g y_m_addressOf k_m_addressOf M_m_addressOf x0 ad [.int (iI c)] tt S (opQ S (cd_addressOf S c) (vl_addressOf S c) (st_addressOf S c)) := by
  refine mM.of rfl (by decide) rfl rfl rfl (by simp [Value.category]) (Nat.le_of_ble_eq_true rfl) rfl (fun h0 => ?_)
  obtain ⟨hR, hi1, hi2, hi3, hi4, hi5, hi6, hi7⟩ := id hI
  obtain ⟨him, hgr, hco, hck⟩ := id hi1
  have e1 := isin_s c (S 11 0)
  refine m_aload_n d_m_addressOf_0 rfl ?_
  refine m_iload_n d_m_addressOf_1 rfl ?_
  refine m_callV d_m_addressOf_2 q_m_addressOf_204 s_m_isAsked v_m_isAsked rfl (t_m_isAsked hI hc) rfl rfl (Nat.le_of_ble_eq_true rfl) rfl rfl rfl ?_
  rintro _ _ _ ⟨rfl, rfl, rfl⟩
  refine m_if_eq (tgt := 17) d_m_addressOf_5 (by decide) (by first | assumption | exact hR _ _ (by decide) | (unfold R32; omega)) (fun z5 => ?_) (fun z5 => ?_)
  · refine m_iconst d_m_addressOf_17 ?_
    exact m_iret rfl d_m_addressOf_18 (by first | exact opQ.good2 (by unfold cd_addressOf; (repeat' split) <;> omega) (by unfold cd_addressOf; (repeat' split) <;> omega) rfl rfl | exact opQ.bad (by unfold cd_addressOf; (repeat' split) <;> omega) (by omega))
  · refine m_aload_n d_m_addressOf_8 rfl ?_
    refine mg_66 d_m_addressOf_9 rfl ?_
    refine m_iload_n d_m_addressOf_12 rfl ?_
    refine m_ald 20 rfl (by decide) rfl d_m_addressOf_13 (by omega) (by omega) ?_
    refine m_goto (tgt := 18) d_m_addressOf_14 (by decide) ?_
    exact m_iret rfl d_m_addressOf_18 (by first | exact opQ.good2 (by unfold cd_addressOf; (repeat' split) <;> omega) (by unfold cd_addressOf; (repeat' split) <;> omega) rfl rfl | exact opQ.bad (by unfold cd_addressOf; (repeat' split) <;> omega) (by omega))
theorem ancN_s (S : gS) : ∀ (n : Nat) (k : Int), ancN S (n + 1) k = S 4 (ancN S n k) := by
  intro n
  induction n with
  | zero => intro k; rfl
  | succ n ih => intro k; show ancN S (n + 1) (S 4 k) = S 4 (ancN S n (S 4 k)); exact ih (S 4 k)
theorem anc_lay {S : gS} (hI : Inv S) : ∀ (n : Nat) (k : Int), 0 ≤ k → k < S 3 0 → (n : Int) ≤ lay S k → -1 ≤ ancN S n k ∧ ancN S n k < S 3 0 ∧ lay S (ancN S n k) = lay S k - n := by
  intro n
  induction n with
  | zero => intro k h0 h1 h2; show -1 ≤ k ∧ k < S 3 0 ∧ lay S k = lay S k - 0; omega
  | succ n ih =>
    intro k h0 h1 h2
    have hb := hI.2.2.1.1 k h0 h1
    have hs := lay_s hI.2.2.1 h0 h1
    show -1 ≤ ancN S n (S 4 k) ∧ ancN S n (S 4 k) < S 3 0 ∧ lay S (ancN S n (S 4 k)) = lay S k - (n + 1 : Nat)
    by_cases hk : S 4 k = -1
    · rw [hk, lay_m1] at hs
      have : n = 0 := by omega
      subst this
      show -1 ≤ S 4 k ∧ S 4 k < S 3 0 ∧ lay S (S 4 k) = lay S k - (0 + 1 : Nat)
      rw [hk, lay_m1]; omega
    · have := ih (S 4 k) (by omega) (by omega) (by omega)
      omega
theorem lay_0 {S : gS} (hI : Inv S) {k : Int} (h0 : -1 ≤ k) (h1 : k < S 3 0) (h : lay S k = 0) : k = -1 := by
  by_cases hk : k = -1
  · exact hk
  · have := lay_s hI.2.2.1 (k := k) (by omega) h1
    have := lay_nn S (S 4 k)
    omega
theorem lay_1 {S : gS} (hI : Inv S) {k : Int} (h0 : 0 ≤ k) (h1 : k < S 3 0) : 1 ≤ lay S k := by
  have := lay_s hI.2.2.1 h0 h1
  have := lay_nn S (S 4 k)
  omega
def lyA (S : gS) (c h : Int) : Int := if h = lay S (S 12 c) then 10 + c else ancN S (lay S (S 12 c) - 1 - h).toNat (S 12 c)
theorem L_m_layerAt {g : xG} {x0 : Nat} {ad : Nat → Nat} {h0 : hp} {tt : Int} {S : gS} {c h m : Int} (hI : Inv S) (hc : 0 ≤ c) (hc2 : c < S 11 0) (hm : m = lay S (S 12 c)) (hh : 0 ≤ h) (hh2 : h ≤ m) : ∀ (f9 : Nat) (a k : Int), k + 1 < h + f9 → h - 1 ≤ k → k ≤ 20 → (h = m ∨ (h ≤ k ∧ 0 ≤ a ∧ a < S 3 0 ∧ lay S a = k + 1 ∧ ancN S (k - h).toNat a = lyA S c h)) → mW g M_m_layerAt x0 ad h0 (fun v t9 S9 => v = some (.int (iI (lyA S c h))) ∧ tt = t9 ∧ S = S9) tt S 24 [some (.ref x0), some (.int (iI c)), some (.int (iI h)), some (.int (iI m)), some (.int (iI a)), some (.int (iI k))] [] := by
  intro f9
  induction f9 with
  | zero => intros; omega
  | succ f9 ih =>
    intro a k h1 h2 h20 h3
    obtain ⟨hR, hi1, hi2, hi3, -⟩ := id hI
    obtain ⟨him, hgr, hco, -⟩ := id hi1
    have hk0 := (hi3 c (Or.inl ⟨hc, hc2⟩)).1
    have h88 := lay_8 hI hk0.1 hk0.2
    refine m_iload d_m_layerAt_24 rfl ?_
    refine m_iload_n d_m_layerAt_26 rfl ?_
    refine m_icmp_le (tgt := 50) d_m_layerAt_27 (by decide) (by unfold R32; omega) (by unfold R32; omega) (fun z27 => ?_) (fun z27 => ?_)
    · refine m_iload_n d_m_layerAt_50 rfl ?_
      refine m_iload_n d_m_layerAt_51 rfl ?_
      refine m_icmp_ne (tgt := 62) d_m_layerAt_52 (by decide) (by unfold R32; omega) (by unfold R32; omega) (fun z52 => ?_) (fun z52 => ?_)
      · refine m_iload d_m_layerAt_62 rfl ?_
        exact m_iret rfl d_m_layerAt_64 (by first
    | (exfalso; omega)
    | exact ⟨congrArg (fun z => some (Value.int (iI z))) (by unfold lyA; rw [if_pos (by omega)]), rfl, rfl⟩
    | exact ⟨congrArg (fun z => some (Value.int (iI z))) (by rcases h3 with q | ⟨q1, q2, q3, q4, q5⟩ <;> first | omega | (rw [← q5, show (k - h).toNat = 0 by omega]; rfl)), rfl, rfl⟩)
      · refine m_bipush d_m_layerAt_55 (by decide) ?_
        refine m_iload_n d_m_layerAt_57 rfl ?_
        refine m_iadd d_m_layerAt_58 ?_
        refine m_goto (tgt := 64) d_m_layerAt_59 (by decide) ?_
        exact m_iret rfl d_m_layerAt_64 (by first
    | (exfalso; omega)
    | exact ⟨congrArg (fun z => some (Value.int (iI z))) (by unfold lyA; rw [if_pos (by omega)]), rfl, rfl⟩
    | exact ⟨congrArg (fun z => some (Value.int (iI z))) (by rcases h3 with q | ⟨q1, q2, q3, q4, q5⟩ <;> first | omega | (rw [← q5, show (k - h).toNat = 0 by omega]; rfl)), rfl, rfl⟩)
    · have h8 := lay_8 hI hk0.1 hk0.2
      refine m_iload_n d_m_layerAt_30 rfl ?_
      refine m_iload_n d_m_layerAt_31 rfl ?_
      refine m_icmp_ge (tgt := 50) d_m_layerAt_32 (by decide) (by unfold R32; omega) (by unfold R32; omega) (fun z32 => ?_) (fun z32 => ?_)
      · refine m_iload_n d_m_layerAt_50 rfl ?_
        refine m_iload_n d_m_layerAt_51 rfl ?_
        refine m_icmp_ne (tgt := 62) d_m_layerAt_52 (by decide) (by unfold R32; omega) (by unfold R32; omega) (fun z52 => ?_) (fun z52 => ?_)
        · refine m_iload d_m_layerAt_62 rfl ?_
          exact m_iret rfl d_m_layerAt_64 (by first
    | (exfalso; omega)
    | exact ⟨congrArg (fun z => some (Value.int (iI z))) (by unfold lyA; rw [if_pos (by omega)]), rfl, rfl⟩
    | exact ⟨congrArg (fun z => some (Value.int (iI z))) (by rcases h3 with q | ⟨q1, q2, q3, q4, q5⟩ <;> first | omega | (rw [← q5, show (k - h).toNat = 0 by omega]; rfl)), rfl, rfl⟩)
        · refine m_bipush d_m_layerAt_55 (by decide) ?_
          refine m_iload_n d_m_layerAt_57 rfl ?_
          refine m_iadd d_m_layerAt_58 ?_
          refine m_goto (tgt := 64) d_m_layerAt_59 (by decide) ?_
          exact m_iret rfl d_m_layerAt_64 (by first
    | (exfalso; omega)
    | exact ⟨congrArg (fun z => some (Value.int (iI z))) (by unfold lyA; rw [if_pos (by omega)]), rfl, rfl⟩
    | exact ⟨congrArg (fun z => some (Value.int (iI z))) (by rcases h3 with q | ⟨q1, q2, q3, q4, q5⟩ <;> first | omega | (rw [← q5, show (k - h).toNat = 0 by omega]; rfl)), rfl, rfl⟩)
      · have hb := hi2.1 a (by omega) (by omega)
        refine m_aload_n d_m_layerAt_35 rfl ?_
        refine mg_16 d_m_layerAt_36 rfl ?_
        refine m_iload d_m_layerAt_39 rfl ?_
        refine m_ald 10 rfl (by decide) rfl d_m_layerAt_41 (by omega) (by omega) ?_
        refine m_istore d_m_layerAt_42 (by decide) ?_
        refine m_iinc d_m_layerAt_44 rfl (by decide) ?_
        refine m_goto (tgt := 24) d_m_layerAt_47 (by decide) ?_
        rcases h3 with q | ⟨q1, q2, q3, q4, q5⟩
        · omega
        · rw [show (k - h).toNat = (k + -1 - h).toNat + 1 by omega] at q5
          have hs := lay_s hi2 q2 q3
          have hm1 := lay_m1 S
          have hne : S 4 a ≠ -1 := fun q => by rw [q, hm1] at hs; omega
          exact ih (S 4 a) (k + -1) (by omega) (by omega) (by omega) (Or.inr ⟨by omega, by omega, by omega, by omega, q5⟩)
theorem t_m_layerAt {g : xG} {x0 : Nat} {ad : Nat → Nat} {tt : Int} {S : gS} {c h : Int} (hI : Inv S) (hc : 0 ≤ c) (hc2 : c < S 11 0) (hh : 0 ≤ h) (hh2 : h ≤ lay S (S 12 c)) : mM g y_m_layerAt k_m_layerAt M_m_layerAt x0 ad [.int (iI c), .int (iI h)] tt S (fun v t9 S9 => v = some (.int (iI (lyA S c h))) ∧ tt = t9 ∧ S = S9) := by
  refine mM.of rfl (by decide) rfl rfl rfl (by simp [Value.category]) (Nat.le_of_ble_eq_true rfl) rfl (fun h0 => ?_)
  obtain ⟨hR, hi1, hi2, hi3, hi4, hi5, hi6, hi7⟩ := id hI
  obtain ⟨him, hgr, hco, hck⟩ := id hi1
  have hk0 := (hi3 c (Or.inl ⟨hc, hc2⟩)).1
  have h88 := lay_8 hI hk0.1 hk0.2
  have h89 := lay_1 hI hk0.1 hk0.2
  refine m_aload_n d_m_layerAt_0 rfl ?_
  refine m_aload_n d_m_layerAt_1 rfl ?_
  refine mg_39 d_m_layerAt_2 rfl ?_
  refine m_iload_n d_m_layerAt_5 rfl ?_
  refine m_ald 25 rfl (by decide) rfl d_m_layerAt_6 (by omega) (by omega) ?_
  refine m_callV d_m_layerAt_7 q_m_layerAt_105 s_m_layersOf v_m_layersOf rfl (t_m_layersOf hi1 hi2 (by omega) (by omega)) rfl rfl (Nat.le_of_ble_eq_true rfl) rfl rfl rfl ?_
  rintro _ _ _ ⟨rfl, rfl, rfl⟩
  refine m_istore_n d_m_layerAt_10 (by decide) ?_
  refine m_aload_n d_m_layerAt_11 rfl ?_
  refine mg_39 d_m_layerAt_12 rfl ?_
  refine m_iload_n d_m_layerAt_15 rfl ?_
  refine m_ald 25 rfl (by decide) rfl d_m_layerAt_16 (by omega) (by omega) ?_
  refine m_istore d_m_layerAt_17 (by decide) ?_
  refine m_iload_n d_m_layerAt_19 rfl ?_
  refine m_iconst d_m_layerAt_20 ?_
  refine m_isub d_m_layerAt_21 ?_
  refine m_istore d_m_layerAt_22 (by decide) ?_
  exact L_m_layerAt hI hc hc2 rfl hh hh2 ((lay S (S 12 c) + 2).toNat) (S 12 c) (lay S (S 12 c) - 1) (by omega) (by omega) (by omega) (by
      by_cases q : h = lay S (S 12 c)
      · exact Or.inl q
      · exact Or.inr ⟨by omega, hk0.1, hk0.2, by omega, by unfold lyA; rw [if_neg q]⟩)
def cd_plainFileOf (S : gS) (c f : Int) : Int := if 0 ≤ c ∧ c < S 11 0 ∧ 0 ≤ f ∧ f < 32 then 0 else 1
def vl_plainFileOf (S : gS) (c f : Int) : Int := csee S c f
def st_plainFileOf (S : gS) (_ _ : Int) : gS := S
/-- what is built up below height h -/
def pln (S : gS) (c f h : Int) : Int := if h = lay S (S 12 c) + 1 then csee S c f else see S (ancN S (lay S (S 12 c) - h).toNat (S 12 c)) f
theorem pln_s {S : gS} (hI : Inv S) {c f h : Int} (hc : 0 ≤ c) (hk : 0 ≤ S 12 c ∧ S 12 c < S 3 0) (h0 : 0 ≤ h) (h1 : h ≤ lay S (S 12 c)) : pln S c f (h + 1) = lyr S (lyA S c h) f (pln S c f h) ∧ 0 ≤ lyA S c h ∧ (lyA S c h = 10 + c ∨ lyA S c h < S 3 0) := by
  by_cases q : h = lay S (S 12 c)
  · unfold pln lyA
    rw [if_pos (by omega), if_pos q, if_neg (by omega), q, Int.sub_self]
    exact ⟨rfl, by omega, Or.inl rfl⟩
  · have ha := anc_lay hI (lay S (S 12 c) - 1 - h).toNat (S 12 c) hk.1 hk.2 (by omega)
    have e : (lay S (S 12 c) - h).toNat = (lay S (S 12 c) - 1 - h).toNat + 1 := by omega
    unfold pln lyA
    rw [if_neg (by omega), if_neg q, if_neg (by omega), show lay S (S 12 c) - (h + 1) = lay S (S 12 c) - 1 - h by omega, e, ancN_s]
    generalize hA : ancN S (lay S (S 12 c) - 1 - h).toNat (S 12 c) = A at ha ⊢
    have h0A : 0 ≤ A := by
      rcases (by omega : A = -1 ∨ 0 ≤ A) with z | z
      · rw [z, lay_m1] at ha; omega
      · exact z
    exact ⟨see_s hI.2.2.1 f h0A ha.2.1, h0A, Or.inr ha.2.1⟩
theorem L_m_plainFileOf {g : xG} {x0 : Nat} {ad : Nat → Nat} {h0 : hp} {tt : Int} {S : gS} {c f : Int} (hI : Inv S) (hc : 0 ≤ c) (hc2 : c < S 11 0) (hf : 0 ≤ f) (hf2 : f < 32) (hcd : cd_plainFileOf S c f = 0) : ∀ (f9 : Nat) (h : Int), 0 ≤ h → h ≤ lay S (S 12 c) + 1 → lay S (S 12 c) + 1 < h + f9 → ∀ u5 u6, mW g M_m_plainFileOf x0 ad h0 (opQ S (cd_plainFileOf S c f) (vl_plainFileOf S c f) (st_plainFileOf S c f)) 0 S 36 (some (.ref x0) :: some (.int (iI c)) :: some (.int (iI f)) :: some (.int (iI (pln S c f h))) :: some (.int (iI h)) :: u5 :: u6 :: []) [] := by
  intro f9
  induction f9 with
  | zero => intros; omega
  | succ f9 ih =>
    intro h h1 h2 h3 u5 u6
    obtain ⟨hR, hi1, hi2, hi3, hi4, hi5, hi6, -⟩ := id hI
    obtain ⟨him, hgr, hco, -⟩ := id hi1
    have hk0 := (hi3 c (Or.inl ⟨hc, hc2⟩)).1
    have h88 := lay_8 hI hk0.1 hk0.2
    refine m_iload d_m_plainFileOf_36 rfl ?_
    refine m_aload_n d_m_plainFileOf_38 rfl ?_
    refine m_aload_n d_m_plainFileOf_39 rfl ?_
    refine mg_39 d_m_plainFileOf_40 rfl ?_
    refine m_iload_n d_m_plainFileOf_43 rfl ?_
    refine m_ald 25 rfl (by decide) rfl d_m_plainFileOf_44 (by omega) (by omega) ?_
    refine m_callV d_m_plainFileOf_45 q_m_plainFileOf_105 s_m_layersOf v_m_layersOf rfl (t_m_layersOf hi1 hi2 (by omega) (by omega)) rfl rfl (Nat.le_of_ble_eq_true rfl) rfl rfl rfl ?_
    rintro _ _ _ ⟨rfl, rfl, rfl⟩
    refine m_icmp_gt (tgt := 124) d_m_plainFileOf_48 (by decide) (by first | exact hR _ _ (by decide) | (unfold R32; omega)) (by first | exact hR _ _ (by decide) | (unfold R32; omega)) (fun z48 => ?_) (fun z48 => ?_)
    · refine m_iload_n d_m_plainFileOf_124 rfl ?_
      exact m_iret rfl d_m_plainFileOf_125 (opQ.good hcd (by unfold vl_plainFileOf pln; rw [if_pos (by omega)]) rfl)
    · have hp := pln_s hI (f := f) hc hk0 h1 (by omega)
      have hl := hp.1
      unfold lyr at hl
      have ho := hi6.2.1 (lyA S c h)
      have hp1 := hp.2.1
      have hp2 := hp.2.2
      refine m_aload_n d_m_plainFileOf_51 rfl ?_
      refine m_iload_n d_m_plainFileOf_52 rfl ?_
      refine m_iload d_m_plainFileOf_53 rfl ?_
      refine m_callV d_m_plainFileOf_55 q_m_plainFileOf_182 s_m_layerAt v_m_layerAt rfl (t_m_layerAt hI hc hc2 h1 (by omega)) rfl rfl (Nat.le_of_ble_eq_true rfl) rfl rfl rfl ?_
      rintro _ _ _ ⟨rfl, rfl, rfl⟩
      refine m_istore d_m_plainFileOf_58 (by decide) ?_
      refine m_aload_n d_m_plainFileOf_60 rfl ?_
      refine mg_13 d_m_plainFileOf_61 rfl ?_
      refine m_iload d_m_plainFileOf_64 rfl ?_
      refine m_ald 35 rfl (by decide) rfl d_m_plainFileOf_66 (by omega) (by omega) ?_
      refine m_iload_n d_m_plainFileOf_67 rfl ?_
      refine m_iconst d_m_plainFileOf_68 ?_
      refine m_idivI d_m_plainFileOf_69 (by omega) (by first | exact hR _ _ (by decide) | (unfold R32; omega)) (by decide) (by first | exact hR _ _ (by decide) | (unfold R32; omega)) ?_
      refine m_ishrI d_m_plainFileOf_70 (by omega) (by omega) (by omega) (by omega) ?_
      refine m_iconst d_m_plainFileOf_71 ?_
      refine m_iand1 d_m_plainFileOf_72 (Int.ediv_nonneg (by omega) (Int.le_of_lt (Int.pow_pos (by omega)))) ?_
      refine m_iconst d_m_plainFileOf_73 ?_
      refine m_icmp_ne (tgt := 81) d_m_plainFileOf_74 (by decide) (by first | exact hR _ _ (by decide) | (unfold R32; omega)) (by first | exact hR _ _ (by decide) | (unfold R32; omega)) (fun z74 => ?_) (fun z74 => ?_)
      · refine m_iload_n d_m_plainFileOf_81 rfl ?_
        refine m_istore_n d_m_plainFileOf_82 (by decide) ?_
        refine m_aload_n d_m_plainFileOf_83 rfl ?_
        refine mg_7 d_m_plainFileOf_84 rfl ?_
        refine m_bipush d_m_plainFileOf_87 (by decide) ?_
        refine m_iload d_m_plainFileOf_89 rfl ?_
        refine m_imul d_m_plainFileOf_91 ?_
        refine m_iload_n d_m_plainFileOf_92 rfl ?_
        refine m_iadd d_m_plainFileOf_93 ?_
        refine m_ald 1120 rfl (by decide) rfl d_m_plainFileOf_94 (by omega) (by omega) ?_
        refine m_istore d_m_plainFileOf_95 (by decide) ?_
        refine m_iload d_m_plainFileOf_97 rfl ?_
        refine m_if_ge (tgt := 106) d_m_plainFileOf_99 (by decide) (by first | exact hR _ _ (by decide) | (unfold R32; omega)) (fun z99 => ?_) (fun z99 => ?_)
        · refine m_iload d_m_plainFileOf_106 rfl ?_
          refine m_if_le (tgt := 116) d_m_plainFileOf_108 (by decide) (by first | exact hR _ _ (by decide) | (unfold R32; omega)) (fun z108 => ?_) (fun z108 => ?_)
          · refine m_iload_n d_m_plainFileOf_116 rfl ?_
            refine m_istore_n d_m_plainFileOf_117 (by decide) ?_
            refine m_iinc d_m_plainFileOf_118 rfl (by decide) ?_
            refine m_goto (tgt := 36) d_m_plainFileOf_121 (by decide) ?_
            have e : pln S c f (h + 1) = _ := hl
            first
              | (have y74 : obit S (lyA S c h) f = 1 := z74; rw [if_pos y74] at e; have h99 := ih (h + 1) (by omega) (by omega) (by omega) (some (.int (iI (lyA S c h)))) (some (.int (iI (S 1 (32 * lyA S c h + f))))); (repeat' split at e) <;> first | omega | (rw [e] at h99; exact h99))
              | (have y74 : ¬ obit S (lyA S c h) f = 1 := z74; rw [if_neg y74] at e; have h99 := ih (h + 1) (by omega) (by omega) (by omega) (some (.int (iI (lyA S c h)))) (some (.int (iI (S 1 (32 * lyA S c h + f))))); (repeat' split at e) <;> first | omega | (rw [e] at h99; exact h99))
          · refine m_iload d_m_plainFileOf_111 rfl ?_
            refine m_goto (tgt := 117) d_m_plainFileOf_113 (by decide) ?_
            refine m_istore_n d_m_plainFileOf_117 (by decide) ?_
            refine m_iinc d_m_plainFileOf_118 rfl (by decide) ?_
            refine m_goto (tgt := 36) d_m_plainFileOf_121 (by decide) ?_
            have e : pln S c f (h + 1) = _ := hl
            first
              | (have y74 : obit S (lyA S c h) f = 1 := z74; rw [if_pos y74] at e; have h99 := ih (h + 1) (by omega) (by omega) (by omega) (some (.int (iI (lyA S c h)))) (some (.int (iI (S 1 (32 * lyA S c h + f))))); (repeat' split at e) <;> first | omega | (rw [e] at h99; exact h99))
              | (have y74 : ¬ obit S (lyA S c h) f = 1 := z74; rw [if_neg y74] at e; have h99 := ih (h + 1) (by omega) (by omega) (by omega) (some (.int (iI (lyA S c h)))) (some (.int (iI (S 1 (32 * lyA S c h + f))))); (repeat' split at e) <;> first | omega | (rw [e] at h99; exact h99))
        · refine m_iconst d_m_plainFileOf_102 ?_
          refine m_goto (tgt := 117) d_m_plainFileOf_103 (by decide) ?_
          refine m_istore_n d_m_plainFileOf_117 (by decide) ?_
          refine m_iinc d_m_plainFileOf_118 rfl (by decide) ?_
          refine m_goto (tgt := 36) d_m_plainFileOf_121 (by decide) ?_
          have e : pln S c f (h + 1) = _ := hl
          first
            | (have y74 : obit S (lyA S c h) f = 1 := z74; rw [if_pos y74] at e; have h99 := ih (h + 1) (by omega) (by omega) (by omega) (some (.int (iI (lyA S c h)))) (some (.int (iI (S 1 (32 * lyA S c h + f))))); (repeat' split at e) <;> first | omega | (rw [e] at h99; exact h99))
            | (have y74 : ¬ obit S (lyA S c h) f = 1 := z74; rw [if_neg y74] at e; have h99 := ih (h + 1) (by omega) (by omega) (by omega) (some (.int (iI (lyA S c h)))) (some (.int (iI (S 1 (32 * lyA S c h + f))))); (repeat' split at e) <;> first | omega | (rw [e] at h99; exact h99))
      · refine m_iconst d_m_plainFileOf_77 ?_
        refine m_goto (tgt := 82) d_m_plainFileOf_78 (by decide) ?_
        refine m_istore_n d_m_plainFileOf_82 (by decide) ?_
        refine m_aload_n d_m_plainFileOf_83 rfl ?_
        refine mg_7 d_m_plainFileOf_84 rfl ?_
        refine m_bipush d_m_plainFileOf_87 (by decide) ?_
        refine m_iload d_m_plainFileOf_89 rfl ?_
        refine m_imul d_m_plainFileOf_91 ?_
        refine m_iload_n d_m_plainFileOf_92 rfl ?_
        refine m_iadd d_m_plainFileOf_93 ?_
        refine m_ald 1120 rfl (by decide) rfl d_m_plainFileOf_94 (by omega) (by omega) ?_
        refine m_istore d_m_plainFileOf_95 (by decide) ?_
        refine m_iload d_m_plainFileOf_97 rfl ?_
        refine m_if_ge (tgt := 106) d_m_plainFileOf_99 (by decide) (by first | exact hR _ _ (by decide) | (unfold R32; omega)) (fun z99 => ?_) (fun z99 => ?_)
        · refine m_iload d_m_plainFileOf_106 rfl ?_
          refine m_if_le (tgt := 116) d_m_plainFileOf_108 (by decide) (by first | exact hR _ _ (by decide) | (unfold R32; omega)) (fun z108 => ?_) (fun z108 => ?_)
          · refine m_iload_n d_m_plainFileOf_116 rfl ?_
            refine m_istore_n d_m_plainFileOf_117 (by decide) ?_
            refine m_iinc d_m_plainFileOf_118 rfl (by decide) ?_
            refine m_goto (tgt := 36) d_m_plainFileOf_121 (by decide) ?_
            have e : pln S c f (h + 1) = _ := hl
            first
              | (have y74 : obit S (lyA S c h) f = 1 := z74; rw [if_pos y74] at e; have h99 := ih (h + 1) (by omega) (by omega) (by omega) (some (.int (iI (lyA S c h)))) (some (.int (iI (S 1 (32 * lyA S c h + f))))); (repeat' split at e) <;> first | omega | (rw [e] at h99; exact h99))
              | (have y74 : ¬ obit S (lyA S c h) f = 1 := z74; rw [if_neg y74] at e; have h99 := ih (h + 1) (by omega) (by omega) (by omega) (some (.int (iI (lyA S c h)))) (some (.int (iI (S 1 (32 * lyA S c h + f))))); (repeat' split at e) <;> first | omega | (rw [e] at h99; exact h99))
          · refine m_iload d_m_plainFileOf_111 rfl ?_
            refine m_goto (tgt := 117) d_m_plainFileOf_113 (by decide) ?_
            refine m_istore_n d_m_plainFileOf_117 (by decide) ?_
            refine m_iinc d_m_plainFileOf_118 rfl (by decide) ?_
            refine m_goto (tgt := 36) d_m_plainFileOf_121 (by decide) ?_
            have e : pln S c f (h + 1) = _ := hl
            first
              | (have y74 : obit S (lyA S c h) f = 1 := z74; rw [if_pos y74] at e; have h99 := ih (h + 1) (by omega) (by omega) (by omega) (some (.int (iI (lyA S c h)))) (some (.int (iI (S 1 (32 * lyA S c h + f))))); (repeat' split at e) <;> first | omega | (rw [e] at h99; exact h99))
              | (have y74 : ¬ obit S (lyA S c h) f = 1 := z74; rw [if_neg y74] at e; have h99 := ih (h + 1) (by omega) (by omega) (by omega) (some (.int (iI (lyA S c h)))) (some (.int (iI (S 1 (32 * lyA S c h + f))))); (repeat' split at e) <;> first | omega | (rw [e] at h99; exact h99))
        · refine m_iconst d_m_plainFileOf_102 ?_
          refine m_goto (tgt := 117) d_m_plainFileOf_103 (by decide) ?_
          refine m_istore_n d_m_plainFileOf_117 (by decide) ?_
          refine m_iinc d_m_plainFileOf_118 rfl (by decide) ?_
          refine m_goto (tgt := 36) d_m_plainFileOf_121 (by decide) ?_
          have e : pln S c f (h + 1) = _ := hl
          first
            | (have y74 : obit S (lyA S c h) f = 1 := z74; rw [if_pos y74] at e; have h99 := ih (h + 1) (by omega) (by omega) (by omega) (some (.int (iI (lyA S c h)))) (some (.int (iI (S 1 (32 * lyA S c h + f))))); (repeat' split at e) <;> first | omega | (rw [e] at h99; exact h99))
            | (have y74 : ¬ obit S (lyA S c h) f = 1 := z74; rw [if_neg y74] at e; have h99 := ih (h + 1) (by omega) (by omega) (by omega) (some (.int (iI (lyA S c h)))) (some (.int (iI (S 1 (32 * lyA S c h + f))))); (repeat' split at e) <;> first | omega | (rw [e] at h99; exact h99))
theorem t_m_plainFileOf {g : xG} {x0 : Nat} {ad : Nat → Nat} {tt : Int} {S : gS} {c f : Int} (hI : Inv S) (hc : R32 c) (hf : R32 f) : mM g y_m_plainFileOf k_m_plainFileOf M_m_plainFileOf x0 ad [.int (iI c), .int (iI f)] tt S (opQ S (cd_plainFileOf S c f) (vl_plainFileOf S c f) (st_plainFileOf S c f)) := by
  refine mM.of rfl (by decide) rfl rfl rfl (by simp [Value.category]) (Nat.le_of_ble_eq_true rfl) rfl (fun h0 => ?_)
  obtain ⟨hR, hi1, hi2, hi3, hi4, hi5, hi6, hi7⟩ := id hI
  obtain ⟨him, hgr, hco, hck⟩ := id hi1
  have e1 := isin_s c (S 11 0)
  have e2 := isin_s f 32
  refine m_aload_n d_m_plainFileOf_0 rfl ?_
  refine m_aload_n d_m_plainFileOf_1 rfl ?_
  refine m_iload_n d_m_plainFileOf_2 rfl ?_
  refine m_callV d_m_plainFileOf_3 q_m_plainFileOf_123 s_m_isContainer v_m_isContainer rfl (t_m_isContainer hR (by assumption)) rfl rfl (Nat.le_of_ble_eq_true rfl) rfl rfl rfl ?_
  rintro _ _ _ ⟨rfl, rfl, rfl⟩
  refine m_if_eq (tgt := 22) d_m_plainFileOf_6 (by decide) (by first | assumption | exact hR _ _ (by decide) | (unfold R32; omega)) (fun z6 => ?_) (fun z6 => ?_)
  · refine m_iconst d_m_plainFileOf_22 ?_
    refine m_callV d_m_plainFileOf_23 q_m_plainFileOf_109 s_m_holds v_m_holds rfl (t_m_holds ⟨by omega, by omega⟩) rfl rfl (Nat.le_of_ble_eq_true rfl) rfl rfl rfl ?_
    rintro _ _ _ ⟨rfl, rfl, rfl⟩
    refine m_if_ne (tgt := 31) d_m_plainFileOf_26 (by decide) (by first | assumption | exact hR _ _ (by decide) | (unfold R32; omega)) (fun z26 => ?_) (fun z26 => ?_)
    · exact absurd z26 (by decide)
    · refine m_iconst d_m_plainFileOf_29 ?_
      exact m_iret rfl d_m_plainFileOf_30 (opQ.bad (by unfold cd_plainFileOf; (repeat' split) <;> omega) (by decide))
  · refine m_iload_n d_m_plainFileOf_9 rfl ?_
    refine m_bipush d_m_plainFileOf_10 (by decide) ?_
    refine m_callS d_m_plainFileOf_12 q_m_plainFileOf_90 s_m_isIn (t_m_isIn g hf ⟨by omega, by omega⟩) rfl rfl (Nat.le_of_ble_eq_true rfl) rfl rfl rfl ?_
    rintro _ rfl
    refine m_if_eq (tgt := 22) d_m_plainFileOf_15 (by decide) (by first | assumption | exact hR _ _ (by decide) | (unfold R32; omega)) (fun z15 => ?_) (fun z15 => ?_)
    · refine m_iconst d_m_plainFileOf_22 ?_
      refine m_callV d_m_plainFileOf_23 q_m_plainFileOf_109 s_m_holds v_m_holds rfl (t_m_holds ⟨by omega, by omega⟩) rfl rfl (Nat.le_of_ble_eq_true rfl) rfl rfl rfl ?_
      rintro _ _ _ ⟨rfl, rfl, rfl⟩
      refine m_if_ne (tgt := 31) d_m_plainFileOf_26 (by decide) (by first | assumption | exact hR _ _ (by decide) | (unfold R32; omega)) (fun z26 => ?_) (fun z26 => ?_)
      · exact absurd z26 (by decide)
      · refine m_iconst d_m_plainFileOf_29 ?_
        exact m_iret rfl d_m_plainFileOf_30 (opQ.bad (by unfold cd_plainFileOf; (repeat' split) <;> omega) (by decide))
    · refine m_iconst d_m_plainFileOf_18 ?_
      refine m_goto (tgt := 23) d_m_plainFileOf_19 (by decide) ?_
      refine m_callV d_m_plainFileOf_23 q_m_plainFileOf_109 s_m_holds v_m_holds rfl (t_m_holds ⟨by omega, by omega⟩) rfl rfl (Nat.le_of_ble_eq_true rfl) rfl rfl rfl ?_
      rintro _ _ _ ⟨rfl, rfl, rfl⟩
      refine m_if_ne (tgt := 31) d_m_plainFileOf_26 (by decide) (by first | assumption | exact hR _ _ (by decide) | (unfold R32; omega)) (fun z26 => ?_) (fun z26 => ?_)
      · refine m_iconst d_m_plainFileOf_31 ?_
        refine m_istore_n d_m_plainFileOf_32 (by decide) ?_
        refine m_iconst d_m_plainFileOf_33 ?_
        refine m_istore d_m_plainFileOf_34 (by decide) ?_
        have hcd : cd_plainFileOf S c f = 0 := by unfold cd_plainFileOf; (repeat' split) <;> omega
        have hk0 := (hi3 c (Or.inl ⟨by omega, by omega⟩)).1
        have h88 := lay_8 hI hk0.1 hk0.2
        have ha0 := anc_lay hI (lay S (S 12 c) - 0).toNat (S 12 c) hk0.1 hk0.2 (by omega)
        have h9 : pln S c f 0 = 0 := by
          unfold pln
          rw [if_neg (by omega), lay_0 hI ha0.1 ha0.2.1 (by omega), see_m1]
        have := L_m_plainFileOf (tt := 0) (g := g) (x0 := x0) (ad := ad) (h0 := h0) hI (by omega) (by omega) (by omega) (by omega) hcd ((lay S (S 12 c) + 2).toNat) 0 (by omega) (by omega) (by omega) none none
        rw [h9] at this
        exact this
      · exact absurd z26 (by decide)
