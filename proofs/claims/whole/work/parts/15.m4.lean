theorem lay_8 {S : gS} (hI : Inv S) {k : Int} (h0 : 0 ≤ k) (h1 : k < S 3 0) : 0 ≤ lay S k ∧ lay S k ≤ 8 := ⟨lay_nn S k, (hI.2.2.2.2.2.2.2.1 k h0 h1).1⟩
def cd_newImage (S : gS) (p : Int) : Int := if ¬ (p = -1 ∨ (0 ≤ p ∧ p < S 3 0)) then 1 else if (p = -1 ∨ (S 5 p = 1 ∧ lay S p < 8)) ∧ S 3 0 < 10 then 0 else 2
def vl_newImage (S : gS) (p : Int) : Int := S 3 0
def st_newImage (S : gS) (p : Int) : gS := sset (ez (sset (sset S 4 (S 3 0) p) 5 (S 3 0) 0) (S 3 0) 32) 3 0 (S 3 0 + 1)
theorem t_m_newImage {g : xG} {x0 : Nat} {ad : Nat → Nat} {tt : Int} {S : gS} {p : Int} (hI : Inv S) (hp : R32 p) : mM g y_m_newImage k_m_newImage M_m_newImage x0 ad [.int (iI p)] tt S (opQ S (cd_newImage S p) (vl_newImage S p) (st_newImage S p)) := by
  refine mM.of rfl (by decide) rfl rfl rfl (by simp [Value.category]) (Nat.le_of_ble_eq_true rfl) rfl (fun h0 => ?_)
  obtain ⟨hR, hi1, hi2, hi3, hi4, hi5, hi6, hi7⟩ := id hI
  obtain ⟨him, hgr, hco, hck⟩ := id hi1
  have e1 := isin_s p (S 3 0)
  have e9 := hi6.2.2.1 p
  refine m_iload_n d_m_newImage_0 rfl ?_
  refine m_iconst d_m_newImage_1 ?_
  refine m_icmp_eq (tgt := 13) d_m_newImage_2 (by decide) (by first | assumption | exact hR _ _ (by decide) | (unfold R32; omega)) (by first | assumption | exact hR _ _ (by decide) | (unfold R32; omega)) (fun z2 => ?_) (fun z2 => ?_)
  · refine m_iconst d_m_newImage_13 ?_
    refine m_goto (tgt := 18) d_m_newImage_14 (by decide) ?_
    refine m_istore_n d_m_newImage_18 (by decide) ?_
    refine m_iload_n d_m_newImage_19 rfl ?_
    refine m_if_eq (tgt := 60) d_m_newImage_20 (by decide) (by first | assumption | exact hR _ _ (by decide) | (unfold R32; omega)) (fun z20 => ?_) (fun z20 => ?_)
    · exact absurd z20 (by decide)
    · refine m_iload_n d_m_newImage_23 rfl ?_
      refine m_iconst d_m_newImage_24 ?_
      refine m_icmp_eq (tgt := 47) d_m_newImage_25 (by decide) (by first | assumption | exact hR _ _ (by decide) | (unfold R32; omega)) (by first | assumption | exact hR _ _ (by decide) | (unfold R32; omega)) (fun z25 => ?_) (fun z25 => ?_)
      · refine m_aload_n d_m_newImage_47 rfl ?_
        refine mg_87 d_m_newImage_48 rfl ?_
        refine m_bipush d_m_newImage_51 (by decide) ?_
        refine m_icmp_ge (tgt := 60) d_m_newImage_53 (by decide) (by first | assumption | exact hR _ _ (by decide) | (unfold R32; omega)) (by first | assumption | exact hR _ _ (by decide) | (unfold R32; omega)) (fun z53 => ?_) (fun z53 => ?_)
        · refine m_iconst d_m_newImage_60 ?_
          refine m_istore_n d_m_newImage_61 (by decide) ?_
          refine m_aload_n d_m_newImage_62 rfl ?_
          refine m_iload_n d_m_newImage_63 rfl ?_
          refine m_if_ne (tgt := 71) d_m_newImage_64 (by decide) (by first | assumption | exact hR _ _ (by decide) | (unfold R32; omega)) (fun z64 => ?_) (fun z64 => ?_)
          · refine m_iload_n d_m_newImage_71 rfl ?_
            refine m_if_eq (tgt := 79) d_m_newImage_72 (by decide) (by first | assumption | exact hR _ _ (by decide) | (unfold R32; omega)) (fun z72 => ?_) (fun z72 => ?_)
            · refine m_iconst d_m_newImage_79 ?_
              refine m_callV d_m_newImage_80 q_m_newImage_109 s_m_holds v_m_holds rfl (t_m_holds ⟨by omega, by omega⟩) rfl rfl (Nat.le_of_ble_eq_true rfl) rfl rfl rfl ?_
              rintro _ _ _ ⟨rfl, rfl, rfl⟩
              refine m_if_ne (tgt := 88) d_m_newImage_83 (by decide) (by first | assumption | exact hR _ _ (by decide) | (unfold R32; omega)) (fun z83 => ?_) (fun z83 => ?_)
              · exact absurd z83 (by decide)
              · refine m_iconst d_m_newImage_86 ?_
                exact m_iret rfl d_m_newImage_87 (opQ.bad (by unfold cd_newImage; (repeat' split) <;> omega) (by decide))
            · exact absurd z72 (by decide)
          · exact absurd z64 (by decide)
        · refine m_iconst d_m_newImage_56 ?_
          refine m_goto (tgt := 61) d_m_newImage_57 (by decide) ?_
          refine m_istore_n d_m_newImage_61 (by decide) ?_
          refine m_aload_n d_m_newImage_62 rfl ?_
          refine m_iload_n d_m_newImage_63 rfl ?_
          refine m_if_ne (tgt := 71) d_m_newImage_64 (by decide) (by first | assumption | exact hR _ _ (by decide) | (unfold R32; omega)) (fun z64 => ?_) (fun z64 => ?_)
          · refine m_iload_n d_m_newImage_71 rfl ?_
            refine m_if_eq (tgt := 79) d_m_newImage_72 (by decide) (by first | assumption | exact hR _ _ (by decide) | (unfold R32; omega)) (fun z72 => ?_) (fun z72 => ?_)
            · exact absurd z72 (by decide)
            · refine m_iconst d_m_newImage_75 ?_
              refine m_goto (tgt := 80) d_m_newImage_76 (by decide) ?_
              refine m_callV d_m_newImage_80 q_m_newImage_109 s_m_holds v_m_holds rfl (t_m_holds ⟨by omega, by omega⟩) rfl rfl (Nat.le_of_ble_eq_true rfl) rfl rfl rfl ?_
              rintro _ _ _ ⟨rfl, rfl, rfl⟩
              refine m_if_ne (tgt := 88) d_m_newImage_83 (by decide) (by first | assumption | exact hR _ _ (by decide) | (unfold R32; omega)) (fun z83 => ?_) (fun z83 => ?_)
              · refine m_aload_n d_m_newImage_88 rfl ?_
                refine mg_16 d_m_newImage_89 rfl ?_
                refine m_aload_n d_m_newImage_92 rfl ?_
                refine mg_87 d_m_newImage_93 rfl ?_
                refine m_iload_n d_m_newImage_96 rfl ?_
                refine m_ast 10 rfl (by decide) rfl d_m_newImage_97 (by omega) (by omega) ?_
                refine m_aload_n d_m_newImage_98 rfl ?_
                refine mg_19 d_m_newImage_99 rfl ?_
                refine m_aload_n d_m_newImage_102 rfl ?_
                refine mgv_87 (S 3 0) rfl d_m_newImage_103 rfl ?_
                refine m_iconst d_m_newImage_106 ?_
                refine m_zst d_m_newImage_107 (by omega) (by omega) (by omega) ?_
                refine m_aload_n d_m_newImage_108 rfl ?_
                refine m_aload_n d_m_newImage_109 rfl ?_
                refine mgv_87 (S 3 0) rfl d_m_newImage_110 rfl ?_
                refine m_callV d_m_newImage_113 q_m_newImage_112 s_m_empties v_m_empties rfl (t_m_empties (l := S 3 0) (by omega) (by omega)) rfl rfl (Nat.le_of_ble_eq_true rfl) rfl rfl rfl ?_
                rintro _ _ _ ⟨rfl, rfl, rfl⟩
                refine m_aload_n d_m_newImage_116 rfl ?_
                refine m_dup d_m_newImage_117 rfl ?_
                refine mgv_87 (S 3 0) rfl d_m_newImage_118 rfl ?_
                refine m_iconst d_m_newImage_121 ?_
                refine m_iadd d_m_newImage_122 ?_
                refine mp_87 d_m_newImage_123 rfl ?_
                refine m_aload_n d_m_newImage_126 rfl ?_
                refine mgv_87 (S 3 0 + 1) rfl d_m_newImage_127 rfl ?_
                refine m_iconst d_m_newImage_130 ?_
                refine m_isub d_m_newImage_131 ?_
                exact m_iret rfl d_m_newImage_132 (opQ.good (by unfold cd_newImage; (repeat' split) <;> omega) (by unfold vl_newImage; omega) (rfl))
              · exact absurd z83 (by decide)
          · exact absurd z64 (by decide)
      · refine m_aload_n d_m_newImage_28 rfl ?_
        refine mg_19 d_m_newImage_29 rfl ?_
        refine m_iload_n d_m_newImage_32 rfl ?_
        refine m_zld d_m_newImage_33 (by omega) (by omega) ?_
        refine m_if_eq (tgt := 60) d_m_newImage_34 (by decide) (by first | assumption | exact hR _ _ (by decide) | (unfold R32; omega)) (fun z34 => ?_) (fun z34 => ?_)
        · refine m_iconst d_m_newImage_60 ?_
          refine m_istore_n d_m_newImage_61 (by decide) ?_
          refine m_aload_n d_m_newImage_62 rfl ?_
          refine m_iload_n d_m_newImage_63 rfl ?_
          refine m_if_ne (tgt := 71) d_m_newImage_64 (by decide) (by first | assumption | exact hR _ _ (by decide) | (unfold R32; omega)) (fun z64 => ?_) (fun z64 => ?_)
          · refine m_iload_n d_m_newImage_71 rfl ?_
            refine m_if_eq (tgt := 79) d_m_newImage_72 (by decide) (by first | assumption | exact hR _ _ (by decide) | (unfold R32; omega)) (fun z72 => ?_) (fun z72 => ?_)
            · refine m_iconst d_m_newImage_79 ?_
              refine m_callV d_m_newImage_80 q_m_newImage_109 s_m_holds v_m_holds rfl (t_m_holds ⟨by omega, by omega⟩) rfl rfl (Nat.le_of_ble_eq_true rfl) rfl rfl rfl ?_
              rintro _ _ _ ⟨rfl, rfl, rfl⟩
              refine m_if_ne (tgt := 88) d_m_newImage_83 (by decide) (by first | assumption | exact hR _ _ (by decide) | (unfold R32; omega)) (fun z83 => ?_) (fun z83 => ?_)
              · exact absurd z83 (by decide)
              · refine m_iconst d_m_newImage_86 ?_
                exact m_iret rfl d_m_newImage_87 (opQ.bad (by unfold cd_newImage; (repeat' split) <;> omega) (by decide))
            · exact absurd z72 (by decide)
          · exact absurd z64 (by decide)
        · refine m_aload_n d_m_newImage_37 rfl ?_
          refine m_iload_n d_m_newImage_38 rfl ?_
          refine m_callV d_m_newImage_39 q_m_newImage_105 s_m_layersOf v_m_layersOf rfl (t_m_layersOf hi1 hi2 (by omega) (by omega)) rfl rfl (Nat.le_of_ble_eq_true rfl) rfl rfl rfl ?_
          rintro _ _ _ ⟨rfl, rfl, rfl⟩
          have e6 := lay_8 hI (k := p) (by omega) (by omega)
          refine m_bipush d_m_newImage_42 (by decide) ?_
          refine m_icmp_ge (tgt := 60) d_m_newImage_44 (by decide) (by first | assumption | exact hR _ _ (by decide) | (unfold R32; omega)) (by first | assumption | exact hR _ _ (by decide) | (unfold R32; omega)) (fun z44 => ?_) (fun z44 => ?_)
          · refine m_iconst d_m_newImage_60 ?_
            refine m_istore_n d_m_newImage_61 (by decide) ?_
            refine m_aload_n d_m_newImage_62 rfl ?_
            refine m_iload_n d_m_newImage_63 rfl ?_
            refine m_if_ne (tgt := 71) d_m_newImage_64 (by decide) (by first | assumption | exact hR _ _ (by decide) | (unfold R32; omega)) (fun z64 => ?_) (fun z64 => ?_)
            · refine m_iload_n d_m_newImage_71 rfl ?_
              refine m_if_eq (tgt := 79) d_m_newImage_72 (by decide) (by first | assumption | exact hR _ _ (by decide) | (unfold R32; omega)) (fun z72 => ?_) (fun z72 => ?_)
              · refine m_iconst d_m_newImage_79 ?_
                refine m_callV d_m_newImage_80 q_m_newImage_109 s_m_holds v_m_holds rfl (t_m_holds ⟨by omega, by omega⟩) rfl rfl (Nat.le_of_ble_eq_true rfl) rfl rfl rfl ?_
                rintro _ _ _ ⟨rfl, rfl, rfl⟩
                refine m_if_ne (tgt := 88) d_m_newImage_83 (by decide) (by first | assumption | exact hR _ _ (by decide) | (unfold R32; omega)) (fun z83 => ?_) (fun z83 => ?_)
                · exact absurd z83 (by decide)
                · refine m_iconst d_m_newImage_86 ?_
                  exact m_iret rfl d_m_newImage_87 (opQ.bad (by unfold cd_newImage; (repeat' split) <;> omega) (by decide))
              · exact absurd z72 (by decide)
            · exact absurd z64 (by decide)
          · refine m_aload_n d_m_newImage_47 rfl ?_
            refine mg_87 d_m_newImage_48 rfl ?_
            refine m_bipush d_m_newImage_51 (by decide) ?_
            refine m_icmp_ge (tgt := 60) d_m_newImage_53 (by decide) (by first | assumption | exact hR _ _ (by decide) | (unfold R32; omega)) (by first | assumption | exact hR _ _ (by decide) | (unfold R32; omega)) (fun z53 => ?_) (fun z53 => ?_)
            · refine m_iconst d_m_newImage_60 ?_
              refine m_istore_n d_m_newImage_61 (by decide) ?_
              refine m_aload_n d_m_newImage_62 rfl ?_
              refine m_iload_n d_m_newImage_63 rfl ?_
              refine m_if_ne (tgt := 71) d_m_newImage_64 (by decide) (by first | assumption | exact hR _ _ (by decide) | (unfold R32; omega)) (fun z64 => ?_) (fun z64 => ?_)
              · refine m_iload_n d_m_newImage_71 rfl ?_
                refine m_if_eq (tgt := 79) d_m_newImage_72 (by decide) (by first | assumption | exact hR _ _ (by decide) | (unfold R32; omega)) (fun z72 => ?_) (fun z72 => ?_)
                · refine m_iconst d_m_newImage_79 ?_
                  refine m_callV d_m_newImage_80 q_m_newImage_109 s_m_holds v_m_holds rfl (t_m_holds ⟨by omega, by omega⟩) rfl rfl (Nat.le_of_ble_eq_true rfl) rfl rfl rfl ?_
                  rintro _ _ _ ⟨rfl, rfl, rfl⟩
                  refine m_if_ne (tgt := 88) d_m_newImage_83 (by decide) (by first | assumption | exact hR _ _ (by decide) | (unfold R32; omega)) (fun z83 => ?_) (fun z83 => ?_)
                  · exact absurd z83 (by decide)
                  · refine m_iconst d_m_newImage_86 ?_
                    exact m_iret rfl d_m_newImage_87 (opQ.bad (by unfold cd_newImage; (repeat' split) <;> omega) (by decide))
                · exact absurd z72 (by decide)
              · exact absurd z64 (by decide)
            · refine m_iconst d_m_newImage_56 ?_
              refine m_goto (tgt := 61) d_m_newImage_57 (by decide) ?_
              refine m_istore_n d_m_newImage_61 (by decide) ?_
              refine m_aload_n d_m_newImage_62 rfl ?_
              refine m_iload_n d_m_newImage_63 rfl ?_
              refine m_if_ne (tgt := 71) d_m_newImage_64 (by decide) (by first | assumption | exact hR _ _ (by decide) | (unfold R32; omega)) (fun z64 => ?_) (fun z64 => ?_)
              · refine m_iload_n d_m_newImage_71 rfl ?_
                refine m_if_eq (tgt := 79) d_m_newImage_72 (by decide) (by first | assumption | exact hR _ _ (by decide) | (unfold R32; omega)) (fun z72 => ?_) (fun z72 => ?_)
                · exact absurd z72 (by decide)
                · refine m_iconst d_m_newImage_75 ?_
                  refine m_goto (tgt := 80) d_m_newImage_76 (by decide) ?_
                  refine m_callV d_m_newImage_80 q_m_newImage_109 s_m_holds v_m_holds rfl (t_m_holds ⟨by omega, by omega⟩) rfl rfl (Nat.le_of_ble_eq_true rfl) rfl rfl rfl ?_
                  rintro _ _ _ ⟨rfl, rfl, rfl⟩
                  refine m_if_ne (tgt := 88) d_m_newImage_83 (by decide) (by first | assumption | exact hR _ _ (by decide) | (unfold R32; omega)) (fun z83 => ?_) (fun z83 => ?_)
                  · refine m_aload_n d_m_newImage_88 rfl ?_
                    refine mg_16 d_m_newImage_89 rfl ?_
                    refine m_aload_n d_m_newImage_92 rfl ?_
                    refine mg_87 d_m_newImage_93 rfl ?_
                    refine m_iload_n d_m_newImage_96 rfl ?_
                    refine m_ast 10 rfl (by decide) rfl d_m_newImage_97 (by omega) (by omega) ?_
                    refine m_aload_n d_m_newImage_98 rfl ?_
                    refine mg_19 d_m_newImage_99 rfl ?_
                    refine m_aload_n d_m_newImage_102 rfl ?_
                    refine mgv_87 (S 3 0) rfl d_m_newImage_103 rfl ?_
                    refine m_iconst d_m_newImage_106 ?_
                    refine m_zst d_m_newImage_107 (by omega) (by omega) (by omega) ?_
                    refine m_aload_n d_m_newImage_108 rfl ?_
                    refine m_aload_n d_m_newImage_109 rfl ?_
                    refine mgv_87 (S 3 0) rfl d_m_newImage_110 rfl ?_
                    refine m_callV d_m_newImage_113 q_m_newImage_112 s_m_empties v_m_empties rfl (t_m_empties (l := S 3 0) (by omega) (by omega)) rfl rfl (Nat.le_of_ble_eq_true rfl) rfl rfl rfl ?_
                    rintro _ _ _ ⟨rfl, rfl, rfl⟩
                    refine m_aload_n d_m_newImage_116 rfl ?_
                    refine m_dup d_m_newImage_117 rfl ?_
                    refine mgv_87 (S 3 0) rfl d_m_newImage_118 rfl ?_
                    refine m_iconst d_m_newImage_121 ?_
                    refine m_iadd d_m_newImage_122 ?_
                    refine mp_87 d_m_newImage_123 rfl ?_
                    refine m_aload_n d_m_newImage_126 rfl ?_
                    refine mgv_87 (S 3 0 + 1) rfl d_m_newImage_127 rfl ?_
                    refine m_iconst d_m_newImage_130 ?_
                    refine m_isub d_m_newImage_131 ?_
                    exact m_iret rfl d_m_newImage_132 (opQ.good (by unfold cd_newImage; (repeat' split) <;> omega) (by unfold vl_newImage; omega) (rfl))
                  · exact absurd z83 (by decide)
              · exact absurd z64 (by decide)
  · refine m_aload_n d_m_newImage_5 rfl ?_
    refine m_iload_n d_m_newImage_6 rfl ?_
    refine m_callV d_m_newImage_7 q_m_newImage_101 s_m_isImage v_m_isImage rfl (t_m_isImage hR (by assumption)) rfl rfl (Nat.le_of_ble_eq_true rfl) rfl rfl rfl ?_
    rintro _ _ _ ⟨rfl, rfl, rfl⟩
    refine m_if_eq (tgt := 17) d_m_newImage_10 (by decide) (by first | assumption | exact hR _ _ (by decide) | (unfold R32; omega)) (fun z10 => ?_) (fun z10 => ?_)
    · refine m_iconst d_m_newImage_17 ?_
      refine m_istore_n d_m_newImage_18 (by decide) ?_
      refine m_iload_n d_m_newImage_19 rfl ?_
      refine m_if_eq (tgt := 60) d_m_newImage_20 (by decide) (by first | assumption | exact hR _ _ (by decide) | (unfold R32; omega)) (fun z20 => ?_) (fun z20 => ?_)
      · refine m_iconst d_m_newImage_60 ?_
        refine m_istore_n d_m_newImage_61 (by decide) ?_
        refine m_aload_n d_m_newImage_62 rfl ?_
        refine m_iload_n d_m_newImage_63 rfl ?_
        refine m_if_ne (tgt := 71) d_m_newImage_64 (by decide) (by first | assumption | exact hR _ _ (by decide) | (unfold R32; omega)) (fun z64 => ?_) (fun z64 => ?_)
        · exact absurd z64 (by decide)
        · refine m_iconst d_m_newImage_67 ?_
          refine m_goto (tgt := 80) d_m_newImage_68 (by decide) ?_
          refine m_callV d_m_newImage_80 q_m_newImage_109 s_m_holds v_m_holds rfl (t_m_holds ⟨by omega, by omega⟩) rfl rfl (Nat.le_of_ble_eq_true rfl) rfl rfl rfl ?_
          rintro _ _ _ ⟨rfl, rfl, rfl⟩
          refine m_if_ne (tgt := 88) d_m_newImage_83 (by decide) (by first | assumption | exact hR _ _ (by decide) | (unfold R32; omega)) (fun z83 => ?_) (fun z83 => ?_)
          · exact absurd z83 (by decide)
          · refine m_iconst d_m_newImage_86 ?_
            exact m_iret rfl d_m_newImage_87 (opQ.bad (by unfold cd_newImage; (repeat' split) <;> omega) (by decide))
      · exact absurd z20 (by decide)
    · refine m_iconst d_m_newImage_13 ?_
      refine m_goto (tgt := 18) d_m_newImage_14 (by decide) ?_
      refine m_istore_n d_m_newImage_18 (by decide) ?_
      refine m_iload_n d_m_newImage_19 rfl ?_
      refine m_if_eq (tgt := 60) d_m_newImage_20 (by decide) (by first | assumption | exact hR _ _ (by decide) | (unfold R32; omega)) (fun z20 => ?_) (fun z20 => ?_)
      · exact absurd z20 (by decide)
      · refine m_iload_n d_m_newImage_23 rfl ?_
        refine m_iconst d_m_newImage_24 ?_
        refine m_icmp_eq (tgt := 47) d_m_newImage_25 (by decide) (by first | assumption | exact hR _ _ (by decide) | (unfold R32; omega)) (by first | assumption | exact hR _ _ (by decide) | (unfold R32; omega)) (fun z25 => ?_) (fun z25 => ?_)
        · refine m_aload_n d_m_newImage_47 rfl ?_
          refine mg_87 d_m_newImage_48 rfl ?_
          refine m_bipush d_m_newImage_51 (by decide) ?_
          refine m_icmp_ge (tgt := 60) d_m_newImage_53 (by decide) (by first | assumption | exact hR _ _ (by decide) | (unfold R32; omega)) (by first | assumption | exact hR _ _ (by decide) | (unfold R32; omega)) (fun z53 => ?_) (fun z53 => ?_)
          · refine m_iconst d_m_newImage_60 ?_
            refine m_istore_n d_m_newImage_61 (by decide) ?_
            refine m_aload_n d_m_newImage_62 rfl ?_
            refine m_iload_n d_m_newImage_63 rfl ?_
            refine m_if_ne (tgt := 71) d_m_newImage_64 (by decide) (by first | assumption | exact hR _ _ (by decide) | (unfold R32; omega)) (fun z64 => ?_) (fun z64 => ?_)
            · refine m_iload_n d_m_newImage_71 rfl ?_
              refine m_if_eq (tgt := 79) d_m_newImage_72 (by decide) (by first | assumption | exact hR _ _ (by decide) | (unfold R32; omega)) (fun z72 => ?_) (fun z72 => ?_)
              · refine m_iconst d_m_newImage_79 ?_
                refine m_callV d_m_newImage_80 q_m_newImage_109 s_m_holds v_m_holds rfl (t_m_holds ⟨by omega, by omega⟩) rfl rfl (Nat.le_of_ble_eq_true rfl) rfl rfl rfl ?_
                rintro _ _ _ ⟨rfl, rfl, rfl⟩
                refine m_if_ne (tgt := 88) d_m_newImage_83 (by decide) (by first | assumption | exact hR _ _ (by decide) | (unfold R32; omega)) (fun z83 => ?_) (fun z83 => ?_)
                · exact absurd z83 (by decide)
                · refine m_iconst d_m_newImage_86 ?_
                  exact m_iret rfl d_m_newImage_87 (opQ.bad (by unfold cd_newImage; (repeat' split) <;> omega) (by decide))
              · exact absurd z72 (by decide)
            · exact absurd z64 (by decide)
          · refine m_iconst d_m_newImage_56 ?_
            refine m_goto (tgt := 61) d_m_newImage_57 (by decide) ?_
            refine m_istore_n d_m_newImage_61 (by decide) ?_
            refine m_aload_n d_m_newImage_62 rfl ?_
            refine m_iload_n d_m_newImage_63 rfl ?_
            refine m_if_ne (tgt := 71) d_m_newImage_64 (by decide) (by first | assumption | exact hR _ _ (by decide) | (unfold R32; omega)) (fun z64 => ?_) (fun z64 => ?_)
            · refine m_iload_n d_m_newImage_71 rfl ?_
              refine m_if_eq (tgt := 79) d_m_newImage_72 (by decide) (by first | assumption | exact hR _ _ (by decide) | (unfold R32; omega)) (fun z72 => ?_) (fun z72 => ?_)
              · exact absurd z72 (by decide)
              · refine m_iconst d_m_newImage_75 ?_
                refine m_goto (tgt := 80) d_m_newImage_76 (by decide) ?_
                refine m_callV d_m_newImage_80 q_m_newImage_109 s_m_holds v_m_holds rfl (t_m_holds ⟨by omega, by omega⟩) rfl rfl (Nat.le_of_ble_eq_true rfl) rfl rfl rfl ?_
                rintro _ _ _ ⟨rfl, rfl, rfl⟩
                refine m_if_ne (tgt := 88) d_m_newImage_83 (by decide) (by first | assumption | exact hR _ _ (by decide) | (unfold R32; omega)) (fun z83 => ?_) (fun z83 => ?_)
                · refine m_aload_n d_m_newImage_88 rfl ?_
                  refine mg_16 d_m_newImage_89 rfl ?_
                  refine m_aload_n d_m_newImage_92 rfl ?_
                  refine mg_87 d_m_newImage_93 rfl ?_
                  refine m_iload_n d_m_newImage_96 rfl ?_
                  refine m_ast 10 rfl (by decide) rfl d_m_newImage_97 (by omega) (by omega) ?_
                  refine m_aload_n d_m_newImage_98 rfl ?_
                  refine mg_19 d_m_newImage_99 rfl ?_
                  refine m_aload_n d_m_newImage_102 rfl ?_
                  refine mgv_87 (S 3 0) rfl d_m_newImage_103 rfl ?_
                  refine m_iconst d_m_newImage_106 ?_
                  refine m_zst d_m_newImage_107 (by omega) (by omega) (by omega) ?_
                  refine m_aload_n d_m_newImage_108 rfl ?_
                  refine m_aload_n d_m_newImage_109 rfl ?_
                  refine mgv_87 (S 3 0) rfl d_m_newImage_110 rfl ?_
                  refine m_callV d_m_newImage_113 q_m_newImage_112 s_m_empties v_m_empties rfl (t_m_empties (l := S 3 0) (by omega) (by omega)) rfl rfl (Nat.le_of_ble_eq_true rfl) rfl rfl rfl ?_
                  rintro _ _ _ ⟨rfl, rfl, rfl⟩
                  refine m_aload_n d_m_newImage_116 rfl ?_
                  refine m_dup d_m_newImage_117 rfl ?_
                  refine mgv_87 (S 3 0) rfl d_m_newImage_118 rfl ?_
                  refine m_iconst d_m_newImage_121 ?_
                  refine m_iadd d_m_newImage_122 ?_
                  refine mp_87 d_m_newImage_123 rfl ?_
                  refine m_aload_n d_m_newImage_126 rfl ?_
                  refine mgv_87 (S 3 0 + 1) rfl d_m_newImage_127 rfl ?_
                  refine m_iconst d_m_newImage_130 ?_
                  refine m_isub d_m_newImage_131 ?_
                  exact m_iret rfl d_m_newImage_132 (opQ.good (by unfold cd_newImage; (repeat' split) <;> omega) (by unfold vl_newImage; omega) (rfl))
                · exact absurd z83 (by decide)
            · exact absurd z64 (by decide)
        · refine m_aload_n d_m_newImage_28 rfl ?_
          refine mg_19 d_m_newImage_29 rfl ?_
          refine m_iload_n d_m_newImage_32 rfl ?_
          refine m_zld d_m_newImage_33 (by omega) (by omega) ?_
          refine m_if_eq (tgt := 60) d_m_newImage_34 (by decide) (by first | assumption | exact hR _ _ (by decide) | (unfold R32; omega)) (fun z34 => ?_) (fun z34 => ?_)
          · refine m_iconst d_m_newImage_60 ?_
            refine m_istore_n d_m_newImage_61 (by decide) ?_
            refine m_aload_n d_m_newImage_62 rfl ?_
            refine m_iload_n d_m_newImage_63 rfl ?_
            refine m_if_ne (tgt := 71) d_m_newImage_64 (by decide) (by first | assumption | exact hR _ _ (by decide) | (unfold R32; omega)) (fun z64 => ?_) (fun z64 => ?_)
            · refine m_iload_n d_m_newImage_71 rfl ?_
              refine m_if_eq (tgt := 79) d_m_newImage_72 (by decide) (by first | assumption | exact hR _ _ (by decide) | (unfold R32; omega)) (fun z72 => ?_) (fun z72 => ?_)
              · refine m_iconst d_m_newImage_79 ?_
                refine m_callV d_m_newImage_80 q_m_newImage_109 s_m_holds v_m_holds rfl (t_m_holds ⟨by omega, by omega⟩) rfl rfl (Nat.le_of_ble_eq_true rfl) rfl rfl rfl ?_
                rintro _ _ _ ⟨rfl, rfl, rfl⟩
                refine m_if_ne (tgt := 88) d_m_newImage_83 (by decide) (by first | assumption | exact hR _ _ (by decide) | (unfold R32; omega)) (fun z83 => ?_) (fun z83 => ?_)
                · exact absurd z83 (by decide)
                · refine m_iconst d_m_newImage_86 ?_
                  exact m_iret rfl d_m_newImage_87 (opQ.bad (by unfold cd_newImage; (repeat' split) <;> omega) (by decide))
              · exact absurd z72 (by decide)
            · exact absurd z64 (by decide)
          · refine m_aload_n d_m_newImage_37 rfl ?_
            refine m_iload_n d_m_newImage_38 rfl ?_
            refine m_callV d_m_newImage_39 q_m_newImage_105 s_m_layersOf v_m_layersOf rfl (t_m_layersOf hi1 hi2 (by omega) (by omega)) rfl rfl (Nat.le_of_ble_eq_true rfl) rfl rfl rfl ?_
            rintro _ _ _ ⟨rfl, rfl, rfl⟩
            have e6 := lay_8 hI (k := p) (by omega) (by omega)
            refine m_bipush d_m_newImage_42 (by decide) ?_
            refine m_icmp_ge (tgt := 60) d_m_newImage_44 (by decide) (by first | assumption | exact hR _ _ (by decide) | (unfold R32; omega)) (by first | assumption | exact hR _ _ (by decide) | (unfold R32; omega)) (fun z44 => ?_) (fun z44 => ?_)
            · refine m_iconst d_m_newImage_60 ?_
              refine m_istore_n d_m_newImage_61 (by decide) ?_
              refine m_aload_n d_m_newImage_62 rfl ?_
              refine m_iload_n d_m_newImage_63 rfl ?_
              refine m_if_ne (tgt := 71) d_m_newImage_64 (by decide) (by first | assumption | exact hR _ _ (by decide) | (unfold R32; omega)) (fun z64 => ?_) (fun z64 => ?_)
              · refine m_iload_n d_m_newImage_71 rfl ?_
                refine m_if_eq (tgt := 79) d_m_newImage_72 (by decide) (by first | assumption | exact hR _ _ (by decide) | (unfold R32; omega)) (fun z72 => ?_) (fun z72 => ?_)
                · refine m_iconst d_m_newImage_79 ?_
                  refine m_callV d_m_newImage_80 q_m_newImage_109 s_m_holds v_m_holds rfl (t_m_holds ⟨by omega, by omega⟩) rfl rfl (Nat.le_of_ble_eq_true rfl) rfl rfl rfl ?_
                  rintro _ _ _ ⟨rfl, rfl, rfl⟩
                  refine m_if_ne (tgt := 88) d_m_newImage_83 (by decide) (by first | assumption | exact hR _ _ (by decide) | (unfold R32; omega)) (fun z83 => ?_) (fun z83 => ?_)
                  · exact absurd z83 (by decide)
                  · refine m_iconst d_m_newImage_86 ?_
                    exact m_iret rfl d_m_newImage_87 (opQ.bad (by unfold cd_newImage; (repeat' split) <;> omega) (by decide))
                · exact absurd z72 (by decide)
              · exact absurd z64 (by decide)
            · refine m_aload_n d_m_newImage_47 rfl ?_
              refine mg_87 d_m_newImage_48 rfl ?_
              refine m_bipush d_m_newImage_51 (by decide) ?_
              refine m_icmp_ge (tgt := 60) d_m_newImage_53 (by decide) (by first | assumption | exact hR _ _ (by decide) | (unfold R32; omega)) (by first | assumption | exact hR _ _ (by decide) | (unfold R32; omega)) (fun z53 => ?_) (fun z53 => ?_)
              · refine m_iconst d_m_newImage_60 ?_
                refine m_istore_n d_m_newImage_61 (by decide) ?_
                refine m_aload_n d_m_newImage_62 rfl ?_
                refine m_iload_n d_m_newImage_63 rfl ?_
                refine m_if_ne (tgt := 71) d_m_newImage_64 (by decide) (by first | assumption | exact hR _ _ (by decide) | (unfold R32; omega)) (fun z64 => ?_) (fun z64 => ?_)
                · refine m_iload_n d_m_newImage_71 rfl ?_
                  refine m_if_eq (tgt := 79) d_m_newImage_72 (by decide) (by first | assumption | exact hR _ _ (by decide) | (unfold R32; omega)) (fun z72 => ?_) (fun z72 => ?_)
                  · refine m_iconst d_m_newImage_79 ?_
                    refine m_callV d_m_newImage_80 q_m_newImage_109 s_m_holds v_m_holds rfl (t_m_holds ⟨by omega, by omega⟩) rfl rfl (Nat.le_of_ble_eq_true rfl) rfl rfl rfl ?_
                    rintro _ _ _ ⟨rfl, rfl, rfl⟩
                    refine m_if_ne (tgt := 88) d_m_newImage_83 (by decide) (by first | assumption | exact hR _ _ (by decide) | (unfold R32; omega)) (fun z83 => ?_) (fun z83 => ?_)
                    · exact absurd z83 (by decide)
                    · refine m_iconst d_m_newImage_86 ?_
                      exact m_iret rfl d_m_newImage_87 (opQ.bad (by unfold cd_newImage; (repeat' split) <;> omega) (by decide))
                  · exact absurd z72 (by decide)
                · exact absurd z64 (by decide)
              · refine m_iconst d_m_newImage_56 ?_
                refine m_goto (tgt := 61) d_m_newImage_57 (by decide) ?_
                refine m_istore_n d_m_newImage_61 (by decide) ?_
                refine m_aload_n d_m_newImage_62 rfl ?_
                refine m_iload_n d_m_newImage_63 rfl ?_
                refine m_if_ne (tgt := 71) d_m_newImage_64 (by decide) (by first | assumption | exact hR _ _ (by decide) | (unfold R32; omega)) (fun z64 => ?_) (fun z64 => ?_)
                · refine m_iload_n d_m_newImage_71 rfl ?_
                  refine m_if_eq (tgt := 79) d_m_newImage_72 (by decide) (by first | assumption | exact hR _ _ (by decide) | (unfold R32; omega)) (fun z72 => ?_) (fun z72 => ?_)
                  · exact absurd z72 (by decide)
                  · refine m_iconst d_m_newImage_75 ?_
                    refine m_goto (tgt := 80) d_m_newImage_76 (by decide) ?_
                    refine m_callV d_m_newImage_80 q_m_newImage_109 s_m_holds v_m_holds rfl (t_m_holds ⟨by omega, by omega⟩) rfl rfl (Nat.le_of_ble_eq_true rfl) rfl rfl rfl ?_
                    rintro _ _ _ ⟨rfl, rfl, rfl⟩
                    refine m_if_ne (tgt := 88) d_m_newImage_83 (by decide) (by first | assumption | exact hR _ _ (by decide) | (unfold R32; omega)) (fun z83 => ?_) (fun z83 => ?_)
                    · refine m_aload_n d_m_newImage_88 rfl ?_
                      refine mg_16 d_m_newImage_89 rfl ?_
                      refine m_aload_n d_m_newImage_92 rfl ?_
                      refine mg_87 d_m_newImage_93 rfl ?_
                      refine m_iload_n d_m_newImage_96 rfl ?_
                      refine m_ast 10 rfl (by decide) rfl d_m_newImage_97 (by omega) (by omega) ?_
                      refine m_aload_n d_m_newImage_98 rfl ?_
                      refine mg_19 d_m_newImage_99 rfl ?_
                      refine m_aload_n d_m_newImage_102 rfl ?_
                      refine mgv_87 (S 3 0) rfl d_m_newImage_103 rfl ?_
                      refine m_iconst d_m_newImage_106 ?_
                      refine m_zst d_m_newImage_107 (by omega) (by omega) (by omega) ?_
                      refine m_aload_n d_m_newImage_108 rfl ?_
                      refine m_aload_n d_m_newImage_109 rfl ?_
                      refine mgv_87 (S 3 0) rfl d_m_newImage_110 rfl ?_
                      refine m_callV d_m_newImage_113 q_m_newImage_112 s_m_empties v_m_empties rfl (t_m_empties (l := S 3 0) (by omega) (by omega)) rfl rfl (Nat.le_of_ble_eq_true rfl) rfl rfl rfl ?_
                      rintro _ _ _ ⟨rfl, rfl, rfl⟩
                      refine m_aload_n d_m_newImage_116 rfl ?_
                      refine m_dup d_m_newImage_117 rfl ?_
                      refine mgv_87 (S 3 0) rfl d_m_newImage_118 rfl ?_
                      refine m_iconst d_m_newImage_121 ?_
                      refine m_iadd d_m_newImage_122 ?_
                      refine mp_87 d_m_newImage_123 rfl ?_
                      refine m_aload_n d_m_newImage_126 rfl ?_
                      refine mgv_87 (S 3 0 + 1) rfl d_m_newImage_127 rfl ?_
                      refine m_iconst d_m_newImage_130 ?_
                      refine m_isub d_m_newImage_131 ?_
                      exact m_iret rfl d_m_newImage_132 (opQ.good (by unfold cd_newImage; (repeat' split) <;> omega) (by unfold vl_newImage; omega) (rfl))
                    · exact absurd z83 (by decide)
                · exact absurd z64 (by decide)
def clN (S : gS) (i d : Int) : Nat → Int
  | 0 => 0
  | n + 1 => clN S i d n + if 0 < see S i (4 * d + n) then 1 else 0
def zz (S : gS) (i d n : Int) : gS := fun a q => if a = 1 ∧ 32 * i + 4 * d ≤ q ∧ q < 32 * i + 4 * d + n then 0 else S a q
theorem zz_0 (S : gS) (i d : Int) : zz S i d 0 = S := by
  funext a j; unfold zz; split <;> first | rfl | omega
theorem zz_s (S : gS) {i d n : Int} (hn : 0 ≤ n) : sset (zz S i d n) 1 (32 * i + (4 * d + n)) 0 = zz S i d (n + 1) := by
  funext a j; unfold sset zz; (repeat' split) <;> first | rfl | omega
theorem clN_b (S : gS) (i d : Int) : ∀ n : Nat, 0 ≤ clN S i d n ∧ clN S i d n ≤ n := by
  intro n
  induction n with
  | zero => unfold clN; omega
  | succ n ih => unfold clN; split <;> omega
def cd_clear (S : gS) (i d : Int) : Int := if ¬ (0 ≤ i ∧ i < S 3 0 ∧ 0 ≤ d ∧ d < 8) then 1 else if S 5 i ≠ 0 then 2 else 0
def vl_clear (S : gS) (i d : Int) : Int := clN S i d 4
def st_clear (S : gS) (i d : Int) : gS := sset (zz S i d 4) 2 i (bset (S 2 i) d)
theorem L2_m_clear {g : xG} {x0 : Nat} {ad : Nat → Nat} {h0 : hp} {tt : Int} {S : gS} {i d r : Int} {u3 : Option Value} (hI : Inv S) (hi0 : 0 ≤ i) (hi9 : i < S 3 0) (hd0 : 0 ≤ d) (hd9 : d < 8) (hcd : cd_clear S i d = 0) (hr : r = clN S i d 4) : ∀ (f9 : Nat) (n : Int), 0 ≤ n → n ≤ 4 → 4 < n + f9 → mW g M_m_clear x0 ad h0 (opQ S (cd_clear S i d) (vl_clear S i d) (st_clear S i d)) 0 (zz S i d n) 103 (some (.ref x0) :: some (.int (iI i)) :: some (.int (iI d)) :: u3 :: some (.int (iI r)) :: some (.int (iI (4 * d + n))) :: []) [] := by
  intro f9
  induction f9 with
  | zero => intros; omega
  | succ f9 ih =>
    intro n h1 h2 h3
    obtain ⟨hR, ⟨him, -⟩, hi2, -, -, -, hi6, -⟩ := id hI
    have ho := hi6.2.1 i
    refine m_iload d_m_clear_103 rfl ?_
    refine m_iconst d_m_clear_105 ?_
    refine m_iload_n d_m_clear_106 rfl ?_
    refine m_imul d_m_clear_107 ?_
    refine m_iconst d_m_clear_108 ?_
    refine m_iadd d_m_clear_109 ?_
    refine m_icmp_ge (tgt := 132) d_m_clear_110 (by decide) (by unfold R32; omega) (by unfold R32; omega) (fun z110 => ?_) (fun z110 => ?_)
    · refine m_aload_n d_m_clear_132 rfl ?_
      refine mg_13 d_m_clear_133 rfl ?_
      refine m_iload_n d_m_clear_136 rfl ?_
      refine m_dup2 d_m_clear_137 rfl rfl ?_
      refine m_aldv 35 rfl (by decide) rfl (S 2 i) rfl d_m_clear_138 (by omega) (by omega) ?_
      refine m_iconst d_m_clear_139 ?_
      refine m_iload_n d_m_clear_140 rfl ?_
      refine m_ishl1 d_m_clear_141 (by omega) (by omega) ?_
      refine m_iork d_m_clear_142 (by omega) ?_
      refine m_ast 35 rfl (by decide) rfl d_m_clear_143 (by omega) (by omega) ?_
      refine m_iload d_m_clear_144 rfl ?_
      exact m_iret rfl d_m_clear_146 (opQ.good hcd (by rw [hr]; rfl) (by rw [show n = 4 by omega]; rfl))
    · refine m_aload_n d_m_clear_113 rfl ?_
      refine mg_7 d_m_clear_114 rfl ?_
      refine m_bipush d_m_clear_117 (by decide) ?_
      refine m_iload_n d_m_clear_119 rfl ?_
      refine m_imul d_m_clear_120 ?_
      refine m_iload d_m_clear_121 rfl ?_
      refine m_iadd d_m_clear_123 ?_
      refine m_iconst d_m_clear_124 ?_
      refine m_ast 1120 rfl (by decide) rfl d_m_clear_125 (by omega) (by omega) ?_
      refine m_iinc d_m_clear_126 rfl (by decide) ?_
      refine m_goto (tgt := 103) d_m_clear_129 (by decide) ?_
      rw [zz_s S h1, show 4 * d + n + 1 = 4 * d + (n + 1) by omega]
      exact ih (n + 1) (by omega) (by omega) (by omega)
theorem L1_m_clear {g : xG} {x0 : Nat} {ad : Nat → Nat} {h0 : hp} {tt : Int} {S : gS} {i d : Int} {u3 u5 : Option Value} (hI : Inv S) (hi0 : 0 ≤ i) (hi9 : i < S 3 0) (hd0 : 0 ≤ d) (hd9 : d < 8) (hcd : cd_clear S i d = 0) : ∀ (f9 n : Nat), n ≤ 4 → 4 < n + f9 → mW g M_m_clear x0 ad h0 (opQ S (cd_clear S i d) (vl_clear S i d) (st_clear S i d)) 0 S 62 (some (.ref x0) :: some (.int (iI i)) :: some (.int (iI d)) :: u3 :: some (.int (iI (clN S i d n))) :: some (.int (iI (4 * d + n))) :: []) [] := by
  intro f9
  induction f9 with
  | zero => intros; omega
  | succ f9 ih =>
    intro n h1 h2
    obtain ⟨hR, ⟨him, -⟩, hi2, -, -, -, hi6, -⟩ := id hI
    refine m_iload d_m_clear_62 rfl ?_
    refine m_iconst d_m_clear_64 ?_
    refine m_iload_n d_m_clear_65 rfl ?_
    refine m_imul d_m_clear_66 ?_
    refine m_iconst d_m_clear_67 ?_
    refine m_iadd d_m_clear_68 ?_
    refine m_icmp_ge (tgt := 98) d_m_clear_69 (by decide) (by unfold R32; omega) (by unfold R32; omega) (fun z69 => ?_) (fun z69 => ?_)
    · refine m_iconst d_m_clear_98 ?_
      refine m_iload_n d_m_clear_99 rfl ?_
      refine m_imul d_m_clear_100 ?_
      refine m_istore d_m_clear_101 (by decide) ?_
      have hn : n = 4 := by omega
      subst hn
      rw [← zz_0 S i d]
      have e0 : zz S i d 0 = S := zz_0 S i d
      exact (by have := L2_m_clear (tt := 0) (g := g) (x0 := x0) (ad := ad) (h0 := h0) (u3 := u3) hI hi0 hi9 hd0 hd9 hcd rfl 5 0 (by omega) (by omega) (by omega); rw [show (4 : Int) * d + 0 = 4 * d by omega] at this; rw [e0] at this ⊢; exact this)
    · refine m_iload d_m_clear_72 rfl ?_
      refine m_aload_n d_m_clear_74 rfl ?_
      refine m_iload_n d_m_clear_75 rfl ?_
      refine m_iload d_m_clear_76 rfl ?_
      refine m_callV d_m_clear_78 q_m_clear_119 s_m_imageShows v_m_imageShows rfl (t_m_imageShows hI (by omega) (by omega) (by omega) (by omega)) rfl rfl (Nat.le_of_ble_eq_true rfl) rfl rfl rfl ?_
      rintro _ _ _ ⟨rfl, rfl, rfl⟩
      have e4 := see_b hi6 i (4 * d + n)
      refine m_if_le (tgt := 88) d_m_clear_81 (by decide) (by unfold R32; omega) (fun z81 => ?_) (fun z81 => ?_)
      · refine m_iconst d_m_clear_88 ?_
        refine m_iadd d_m_clear_89 ?_
        refine m_istore d_m_clear_90 (by decide) ?_
        refine m_iinc d_m_clear_92 rfl (by decide) ?_
        refine m_goto (tgt := 62) d_m_clear_95 (by decide) ?_
        have hs9 : clN S i d (n + 1) = clN S i d n + (if 0 < see S i (4 * d + n) then 1 else 0) := rfl
        first
          | (rw [if_pos (by omega)] at hs9; rw [← hs9, show (4 : Int) * d + n + 1 = 4 * d + ((n + 1 : Nat) : Int) by omega]; exact ih (n + 1) (by omega) (by omega))
          | (rw [if_neg (by omega)] at hs9; rw [← hs9, show (4 : Int) * d + n + 1 = 4 * d + ((n + 1 : Nat) : Int) by omega]; exact ih (n + 1) (by omega) (by omega))
      · refine m_iconst d_m_clear_84 ?_
        refine m_goto (tgt := 89) d_m_clear_85 (by decide) ?_
        refine m_iadd d_m_clear_89 ?_
        refine m_istore d_m_clear_90 (by decide) ?_
        refine m_iinc d_m_clear_92 rfl (by decide) ?_
        refine m_goto (tgt := 62) d_m_clear_95 (by decide) ?_
        have hs9 : clN S i d (n + 1) = clN S i d n + (if 0 < see S i (4 * d + n) then 1 else 0) := rfl
        first
          | (rw [if_pos (by omega)] at hs9; rw [← hs9, show (4 : Int) * d + n + 1 = 4 * d + ((n + 1 : Nat) : Int) by omega]; exact ih (n + 1) (by omega) (by omega))
          | (rw [if_neg (by omega)] at hs9; rw [← hs9, show (4 : Int) * d + n + 1 = 4 * d + ((n + 1 : Nat) : Int) by omega]; exact ih (n + 1) (by omega) (by omega))
theorem t_m_clear {g : xG} {x0 : Nat} {ad : Nat → Nat} {tt : Int} {S : gS} {i d : Int} (hI : Inv S) (hi : R32 i) (hd : R32 d) : mM g y_m_clear k_m_clear M_m_clear x0 ad [.int (iI i), .int (iI d)] tt S (opQ S (cd_clear S i d) (vl_clear S i d) (st_clear S i d)) := by
  refine mM.of rfl (by decide) rfl rfl rfl (by simp [Value.category]) (Nat.le_of_ble_eq_true rfl) rfl (fun h0 => ?_)
  obtain ⟨hR, hi1, hi2, hi3, hi4, hi5, hi6, hi7⟩ := id hI
  obtain ⟨him, hgr, hco, hck⟩ := id hi1
  have e1 := isin_s i (S 3 0)
  have e2 := isin_s d 8
  refine m_aload_n d_m_clear_0 rfl ?_
  refine m_iload_n d_m_clear_1 rfl ?_
  refine m_callV d_m_clear_2 q_m_clear_101 s_m_isImage v_m_isImage rfl (t_m_isImage hR (by assumption)) rfl rfl (Nat.le_of_ble_eq_true rfl) rfl rfl rfl ?_
  rintro _ _ _ ⟨rfl, rfl, rfl⟩
  refine m_if_eq (tgt := 21) d_m_clear_5 (by decide) (by first | assumption | exact hR _ _ (by decide) | (unfold R32; omega)) (fun z5 => ?_) (fun z5 => ?_)
  · refine m_iconst d_m_clear_21 ?_
    refine m_istore_n d_m_clear_22 (by decide) ?_
    refine m_aload_n d_m_clear_23 rfl ?_
    refine m_iload_n d_m_clear_24 rfl ?_
    refine m_if_ne (tgt := 32) d_m_clear_25 (by decide) (by first | assumption | exact hR _ _ (by decide) | (unfold R32; omega)) (fun z25 => ?_) (fun z25 => ?_)
    · exact absurd z25 (by decide)
    · refine m_iconst d_m_clear_28 ?_
      refine m_goto (tgt := 46) d_m_clear_29 (by decide) ?_
      refine m_callV d_m_clear_46 q_m_clear_109 s_m_holds v_m_holds rfl (t_m_holds ⟨by omega, by omega⟩) rfl rfl (Nat.le_of_ble_eq_true rfl) rfl rfl rfl ?_
      rintro _ _ _ ⟨rfl, rfl, rfl⟩
      refine m_if_ne (tgt := 54) d_m_clear_49 (by decide) (by first | assumption | exact hR _ _ (by decide) | (unfold R32; omega)) (fun z49 => ?_) (fun z49 => ?_)
      · exact absurd z49 (by decide)
      · refine m_iconst d_m_clear_52 ?_
        exact m_iret rfl d_m_clear_53 (opQ.bad (by unfold cd_clear; (repeat' split) <;> omega) (by decide))
  · refine m_iload_n d_m_clear_8 rfl ?_
    refine m_bipush d_m_clear_9 (by decide) ?_
    refine m_callS d_m_clear_11 q_m_clear_90 s_m_isIn (t_m_isIn g hd ⟨by omega, by omega⟩) rfl rfl (Nat.le_of_ble_eq_true rfl) rfl rfl rfl ?_
    rintro _ rfl
    refine m_if_eq (tgt := 21) d_m_clear_14 (by decide) (by first | assumption | exact hR _ _ (by decide) | (unfold R32; omega)) (fun z14 => ?_) (fun z14 => ?_)
    · refine m_iconst d_m_clear_21 ?_
      refine m_istore_n d_m_clear_22 (by decide) ?_
      refine m_aload_n d_m_clear_23 rfl ?_
      refine m_iload_n d_m_clear_24 rfl ?_
      refine m_if_ne (tgt := 32) d_m_clear_25 (by decide) (by first | assumption | exact hR _ _ (by decide) | (unfold R32; omega)) (fun z25 => ?_) (fun z25 => ?_)
      · exact absurd z25 (by decide)
      · refine m_iconst d_m_clear_28 ?_
        refine m_goto (tgt := 46) d_m_clear_29 (by decide) ?_
        refine m_callV d_m_clear_46 q_m_clear_109 s_m_holds v_m_holds rfl (t_m_holds ⟨by omega, by omega⟩) rfl rfl (Nat.le_of_ble_eq_true rfl) rfl rfl rfl ?_
        rintro _ _ _ ⟨rfl, rfl, rfl⟩
        refine m_if_ne (tgt := 54) d_m_clear_49 (by decide) (by first | assumption | exact hR _ _ (by decide) | (unfold R32; omega)) (fun z49 => ?_) (fun z49 => ?_)
        · exact absurd z49 (by decide)
        · refine m_iconst d_m_clear_52 ?_
          exact m_iret rfl d_m_clear_53 (opQ.bad (by unfold cd_clear; (repeat' split) <;> omega) (by decide))
    · refine m_iconst d_m_clear_17 ?_
      refine m_goto (tgt := 22) d_m_clear_18 (by decide) ?_
      refine m_istore_n d_m_clear_22 (by decide) ?_
      refine m_aload_n d_m_clear_23 rfl ?_
      refine m_iload_n d_m_clear_24 rfl ?_
      refine m_if_ne (tgt := 32) d_m_clear_25 (by decide) (by first | assumption | exact hR _ _ (by decide) | (unfold R32; omega)) (fun z25 => ?_) (fun z25 => ?_)
      · refine m_aload_n d_m_clear_32 rfl ?_
        refine mg_19 d_m_clear_33 rfl ?_
        refine m_iload_n d_m_clear_36 rfl ?_
        refine m_zld d_m_clear_37 (by omega) (by omega) ?_
        refine m_if_eq (tgt := 45) d_m_clear_38 (by decide) (by first | assumption | exact hR _ _ (by decide) | (unfold R32; omega)) (fun z38 => ?_) (fun z38 => ?_)
        · refine m_iconst d_m_clear_45 ?_
          refine m_callV d_m_clear_46 q_m_clear_109 s_m_holds v_m_holds rfl (t_m_holds ⟨by omega, by omega⟩) rfl rfl (Nat.le_of_ble_eq_true rfl) rfl rfl rfl ?_
          rintro _ _ _ ⟨rfl, rfl, rfl⟩
          refine m_if_ne (tgt := 54) d_m_clear_49 (by decide) (by first | assumption | exact hR _ _ (by decide) | (unfold R32; omega)) (fun z49 => ?_) (fun z49 => ?_)
          · refine m_iconst d_m_clear_54 ?_
            refine m_istore d_m_clear_55 (by decide) ?_
            refine m_iconst d_m_clear_57 ?_
            refine m_iload_n d_m_clear_58 rfl ?_
            refine m_imul d_m_clear_59 ?_
            refine m_istore d_m_clear_60 (by decide) ?_
            have hcd : cd_clear S i d = 0 := by unfold cd_clear; (repeat' split) <;> omega
            have := L1_m_clear (tt := 0) (g := g) (x0 := x0) (ad := ad) (h0 := h0) (u3 := some (.int (iI 1))) (u5 := none) hI (by omega) (by omega) (by omega) (by omega) hcd 5 0 (by omega) (by omega)
            rw [show ((4 : Int) * d + ((0 : Nat) : Int)) = 4 * d by omega] at this
            exact this
          · exact absurd z49 (by decide)
        · refine m_iconst d_m_clear_41 ?_
          refine m_goto (tgt := 46) d_m_clear_42 (by decide) ?_
          refine m_callV d_m_clear_46 q_m_clear_109 s_m_holds v_m_holds rfl (t_m_holds ⟨by omega, by omega⟩) rfl rfl (Nat.le_of_ble_eq_true rfl) rfl rfl rfl ?_
          rintro _ _ _ ⟨rfl, rfl, rfl⟩
          refine m_if_ne (tgt := 54) d_m_clear_49 (by decide) (by first | assumption | exact hR _ _ (by decide) | (unfold R32; omega)) (fun z49 => ?_) (fun z49 => ?_)
          · exact absurd z49 (by decide)
          · refine m_iconst d_m_clear_52 ?_
            exact m_iret rfl d_m_clear_53 (opQ.bad (by unfold cd_clear; (repeat' split) <;> omega) (by decide))
      · exact absurd z25 (by decide)
