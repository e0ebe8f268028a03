theorem opQ.good2 {S st S9 : gS} {cd vl e t : Int} (ht : t = cd) (h : cd = 0) (hv : e = vl) (hs : S9 = st) : opQ S cd vl st (some (.int (iI e))) t S9 := ⟨ht, fun _ => ⟨by rw [hv], hs⟩, fun q => absurd h q⟩
theorem hRp.set {S : gS} (h : hRp S) {k : Nat} {i v : Int} (hv : k ≠ 22 → R32 v) : hRp (sset S k i v) := by
  intro a j ha
  unfold sset
  split
  · exact hv (by omega)
  · exact h a j ha
def opV (S : gS) (cd : Int) (st : gS) : qS := fun v t9 S9 => v = none ∧ t9 = cd ∧ (cd = 0 → S9 = st) ∧ (cd ≠ 0 → S9 = S)
theorem opV.bad {S st : gS} {cd c : Int} (h : cd = c) (hc : c ≠ 0) : opV S cd st none c S := ⟨rfl, h.symm, fun q => absurd (h.symm.trans q) hc, fun _ => rfl⟩
theorem opV.good {S st S9 : gS} {cd c : Int} (h : cd = c) (hc : c = 0) (hs : S9 = st) : opV S cd st none c S9 := ⟨rfl, h.symm, fun _ => hs, fun q => absurd (h.trans hc) q⟩
/-- a container begun at the next place -/
def bgn0 (S : gS) (i gr p s : Int) : gS := sset (sset (sset (sset (sset (sset (sset (sset (sset (sset (sset S 12 (S 11 0) i) 13 (S 11 0) s) 14 (S 11 0) 0) 15 (S 11 0) 1) 16 (S 11 0) p) 17 (S 11 0) p) 18 (S 11 0) 0) 19 (S 11 0) 0) 20 (S 11 0) gr) 21 (S 11 0) (-1)) 22 (S 11 0) 0
def bgn (S : gS) (i gr p s : Int) : gS := sset (ez (bgn0 S i gr p s) (10 + S 11 0) 32) 11 0 (S 11 0 + 1)
/-- a container stopped, its ports of the host as far as n -/
def stq (S : gS) (c n : Int) : gS := fun a j => if (a = 14 ∨ a = 15 ∨ a = 18) ∧ j = c then 0 else if a = 19 ∧ j = c then 2 else if a = 21 ∧ j = c then -1 else if a = 24 ∧ 0 ≤ j ∧ j < n ∧ S 24 j = c then -1 else S a j
def stp (S : gS) (c : Int) : gS := stq S c 32
theorem stq_0 (S : gS) (c : Int) : sset (sset (sset (sset (sset S 19 c 2) 14 c 0) 15 c 0) 18 c 0) 21 c (-1) = stq S c 0 := by
  funext a j; unfold sset stq; (repeat' split) <;> first | rfl | omega
theorem stq_r (S : gS) {c n : Int} : stq S c n 24 n = S 24 n := by
  unfold stq; rw [if_neg (by omega), if_neg (by omega), if_neg (by omega), if_neg (by omega)]
theorem stq_s (S : gS) {c n : Int} (hn : 0 ≤ n) : sset (stq S c n) 24 n (if S 24 n = c then -1 else S 24 n) = stq S c (n + 1) := by
  funext a j; unfold sset stq
  by_cases h : a = 24 ∧ j = n
  · obtain ⟨rfl, rfl⟩ := h
    (repeat' split) <;> first | rfl | omega
  · rw [if_neg h]; (repeat' split) <;> first | rfl | omega
theorem stp_15 (S : gS) (c : Int) : stp S c 15 c = 0 := by
  unfold stp stq; rw [if_pos (by omega)]
/-- the container with the most memory in a group and below -/
def grN (S : gS) (g : Int) : Nat → Int
  | 0 => -1
  | n + 1 => if S 19 n ≠ 2 ∧ bel S (S 20 n) g = 1 ∧ (grN S g n = -1 ∨ S 14 (grN S g n) ≤ S 14 n) then n else grN S g n
def gre (S : gS) (g : Int) : Int := grN S g (S 11 0).toNat
theorem grN_b (S : gS) (g : Int) : ∀ n : Nat, -1 ≤ grN S g n ∧ grN S g n < n := by
  intro n
  induction n with
  | zero => unfold grN; omega
  | succ n ih => unfold grN; split <;> omega
def ist (S : gS) (c s : Int) : Int := if ¬ (0 ≤ c ∧ c < S 11 0) then 1 else if S 19 c = s then 0 else 2
def its (S : gS) (c s : Int) : Int := if ist S c s = 0 then 1 else 0
theorem its_s (S : gS) (c s : Int) : (its S c s = 1 ∧ ist S c s = 0 ∧ 0 ≤ c ∧ c < S 11 0 ∧ S 19 c = s) ∨ (its S c s = 0 ∧ ist S c s ≠ 0) := by
  unfold its ist
  (repeat' split) <;> omega
theorem t_m_begins {g : xG} {x0 : Nat} {ad : Nat → Nat} {tt : Int} {S : gS} {i w p s : Int} (hi1 : Inv1 S) (hn : S 11 0 < 20) : mM g y_m_begins k_m_begins M_m_begins x0 ad [.int (iI i), .int (iI w), .int (iI p), .int (iI s)] tt S (fun v t9 S9 => v = none ∧ tt = t9 ∧ bgn S i w p s = S9) := by
  refine mM.of rfl (by decide) rfl rfl rfl (by simp [Value.category]) (Nat.le_of_ble_eq_true rfl) rfl (fun h0 => ?_)
  obtain ⟨him, hgr, hco, hck⟩ := id hi1
  refine m_aload_n d_m_begins_0 rfl ?_
  refine mg_39 d_m_begins_1 rfl ?_
  refine m_aload_n d_m_begins_4 rfl ?_
  refine mg_94 d_m_begins_5 rfl ?_
  refine m_iload_n d_m_begins_8 rfl ?_
  refine m_ast 25 rfl (by decide) rfl d_m_begins_9 (by omega) (by omega) ?_
  refine m_aload_n d_m_begins_10 rfl ?_
  refine mg_42 d_m_begins_11 rfl ?_
  refine m_aload_n d_m_begins_14 rfl ?_
  refine mgv_94 (S 11 0) rfl d_m_begins_15 rfl ?_
  refine m_iload d_m_begins_18 rfl ?_
  refine m_ast 25 rfl (by decide) rfl d_m_begins_20 (by omega) (by omega) ?_
  refine m_aload_n d_m_begins_21 rfl ?_
  refine mg_45 d_m_begins_22 rfl ?_
  refine m_aload_n d_m_begins_25 rfl ?_
  refine mgv_94 (S 11 0) rfl d_m_begins_26 rfl ?_
  refine m_iconst d_m_begins_29 ?_
  refine m_ast 25 rfl (by decide) rfl d_m_begins_30 (by omega) (by omega) ?_
  refine m_aload_n d_m_begins_31 rfl ?_
  refine mg_48 d_m_begins_32 rfl ?_
  refine m_aload_n d_m_begins_35 rfl ?_
  refine mgv_94 (S 11 0) rfl d_m_begins_36 rfl ?_
  refine m_iconst d_m_begins_39 ?_
  refine m_ast 25 rfl (by decide) rfl d_m_begins_40 (by omega) (by omega) ?_
  refine m_aload_n d_m_begins_41 rfl ?_
  refine mg_51 d_m_begins_42 rfl ?_
  refine m_aload_n d_m_begins_45 rfl ?_
  refine mgv_94 (S 11 0) rfl d_m_begins_46 rfl ?_
  refine m_iload_n d_m_begins_49 rfl ?_
  refine m_ast 25 rfl (by decide) rfl d_m_begins_50 (by omega) (by omega) ?_
  refine m_aload_n d_m_begins_51 rfl ?_
  refine mg_54 d_m_begins_52 rfl ?_
  refine m_aload_n d_m_begins_55 rfl ?_
  refine mgv_94 (S 11 0) rfl d_m_begins_56 rfl ?_
  refine m_iload_n d_m_begins_59 rfl ?_
  refine m_ast 25 rfl (by decide) rfl d_m_begins_60 (by omega) (by omega) ?_
  refine m_aload_n d_m_begins_61 rfl ?_
  refine mg_57 d_m_begins_62 rfl ?_
  refine m_aload_n d_m_begins_65 rfl ?_
  refine mgv_94 (S 11 0) rfl d_m_begins_66 rfl ?_
  refine m_iconst d_m_begins_69 ?_
  refine m_ast 25 rfl (by decide) rfl d_m_begins_70 (by omega) (by omega) ?_
  refine m_aload_n d_m_begins_71 rfl ?_
  refine mg_60 d_m_begins_72 rfl ?_
  refine m_aload_n d_m_begins_75 rfl ?_
  refine mgv_94 (S 11 0) rfl d_m_begins_76 rfl ?_
  refine m_iconst d_m_begins_79 ?_
  refine m_ast 20 rfl (by decide) rfl d_m_begins_80 (by omega) (by omega) ?_
  refine m_aload_n d_m_begins_81 rfl ?_
  refine mg_63 d_m_begins_82 rfl ?_
  refine m_aload_n d_m_begins_85 rfl ?_
  refine mgv_94 (S 11 0) rfl d_m_begins_86 rfl ?_
  refine m_iload_n d_m_begins_89 rfl ?_
  refine m_ast 20 rfl (by decide) rfl d_m_begins_90 (by omega) (by omega) ?_
  refine m_aload_n d_m_begins_91 rfl ?_
  refine mg_66 d_m_begins_92 rfl ?_
  refine m_aload_n d_m_begins_95 rfl ?_
  refine mgv_94 (S 11 0) rfl d_m_begins_96 rfl ?_
  refine m_iconst d_m_begins_99 ?_
  refine m_ast 20 rfl (by decide) rfl d_m_begins_100 (by omega) (by omega) ?_
  refine m_aload_n d_m_begins_101 rfl ?_
  refine mg_69 d_m_begins_102 rfl ?_
  refine m_aload_n d_m_begins_105 rfl ?_
  refine mgv_94 (S 11 0) rfl d_m_begins_106 rfl ?_
  refine m_iconst d_m_begins_109 ?_
  refine m_ast 20 rfl (by decide) rfl d_m_begins_110 (by omega) (by omega) ?_
  refine m_aload_n d_m_begins_111 rfl ?_
  refine m_bipush d_m_begins_112 (by decide) ?_
  refine m_aload_n d_m_begins_114 rfl ?_
  refine mgv_94 (S 11 0) rfl d_m_begins_115 rfl ?_
  refine m_iadd d_m_begins_118 ?_
  refine m_callV d_m_begins_119 q_m_begins_112 s_m_empties v_m_empties rfl (t_m_empties (l := 10 + S 11 0) (by omega) (by omega)) rfl rfl (Nat.le_of_ble_eq_true rfl) rfl rfl rfl ?_
  rintro _ _ _ ⟨rfl, rfl, rfl⟩
  refine m_aload_n d_m_begins_122 rfl ?_
  refine m_dup d_m_begins_123 rfl ?_
  refine mgv_94 (S 11 0) rfl d_m_begins_124 rfl ?_
  refine m_iconst d_m_begins_127 ?_
  refine m_iadd d_m_begins_128 ?_
  refine mp_94 d_m_begins_129 rfl ?_
  exact m_vret rfl d_m_begins_132 (⟨rfl, rfl, rfl⟩)
def cd_run (S : gS) (i w p s : Int) : Int := if ¬ (0 ≤ i ∧ i < S 3 0 ∧ 0 ≤ w ∧ w < S 6 0) then 1 else if ¬ (0 ≤ p ∧ p < 16 ∧ 1 ≤ s ∧ s ≤ 100) then 2 else if S 5 i = 0 ∨ S 11 0 = 20 ∨ tm S w 0 1 ≠ -1 then 3 else 0
def vl_run (S : gS) (i w p s : Int) : Int := S 11 0
def st_run (S : gS) (i w p s : Int) : gS := bgn S i w p s
theorem t_m_run {g : xG} {x0 : Nat} {ad : Nat → Nat} {tt : Int} {S : gS} {i w p s : Int} (hI : Inv S) (hi : R32 i) (hw : R32 w) (hp : R32 p) (hs : R32 s) : mM g y_m_run k_m_run M_m_run x0 ad [.int (iI i), .int (iI w), .int (iI p), .int (iI s)] tt S (opQ S (cd_run S i w p s) (vl_run S i w p s) (st_run S i w p s)) := by
  refine mM.of rfl (by decide) rfl rfl rfl (by simp [Value.category]) (Nat.le_of_ble_eq_true rfl) rfl (fun h0 => ?_)
  obtain ⟨hR, hi1, hi2, hi3, hi4, hi5, hi6, hi7⟩ := id hI
  obtain ⟨him, hgr, hco, hck⟩ := id hi1
  have e1 := isin_s i (S 3 0)
  have e2 := isin_s w (S 6 0)
  have e3 := isin_s p 16
  refine m_aload_n d_m_run_0 rfl ?_
  refine m_iload_n d_m_run_1 rfl ?_
  refine m_callV d_m_run_2 q_m_run_101 s_m_isImage v_m_isImage rfl (t_m_isImage hR (by assumption)) rfl rfl (Nat.le_of_ble_eq_true rfl) rfl rfl rfl ?_
  rintro _ _ _ ⟨rfl, rfl, rfl⟩
  refine m_if_eq (tgt := 20) d_m_run_5 (by decide) (by first | assumption | exact hR _ _ (by decide) | (unfold R32; omega)) (fun z5 => ?_) (fun z5 => ?_)
  · refine m_iconst d_m_run_20 ?_
    refine m_istore d_m_run_21 (by decide) ?_
    refine m_iload_n d_m_run_23 rfl ?_
    refine m_bipush d_m_run_24 (by decide) ?_
    refine m_callS d_m_run_26 q_m_run_90 s_m_isIn (t_m_isIn g hp ⟨by omega, by omega⟩) rfl rfl (Nat.le_of_ble_eq_true rfl) rfl rfl rfl ?_
    rintro _ rfl
    refine m_if_eq (tgt := 49) d_m_run_29 (by decide) (by first | assumption | exact hR _ _ (by decide) | (unfold R32; omega)) (fun z29 => ?_) (fun z29 => ?_)
    · refine m_iconst d_m_run_49 ?_
      refine m_istore d_m_run_50 (by decide) ?_
      refine m_aload_n d_m_run_52 rfl ?_
      refine m_iload d_m_run_53 rfl ?_
      refine m_if_ne (tgt := 62) d_m_run_55 (by decide) (by first | assumption | exact hR _ _ (by decide) | (unfold R32; omega)) (fun z55 => ?_) (fun z55 => ?_)
      · exact absurd z55 (by decide)
      · refine m_iconst d_m_run_58 ?_
        refine m_goto (tgt := 105) d_m_run_59 (by decide) ?_
        refine m_callV d_m_run_105 q_m_run_109 s_m_holds v_m_holds rfl (t_m_holds ⟨by omega, by omega⟩) rfl rfl (Nat.le_of_ble_eq_true rfl) rfl rfl rfl ?_
        rintro _ _ _ ⟨rfl, rfl, rfl⟩
        refine m_if_ne (tgt := 113) d_m_run_108 (by decide) (by first | assumption | exact hR _ _ (by decide) | (unfold R32; omega)) (fun z108 => ?_) (fun z108 => ?_)
        · exact absurd z108 (by decide)
        · refine m_iconst d_m_run_111 ?_
          exact m_iret rfl d_m_run_112 (opQ.bad (by unfold cd_run; (repeat' split) <;> omega) (by decide))
    · refine m_iload d_m_run_32 rfl ?_
      refine m_iconst d_m_run_34 ?_
      refine m_icmp_lt (tgt := 49) d_m_run_35 (by decide) (by first | assumption | exact hR _ _ (by decide) | (unfold R32; omega)) (by first | assumption | exact hR _ _ (by decide) | (unfold R32; omega)) (fun z35 => ?_) (fun z35 => ?_)
      · refine m_iconst d_m_run_49 ?_
        refine m_istore d_m_run_50 (by decide) ?_
        refine m_aload_n d_m_run_52 rfl ?_
        refine m_iload d_m_run_53 rfl ?_
        refine m_if_ne (tgt := 62) d_m_run_55 (by decide) (by first | assumption | exact hR _ _ (by decide) | (unfold R32; omega)) (fun z55 => ?_) (fun z55 => ?_)
        · exact absurd z55 (by decide)
        · refine m_iconst d_m_run_58 ?_
          refine m_goto (tgt := 105) d_m_run_59 (by decide) ?_
          refine m_callV d_m_run_105 q_m_run_109 s_m_holds v_m_holds rfl (t_m_holds ⟨by omega, by omega⟩) rfl rfl (Nat.le_of_ble_eq_true rfl) rfl rfl rfl ?_
          rintro _ _ _ ⟨rfl, rfl, rfl⟩
          refine m_if_ne (tgt := 113) d_m_run_108 (by decide) (by first | assumption | exact hR _ _ (by decide) | (unfold R32; omega)) (fun z108 => ?_) (fun z108 => ?_)
          · exact absurd z108 (by decide)
          · refine m_iconst d_m_run_111 ?_
            exact m_iret rfl d_m_run_112 (opQ.bad (by unfold cd_run; (repeat' split) <;> omega) (by decide))
      · refine m_iload d_m_run_38 rfl ?_
        refine m_bipush d_m_run_40 (by decide) ?_
        refine m_icmp_gt (tgt := 49) d_m_run_42 (by decide) (by first | assumption | exact hR _ _ (by decide) | (unfold R32; omega)) (by first | assumption | exact hR _ _ (by decide) | (unfold R32; omega)) (fun z42 => ?_) (fun z42 => ?_)
        · refine m_iconst d_m_run_49 ?_
          refine m_istore d_m_run_50 (by decide) ?_
          refine m_aload_n d_m_run_52 rfl ?_
          refine m_iload d_m_run_53 rfl ?_
          refine m_if_ne (tgt := 62) d_m_run_55 (by decide) (by first | assumption | exact hR _ _ (by decide) | (unfold R32; omega)) (fun z55 => ?_) (fun z55 => ?_)
          · exact absurd z55 (by decide)
          · refine m_iconst d_m_run_58 ?_
            refine m_goto (tgt := 105) d_m_run_59 (by decide) ?_
            refine m_callV d_m_run_105 q_m_run_109 s_m_holds v_m_holds rfl (t_m_holds ⟨by omega, by omega⟩) rfl rfl (Nat.le_of_ble_eq_true rfl) rfl rfl rfl ?_
            rintro _ _ _ ⟨rfl, rfl, rfl⟩
            refine m_if_ne (tgt := 113) d_m_run_108 (by decide) (by first | assumption | exact hR _ _ (by decide) | (unfold R32; omega)) (fun z108 => ?_) (fun z108 => ?_)
            · exact absurd z108 (by decide)
            · refine m_iconst d_m_run_111 ?_
              exact m_iret rfl d_m_run_112 (opQ.bad (by unfold cd_run; (repeat' split) <;> omega) (by decide))
        · refine m_iconst d_m_run_45 ?_
          refine m_goto (tgt := 50) d_m_run_46 (by decide) ?_
          refine m_istore d_m_run_50 (by decide) ?_
          refine m_aload_n d_m_run_52 rfl ?_
          refine m_iload d_m_run_53 rfl ?_
          refine m_if_ne (tgt := 62) d_m_run_55 (by decide) (by first | assumption | exact hR _ _ (by decide) | (unfold R32; omega)) (fun z55 => ?_) (fun z55 => ?_)
          · exact absurd z55 (by decide)
          · refine m_iconst d_m_run_58 ?_
            refine m_goto (tgt := 105) d_m_run_59 (by decide) ?_
            refine m_callV d_m_run_105 q_m_run_109 s_m_holds v_m_holds rfl (t_m_holds ⟨by omega, by omega⟩) rfl rfl (Nat.le_of_ble_eq_true rfl) rfl rfl rfl ?_
            rintro _ _ _ ⟨rfl, rfl, rfl⟩
            refine m_if_ne (tgt := 113) d_m_run_108 (by decide) (by first | assumption | exact hR _ _ (by decide) | (unfold R32; omega)) (fun z108 => ?_) (fun z108 => ?_)
            · exact absurd z108 (by decide)
            · refine m_iconst d_m_run_111 ?_
              exact m_iret rfl d_m_run_112 (opQ.bad (by unfold cd_run; (repeat' split) <;> omega) (by decide))
  · refine m_aload_n d_m_run_8 rfl ?_
    refine m_iload_n d_m_run_9 rfl ?_
    refine m_callV d_m_run_10 q_m_run_133 s_m_isGroup v_m_isGroup rfl (t_m_isGroup hR (by assumption)) rfl rfl (Nat.le_of_ble_eq_true rfl) rfl rfl rfl ?_
    rintro _ _ _ ⟨rfl, rfl, rfl⟩
    refine m_if_eq (tgt := 20) d_m_run_13 (by decide) (by first | assumption | exact hR _ _ (by decide) | (unfold R32; omega)) (fun z13 => ?_) (fun z13 => ?_)
    · refine m_iconst d_m_run_20 ?_
      refine m_istore d_m_run_21 (by decide) ?_
      refine m_iload_n d_m_run_23 rfl ?_
      refine m_bipush d_m_run_24 (by decide) ?_
      refine m_callS d_m_run_26 q_m_run_90 s_m_isIn (t_m_isIn g hp ⟨by omega, by omega⟩) rfl rfl (Nat.le_of_ble_eq_true rfl) rfl rfl rfl ?_
      rintro _ rfl
      refine m_if_eq (tgt := 49) d_m_run_29 (by decide) (by first | assumption | exact hR _ _ (by decide) | (unfold R32; omega)) (fun z29 => ?_) (fun z29 => ?_)
      · refine m_iconst d_m_run_49 ?_
        refine m_istore d_m_run_50 (by decide) ?_
        refine m_aload_n d_m_run_52 rfl ?_
        refine m_iload d_m_run_53 rfl ?_
        refine m_if_ne (tgt := 62) d_m_run_55 (by decide) (by first | assumption | exact hR _ _ (by decide) | (unfold R32; omega)) (fun z55 => ?_) (fun z55 => ?_)
        · exact absurd z55 (by decide)
        · refine m_iconst d_m_run_58 ?_
          refine m_goto (tgt := 105) d_m_run_59 (by decide) ?_
          refine m_callV d_m_run_105 q_m_run_109 s_m_holds v_m_holds rfl (t_m_holds ⟨by omega, by omega⟩) rfl rfl (Nat.le_of_ble_eq_true rfl) rfl rfl rfl ?_
          rintro _ _ _ ⟨rfl, rfl, rfl⟩
          refine m_if_ne (tgt := 113) d_m_run_108 (by decide) (by first | assumption | exact hR _ _ (by decide) | (unfold R32; omega)) (fun z108 => ?_) (fun z108 => ?_)
          · exact absurd z108 (by decide)
          · refine m_iconst d_m_run_111 ?_
            exact m_iret rfl d_m_run_112 (opQ.bad (by unfold cd_run; (repeat' split) <;> omega) (by decide))
      · refine m_iload d_m_run_32 rfl ?_
        refine m_iconst d_m_run_34 ?_
        refine m_icmp_lt (tgt := 49) d_m_run_35 (by decide) (by first | assumption | exact hR _ _ (by decide) | (unfold R32; omega)) (by first | assumption | exact hR _ _ (by decide) | (unfold R32; omega)) (fun z35 => ?_) (fun z35 => ?_)
        · refine m_iconst d_m_run_49 ?_
          refine m_istore d_m_run_50 (by decide) ?_
          refine m_aload_n d_m_run_52 rfl ?_
          refine m_iload d_m_run_53 rfl ?_
          refine m_if_ne (tgt := 62) d_m_run_55 (by decide) (by first | assumption | exact hR _ _ (by decide) | (unfold R32; omega)) (fun z55 => ?_) (fun z55 => ?_)
          · exact absurd z55 (by decide)
          · refine m_iconst d_m_run_58 ?_
            refine m_goto (tgt := 105) d_m_run_59 (by decide) ?_
            refine m_callV d_m_run_105 q_m_run_109 s_m_holds v_m_holds rfl (t_m_holds ⟨by omega, by omega⟩) rfl rfl (Nat.le_of_ble_eq_true rfl) rfl rfl rfl ?_
            rintro _ _ _ ⟨rfl, rfl, rfl⟩
            refine m_if_ne (tgt := 113) d_m_run_108 (by decide) (by first | assumption | exact hR _ _ (by decide) | (unfold R32; omega)) (fun z108 => ?_) (fun z108 => ?_)
            · exact absurd z108 (by decide)
            · refine m_iconst d_m_run_111 ?_
              exact m_iret rfl d_m_run_112 (opQ.bad (by unfold cd_run; (repeat' split) <;> omega) (by decide))
        · refine m_iload d_m_run_38 rfl ?_
          refine m_bipush d_m_run_40 (by decide) ?_
          refine m_icmp_gt (tgt := 49) d_m_run_42 (by decide) (by first | assumption | exact hR _ _ (by decide) | (unfold R32; omega)) (by first | assumption | exact hR _ _ (by decide) | (unfold R32; omega)) (fun z42 => ?_) (fun z42 => ?_)
          · refine m_iconst d_m_run_49 ?_
            refine m_istore d_m_run_50 (by decide) ?_
            refine m_aload_n d_m_run_52 rfl ?_
            refine m_iload d_m_run_53 rfl ?_
            refine m_if_ne (tgt := 62) d_m_run_55 (by decide) (by first | assumption | exact hR _ _ (by decide) | (unfold R32; omega)) (fun z55 => ?_) (fun z55 => ?_)
            · exact absurd z55 (by decide)
            · refine m_iconst d_m_run_58 ?_
              refine m_goto (tgt := 105) d_m_run_59 (by decide) ?_
              refine m_callV d_m_run_105 q_m_run_109 s_m_holds v_m_holds rfl (t_m_holds ⟨by omega, by omega⟩) rfl rfl (Nat.le_of_ble_eq_true rfl) rfl rfl rfl ?_
              rintro _ _ _ ⟨rfl, rfl, rfl⟩
              refine m_if_ne (tgt := 113) d_m_run_108 (by decide) (by first | assumption | exact hR _ _ (by decide) | (unfold R32; omega)) (fun z108 => ?_) (fun z108 => ?_)
              · exact absurd z108 (by decide)
              · refine m_iconst d_m_run_111 ?_
                exact m_iret rfl d_m_run_112 (opQ.bad (by unfold cd_run; (repeat' split) <;> omega) (by decide))
          · refine m_iconst d_m_run_45 ?_
            refine m_goto (tgt := 50) d_m_run_46 (by decide) ?_
            refine m_istore d_m_run_50 (by decide) ?_
            refine m_aload_n d_m_run_52 rfl ?_
            refine m_iload d_m_run_53 rfl ?_
            refine m_if_ne (tgt := 62) d_m_run_55 (by decide) (by first | assumption | exact hR _ _ (by decide) | (unfold R32; omega)) (fun z55 => ?_) (fun z55 => ?_)
            · exact absurd z55 (by decide)
            · refine m_iconst d_m_run_58 ?_
              refine m_goto (tgt := 105) d_m_run_59 (by decide) ?_
              refine m_callV d_m_run_105 q_m_run_109 s_m_holds v_m_holds rfl (t_m_holds ⟨by omega, by omega⟩) rfl rfl (Nat.le_of_ble_eq_true rfl) rfl rfl rfl ?_
              rintro _ _ _ ⟨rfl, rfl, rfl⟩
              refine m_if_ne (tgt := 113) d_m_run_108 (by decide) (by first | assumption | exact hR _ _ (by decide) | (unfold R32; omega)) (fun z108 => ?_) (fun z108 => ?_)
              · exact absurd z108 (by decide)
              · refine m_iconst d_m_run_111 ?_
                exact m_iret rfl d_m_run_112 (opQ.bad (by unfold cd_run; (repeat' split) <;> omega) (by decide))
    · refine m_iconst d_m_run_16 ?_
      refine m_goto (tgt := 21) d_m_run_17 (by decide) ?_
      refine m_istore d_m_run_21 (by decide) ?_
      refine m_iload_n d_m_run_23 rfl ?_
      refine m_bipush d_m_run_24 (by decide) ?_
      refine m_callS d_m_run_26 q_m_run_90 s_m_isIn (t_m_isIn g hp ⟨by omega, by omega⟩) rfl rfl (Nat.le_of_ble_eq_true rfl) rfl rfl rfl ?_
      rintro _ rfl
      refine m_if_eq (tgt := 49) d_m_run_29 (by decide) (by first | assumption | exact hR _ _ (by decide) | (unfold R32; omega)) (fun z29 => ?_) (fun z29 => ?_)
      · refine m_iconst d_m_run_49 ?_
        refine m_istore d_m_run_50 (by decide) ?_
        refine m_aload_n d_m_run_52 rfl ?_
        refine m_iload d_m_run_53 rfl ?_
        refine m_if_ne (tgt := 62) d_m_run_55 (by decide) (by first | assumption | exact hR _ _ (by decide) | (unfold R32; omega)) (fun z55 => ?_) (fun z55 => ?_)
        · refine m_iload d_m_run_62 rfl ?_
          refine m_if_ne (tgt := 71) d_m_run_64 (by decide) (by first | assumption | exact hR _ _ (by decide) | (unfold R32; omega)) (fun z64 => ?_) (fun z64 => ?_)
          · exact absurd z64 (by decide)
          · refine m_iconst d_m_run_67 ?_
            refine m_goto (tgt := 105) d_m_run_68 (by decide) ?_
            refine m_callV d_m_run_105 q_m_run_109 s_m_holds v_m_holds rfl (t_m_holds ⟨by omega, by omega⟩) rfl rfl (Nat.le_of_ble_eq_true rfl) rfl rfl rfl ?_
            rintro _ _ _ ⟨rfl, rfl, rfl⟩
            refine m_if_ne (tgt := 113) d_m_run_108 (by decide) (by first | assumption | exact hR _ _ (by decide) | (unfold R32; omega)) (fun z108 => ?_) (fun z108 => ?_)
            · exact absurd z108 (by decide)
            · refine m_iconst d_m_run_111 ?_
              exact m_iret rfl d_m_run_112 (opQ.bad (by unfold cd_run; (repeat' split) <;> omega) (by decide))
        · exact absurd z55 (by decide)
      · refine m_iload d_m_run_32 rfl ?_
        refine m_iconst d_m_run_34 ?_
        refine m_icmp_lt (tgt := 49) d_m_run_35 (by decide) (by first | assumption | exact hR _ _ (by decide) | (unfold R32; omega)) (by first | assumption | exact hR _ _ (by decide) | (unfold R32; omega)) (fun z35 => ?_) (fun z35 => ?_)
        · refine m_iconst d_m_run_49 ?_
          refine m_istore d_m_run_50 (by decide) ?_
          refine m_aload_n d_m_run_52 rfl ?_
          refine m_iload d_m_run_53 rfl ?_
          refine m_if_ne (tgt := 62) d_m_run_55 (by decide) (by first | assumption | exact hR _ _ (by decide) | (unfold R32; omega)) (fun z55 => ?_) (fun z55 => ?_)
          · refine m_iload d_m_run_62 rfl ?_
            refine m_if_ne (tgt := 71) d_m_run_64 (by decide) (by first | assumption | exact hR _ _ (by decide) | (unfold R32; omega)) (fun z64 => ?_) (fun z64 => ?_)
            · exact absurd z64 (by decide)
            · refine m_iconst d_m_run_67 ?_
              refine m_goto (tgt := 105) d_m_run_68 (by decide) ?_
              refine m_callV d_m_run_105 q_m_run_109 s_m_holds v_m_holds rfl (t_m_holds ⟨by omega, by omega⟩) rfl rfl (Nat.le_of_ble_eq_true rfl) rfl rfl rfl ?_
              rintro _ _ _ ⟨rfl, rfl, rfl⟩
              refine m_if_ne (tgt := 113) d_m_run_108 (by decide) (by first | assumption | exact hR _ _ (by decide) | (unfold R32; omega)) (fun z108 => ?_) (fun z108 => ?_)
              · exact absurd z108 (by decide)
              · refine m_iconst d_m_run_111 ?_
                exact m_iret rfl d_m_run_112 (opQ.bad (by unfold cd_run; (repeat' split) <;> omega) (by decide))
          · exact absurd z55 (by decide)
        · refine m_iload d_m_run_38 rfl ?_
          refine m_bipush d_m_run_40 (by decide) ?_
          refine m_icmp_gt (tgt := 49) d_m_run_42 (by decide) (by first | assumption | exact hR _ _ (by decide) | (unfold R32; omega)) (by first | assumption | exact hR _ _ (by decide) | (unfold R32; omega)) (fun z42 => ?_) (fun z42 => ?_)
          · refine m_iconst d_m_run_49 ?_
            refine m_istore d_m_run_50 (by decide) ?_
            refine m_aload_n d_m_run_52 rfl ?_
            refine m_iload d_m_run_53 rfl ?_
            refine m_if_ne (tgt := 62) d_m_run_55 (by decide) (by first | assumption | exact hR _ _ (by decide) | (unfold R32; omega)) (fun z55 => ?_) (fun z55 => ?_)
            · refine m_iload d_m_run_62 rfl ?_
              refine m_if_ne (tgt := 71) d_m_run_64 (by decide) (by first | assumption | exact hR _ _ (by decide) | (unfold R32; omega)) (fun z64 => ?_) (fun z64 => ?_)
              · exact absurd z64 (by decide)
              · refine m_iconst d_m_run_67 ?_
                refine m_goto (tgt := 105) d_m_run_68 (by decide) ?_
                refine m_callV d_m_run_105 q_m_run_109 s_m_holds v_m_holds rfl (t_m_holds ⟨by omega, by omega⟩) rfl rfl (Nat.le_of_ble_eq_true rfl) rfl rfl rfl ?_
                rintro _ _ _ ⟨rfl, rfl, rfl⟩
                refine m_if_ne (tgt := 113) d_m_run_108 (by decide) (by first | assumption | exact hR _ _ (by decide) | (unfold R32; omega)) (fun z108 => ?_) (fun z108 => ?_)
                · exact absurd z108 (by decide)
                · refine m_iconst d_m_run_111 ?_
                  exact m_iret rfl d_m_run_112 (opQ.bad (by unfold cd_run; (repeat' split) <;> omega) (by decide))
            · exact absurd z55 (by decide)
          · refine m_iconst d_m_run_45 ?_
            refine m_goto (tgt := 50) d_m_run_46 (by decide) ?_
            refine m_istore d_m_run_50 (by decide) ?_
            refine m_aload_n d_m_run_52 rfl ?_
            refine m_iload d_m_run_53 rfl ?_
            refine m_if_ne (tgt := 62) d_m_run_55 (by decide) (by first | assumption | exact hR _ _ (by decide) | (unfold R32; omega)) (fun z55 => ?_) (fun z55 => ?_)
            · refine m_iload d_m_run_62 rfl ?_
              refine m_if_ne (tgt := 71) d_m_run_64 (by decide) (by first | assumption | exact hR _ _ (by decide) | (unfold R32; omega)) (fun z64 => ?_) (fun z64 => ?_)
              · refine m_aload_n d_m_run_71 rfl ?_
                refine mg_19 d_m_run_72 rfl ?_
                refine m_iload_n d_m_run_75 rfl ?_
                refine m_zld d_m_run_76 (by omega) (by omega) ?_
                refine m_if_eq (tgt := 100) d_m_run_77 (by decide) (by first | assumption | exact hR _ _ (by decide) | (unfold R32; omega)) (fun z77 => ?_) (fun z77 => ?_)
                · refine m_iconst d_m_run_100 ?_
                  refine m_goto (tgt := 105) d_m_run_101 (by decide) ?_
                  refine m_callV d_m_run_105 q_m_run_109 s_m_holds v_m_holds rfl (t_m_holds ⟨by omega, by omega⟩) rfl rfl (Nat.le_of_ble_eq_true rfl) rfl rfl rfl ?_
                  rintro _ _ _ ⟨rfl, rfl, rfl⟩
                  refine m_if_ne (tgt := 113) d_m_run_108 (by decide) (by first | assumption | exact hR _ _ (by decide) | (unfold R32; omega)) (fun z108 => ?_) (fun z108 => ?_)
                  · exact absurd z108 (by decide)
                  · refine m_iconst d_m_run_111 ?_
                    exact m_iret rfl d_m_run_112 (opQ.bad (by unfold cd_run; (repeat' split) <;> omega) (by decide))
                · refine m_aload_n d_m_run_80 rfl ?_
                  refine mg_94 d_m_run_81 rfl ?_
                  refine m_bipush d_m_run_84 (by decide) ?_
                  refine m_icmp_eq (tgt := 100) d_m_run_86 (by decide) (by first | assumption | exact hR _ _ (by decide) | (unfold R32; omega)) (by first | assumption | exact hR _ _ (by decide) | (unfold R32; omega)) (fun z86 => ?_) (fun z86 => ?_)
                  · refine m_iconst d_m_run_100 ?_
                    refine m_goto (tgt := 105) d_m_run_101 (by decide) ?_
                    refine m_callV d_m_run_105 q_m_run_109 s_m_holds v_m_holds rfl (t_m_holds ⟨by omega, by omega⟩) rfl rfl (Nat.le_of_ble_eq_true rfl) rfl rfl rfl ?_
                    rintro _ _ _ ⟨rfl, rfl, rfl⟩
                    refine m_if_ne (tgt := 113) d_m_run_108 (by decide) (by first | assumption | exact hR _ _ (by decide) | (unfold R32; omega)) (fun z108 => ?_) (fun z108 => ?_)
                    · exact absurd z108 (by decide)
                    · refine m_iconst d_m_run_111 ?_
                      exact m_iret rfl d_m_run_112 (opQ.bad (by unfold cd_run; (repeat' split) <;> omega) (by decide))
                  · refine m_aload_n d_m_run_89 rfl ?_
                    refine m_iload_n d_m_run_90 rfl ?_
                    refine m_iconst d_m_run_91 ?_
                    refine m_iconst d_m_run_92 ?_
                    refine m_callV d_m_run_93 q_m_run_142 s_m_tooMuch v_m_tooMuch rfl (t_m_tooMuch hI (by omega) (by omega) (by omega) (by omega) (by omega) (by omega)) rfl rfl (Nat.le_of_ble_eq_true rfl) rfl rfl rfl ?_
                    rintro _ _ _ ⟨rfl, rfl, rfl⟩
                    have e6 := tm_r hi2 hi1 0 1 (k := w) (by omega) (by omega)
                    refine m_iconst d_m_run_96 ?_
                    refine m_icmp_eq (tgt := 104) d_m_run_97 (by decide) (by first | assumption | exact hR _ _ (by decide) | (unfold R32; omega)) (by first | assumption | exact hR _ _ (by decide) | (unfold R32; omega)) (fun z97 => ?_) (fun z97 => ?_)
                    · refine m_iconst d_m_run_104 ?_
                      refine m_callV d_m_run_105 q_m_run_109 s_m_holds v_m_holds rfl (t_m_holds ⟨by omega, by omega⟩) rfl rfl (Nat.le_of_ble_eq_true rfl) rfl rfl rfl ?_
                      rintro _ _ _ ⟨rfl, rfl, rfl⟩
                      refine m_if_ne (tgt := 113) d_m_run_108 (by decide) (by first | assumption | exact hR _ _ (by decide) | (unfold R32; omega)) (fun z108 => ?_) (fun z108 => ?_)
                      · refine m_aload_n d_m_run_113 rfl ?_
                        refine m_iload_n d_m_run_114 rfl ?_
                        refine m_iload_n d_m_run_115 rfl ?_
                        refine m_iload_n d_m_run_116 rfl ?_
                        refine m_iload d_m_run_117 rfl ?_
                        refine m_callV d_m_run_119 q_m_run_145 s_m_begins v_m_begins rfl (t_m_begins hi1 (by omega)) rfl rfl (Nat.le_of_ble_eq_true rfl) rfl rfl rfl ?_
                        rintro _ _ _ ⟨rfl, rfl, rfl⟩
                        refine m_aload_n d_m_run_122 rfl ?_
                        refine mgv_94 (S 11 0 + 1) rfl d_m_run_123 rfl ?_
                        refine m_iconst d_m_run_126 ?_
                        refine m_isub d_m_run_127 ?_
                        exact m_iret rfl d_m_run_128 (opQ.good (by unfold cd_run; (repeat' split) <;> omega) (by unfold vl_run; omega) (rfl))
                      · exact absurd z108 (by decide)
                    · refine m_iconst d_m_run_100 ?_
                      refine m_goto (tgt := 105) d_m_run_101 (by decide) ?_
                      refine m_callV d_m_run_105 q_m_run_109 s_m_holds v_m_holds rfl (t_m_holds ⟨by omega, by omega⟩) rfl rfl (Nat.le_of_ble_eq_true rfl) rfl rfl rfl ?_
                      rintro _ _ _ ⟨rfl, rfl, rfl⟩
                      refine m_if_ne (tgt := 113) d_m_run_108 (by decide) (by first | assumption | exact hR _ _ (by decide) | (unfold R32; omega)) (fun z108 => ?_) (fun z108 => ?_)
                      · exact absurd z108 (by decide)
                      · refine m_iconst d_m_run_111 ?_
                        exact m_iret rfl d_m_run_112 (opQ.bad (by unfold cd_run; (repeat' split) <;> omega) (by decide))
              · exact absurd z64 (by decide)
            · exact absurd z55 (by decide)
theorem t_m_isThere {g : xG} {x0 : Nat} {ad : Nat → Nat} {tt : Int} {S : gS} {c s : Int} (hI : Inv S) (hc : R32 c) (hs : R32 s) : mM g y_m_isThere k_m_isThere M_m_isThere x0 ad [.int (iI c), .int (iI s)] tt S (fun v t9 S9 => v = some (.int (iI (its S c s))) ∧ ist S c s = t9 ∧ S = S9) := by
  refine mM.of rfl (by decide) rfl rfl rfl (by simp [Value.category]) (Nat.le_of_ble_eq_true rfl) rfl (fun h0 => ?_)
  obtain ⟨hR, hi1, hi2, hi3, hi4, hi5, hi6, hi7⟩ := id hI
  obtain ⟨him, hgr, hco, hck⟩ := id hi1
  have e1 := isin_s c (S 11 0)
  refine m_aload_n d_m_isThere_0 rfl ?_
  refine m_iload_n d_m_isThere_1 rfl ?_
  refine m_callV d_m_isThere_2 q_m_isThere_123 s_m_isContainer v_m_isContainer rfl (t_m_isContainer hR (by assumption)) rfl rfl (Nat.le_of_ble_eq_true rfl) rfl rfl rfl ?_
  rintro _ _ _ ⟨rfl, rfl, rfl⟩
  refine m_istore_n d_m_isThere_5 (by decide) ?_
  refine m_aload_n d_m_isThere_6 rfl ?_
  refine m_iload_n d_m_isThere_7 rfl ?_
  refine m_if_ne (tgt := 15) d_m_isThere_8 (by decide) (by first | assumption | exact hR _ _ (by decide) | (unfold R32; omega)) (fun z8 => ?_) (fun z8 => ?_)
  · refine m_aload_n d_m_isThere_15 rfl ?_
    refine mg_60 d_m_isThere_16 rfl ?_
    refine m_iload_n d_m_isThere_19 rfl ?_
    refine m_ald 20 rfl (by decide) rfl d_m_isThere_20 (by omega) (by omega) ?_
    refine m_iload_n d_m_isThere_21 rfl ?_
    refine m_icmp_ne (tgt := 29) d_m_isThere_22 (by decide) (by first | assumption | exact hR _ _ (by decide) | (unfold R32; omega)) (by first | assumption | exact hR _ _ (by decide) | (unfold R32; omega)) (fun z22 => ?_) (fun z22 => ?_)
    · refine m_iconst d_m_isThere_29 ?_
      refine m_callV d_m_isThere_30 q_m_isThere_109 s_m_holds v_m_holds rfl (t_m_holds ⟨by omega, by omega⟩) rfl rfl (Nat.le_of_ble_eq_true rfl) rfl rfl rfl ?_
      rintro _ _ _ ⟨rfl, rfl, rfl⟩
      exact m_zret rfl d_m_isThere_33 (by omega) (by have e5 := its_s S c s; exact ⟨congrArg (fun z => some (Value.int (iI z))) (by unfold its ist; (repeat' split) <;> omega), by unfold ist; (repeat' split) <;> omega, rfl⟩)
    · refine m_iconst d_m_isThere_25 ?_
      refine m_goto (tgt := 30) d_m_isThere_26 (by decide) ?_
      refine m_callV d_m_isThere_30 q_m_isThere_109 s_m_holds v_m_holds rfl (t_m_holds ⟨by omega, by omega⟩) rfl rfl (Nat.le_of_ble_eq_true rfl) rfl rfl rfl ?_
      rintro _ _ _ ⟨rfl, rfl, rfl⟩
      exact m_zret rfl d_m_isThere_33 (by omega) (by have e5 := its_s S c s; exact ⟨congrArg (fun z => some (Value.int (iI z))) (by unfold its ist; (repeat' split) <;> omega), by unfold ist; (repeat' split) <;> omega, rfl⟩)
  · refine m_iconst d_m_isThere_11 ?_
    refine m_goto (tgt := 30) d_m_isThere_12 (by decide) ?_
    refine m_callV d_m_isThere_30 q_m_isThere_109 s_m_holds v_m_holds rfl (t_m_holds ⟨by omega, by omega⟩) rfl rfl (Nat.le_of_ble_eq_true rfl) rfl rfl rfl ?_
    rintro _ _ _ ⟨rfl, rfl, rfl⟩
    exact m_zret rfl d_m_isThere_33 (by omega) (by have e5 := its_s S c s; exact ⟨congrArg (fun z => some (Value.int (iI z))) (by unfold its ist; (repeat' split) <;> omega), by unfold ist; (repeat' split) <;> omega, rfl⟩)
def cd_pause (S : gS) (c : Int) : Int := ist S c 0
def st_pause (S : gS) (c : Int) : gS := sset S 19 c 1
theorem t_m_pause {g : xG} {x0 : Nat} {ad : Nat → Nat} {tt : Int} {S : gS} {c : Int} (hI : Inv S) (hc : R32 c) : mM g y_m_pause k_m_pause M_m_pause x0 ad [.int (iI c)] tt S (opV S (cd_pause S c) (st_pause S c)) := by
  refine mM.of rfl (by decide) rfl rfl rfl (by simp [Value.category]) (Nat.le_of_ble_eq_true rfl) rfl (fun h0 => ?_)
  obtain ⟨hR, hi1, hi2, hi3, hi4, hi5, hi6, hi7⟩ := id hI
  obtain ⟨him, hgr, hco, hck⟩ := id hi1
  have e1 := its_s S c 0
  refine m_aload_n d_m_pause_0 rfl ?_
  refine m_iload_n d_m_pause_1 rfl ?_
  refine m_iconst d_m_pause_2 ?_
  refine m_callV d_m_pause_3 q_m_pause_149 s_m_isThere v_m_isThere rfl (t_m_isThere hI hc (s := 0) ⟨by omega, by omega⟩) rfl rfl (Nat.le_of_ble_eq_true rfl) rfl rfl rfl ?_
  rintro _ _ _ ⟨rfl, rfl, rfl⟩
  refine m_if_eq (tgt := 16) d_m_pause_6 (by decide) (by first | assumption | exact hR _ _ (by decide) | (unfold R32; omega)) (fun z6 => ?_) (fun z6 => ?_)
  · exact m_vret rfl d_m_pause_16 (by first | exact opV.good rfl (by omega) rfl | exact opV.bad rfl (by omega))
  · refine m_aload_n d_m_pause_9 rfl ?_
    refine mg_60 d_m_pause_10 rfl ?_
    refine m_iload_n d_m_pause_13 rfl ?_
    refine m_iconst d_m_pause_14 ?_
    refine m_ast 20 rfl (by decide) rfl d_m_pause_15 (by omega) (by omega) ?_
    exact m_vret rfl d_m_pause_16 (by first | exact opV.good rfl (by omega) rfl | exact opV.bad rfl (by omega))
def cd_resume (S : gS) (c : Int) : Int := ist S c 1
def st_resume (S : gS) (c : Int) : gS := sset S 19 c 0
theorem t_m_resume {g : xG} {x0 : Nat} {ad : Nat → Nat} {tt : Int} {S : gS} {c : Int} (hI : Inv S) (hc : R32 c) : mM g y_m_resume k_m_resume M_m_resume x0 ad [.int (iI c)] tt S (opV S (cd_resume S c) (st_resume S c)) := by
  refine mM.of rfl (by decide) rfl rfl rfl (by simp [Value.category]) (Nat.le_of_ble_eq_true rfl) rfl (fun h0 => ?_)
  obtain ⟨hR, hi1, hi2, hi3, hi4, hi5, hi6, hi7⟩ := id hI
  obtain ⟨him, hgr, hco, hck⟩ := id hi1
  have e1 := its_s S c 1
  refine m_aload_n d_m_resume_0 rfl ?_
  refine m_iload_n d_m_resume_1 rfl ?_
  refine m_iconst d_m_resume_2 ?_
  refine m_callV d_m_resume_3 q_m_resume_149 s_m_isThere v_m_isThere rfl (t_m_isThere hI hc (s := 1) ⟨by omega, by omega⟩) rfl rfl (Nat.le_of_ble_eq_true rfl) rfl rfl rfl ?_
  rintro _ _ _ ⟨rfl, rfl, rfl⟩
  refine m_if_eq (tgt := 16) d_m_resume_6 (by decide) (by first | assumption | exact hR _ _ (by decide) | (unfold R32; omega)) (fun z6 => ?_) (fun z6 => ?_)
  · exact m_vret rfl d_m_resume_16 (by first | exact opV.good rfl (by omega) rfl | exact opV.bad rfl (by omega))
  · refine m_aload_n d_m_resume_9 rfl ?_
    refine mg_60 d_m_resume_10 rfl ?_
    refine m_iload_n d_m_resume_13 rfl ?_
    refine m_iconst d_m_resume_14 ?_
    refine m_ast 20 rfl (by decide) rfl d_m_resume_15 (by omega) (by omega) ?_
    exact m_vret rfl d_m_resume_16 (by first | exact opV.good rfl (by omega) rfl | exact opV.bad rfl (by omega))
theorem L_m_stops {g : xG} {x0 : Nat} {ad : Nat → Nat} {h0 : hp} {tt : Int} {S : gS} {c r : Int} (hR : hRp S) (hc : 0 ≤ c) (hc2 : c < 20) : ∀ (f9 : Nat) (n : Int), 0 ≤ n → n ≤ 32 → 32 < n + f9 → mW g M_m_stops x0 ad h0 (fun v t9 S9 => v = some (.int (iI (r))) ∧ tt = t9 ∧ stp S c = S9) tt (stq S c n) 44 [some (.ref x0), some (.int (iI c)), some (.int (iI r)), some (.int (iI n))] [] := by
  intro f9
  induction f9 with
  | zero => intros; omega
  | succ f9 ih =>
    intro n h1 h2 h3
    refine m_iload_n d_m_stops_44 rfl ?_
    refine m_bipush d_m_stops_45 (by decide) ?_
    refine m_icmp_ge (tgt := 82) d_m_stops_47 (by decide) (by first | assumption | exact hR _ _ (by decide) | (unfold R32; omega)) (by first | assumption | exact hR _ _ (by decide) | (unfold R32; omega)) (fun z47 => ?_) (fun z47 => ?_)
    · refine m_iload_n d_m_stops_82 rfl ?_
      exact m_iret rfl d_m_stops_83 (⟨rfl, rfl, by rw [show n = 32 by omega]; rfl⟩)
    · refine m_aload_n d_m_stops_50 rfl ?_
      refine mg_72 d_m_stops_51 rfl ?_
      refine m_iload_n d_m_stops_54 rfl ?_
      refine m_aload_n d_m_stops_55 rfl ?_
      refine mg_72 d_m_stops_56 rfl ?_
      refine m_iload_n d_m_stops_59 rfl ?_
      refine m_aldv 32 rfl (by decide) rfl (S 24 n) (stq_r S) d_m_stops_60 (by omega) (by omega) ?_
      refine m_iload_n d_m_stops_61 rfl ?_
      refine m_icmp_ne (tgt := 69) d_m_stops_62 (by decide) (by first | assumption | exact hR _ _ (by decide) | (unfold R32; omega)) (by first | assumption | exact hR _ _ (by decide) | (unfold R32; omega)) (fun z62 => ?_) (fun z62 => ?_)
      · refine m_aload_n d_m_stops_69 rfl ?_
        refine mg_72 d_m_stops_70 rfl ?_
        refine m_iload_n d_m_stops_73 rfl ?_
        refine m_aldv 32 rfl (by decide) rfl (S 24 n) (stq_r S) d_m_stops_74 (by omega) (by omega) ?_
        refine m_ast 32 rfl (by decide) rfl d_m_stops_75 (by omega) (by omega) ?_
        refine m_iinc d_m_stops_76 rfl (by decide) ?_
        refine m_goto (tgt := 44) d_m_stops_79 (by decide) ?_
        have hs9 := stq_s S (c := c) h1
        first
          | (rw [if_pos z62] at hs9; rw [hs9]; exact ih (n + 1) (by omega) (by omega) (by omega))
          | (rw [if_neg z62] at hs9; rw [hs9]; exact ih (n + 1) (by omega) (by omega) (by omega))
      · refine m_iconst d_m_stops_65 ?_
        refine m_goto (tgt := 75) d_m_stops_66 (by decide) ?_
        refine m_ast 32 rfl (by decide) rfl d_m_stops_75 (by omega) (by omega) ?_
        refine m_iinc d_m_stops_76 rfl (by decide) ?_
        refine m_goto (tgt := 44) d_m_stops_79 (by decide) ?_
        have hs9 := stq_s S (c := c) h1
        first
          | (rw [if_pos z62] at hs9; rw [hs9]; exact ih (n + 1) (by omega) (by omega) (by omega))
          | (rw [if_neg z62] at hs9; rw [hs9]; exact ih (n + 1) (by omega) (by omega) (by omega))
theorem t_m_stops {g : xG} {x0 : Nat} {ad : Nat → Nat} {tt : Int} {S : gS} {c : Int} (hR : hRp S) (hc : 0 ≤ c) (hc2 : c < 20) : mM g y_m_stops k_m_stops M_m_stops x0 ad [.int (iI c)] tt S (fun v t9 S9 => v = some (.int (iI (S 14 c))) ∧ tt = t9 ∧ stp S c = S9) := by
  refine mM.of rfl (by decide) rfl rfl rfl (by simp [Value.category]) (Nat.le_of_ble_eq_true rfl) rfl (fun h0 => ?_)
  refine m_aload_n d_m_stops_0 rfl ?_
  refine mg_45 d_m_stops_1 rfl ?_
  refine m_iload_n d_m_stops_4 rfl ?_
  refine m_ald 25 rfl (by decide) rfl d_m_stops_5 (by omega) (by omega) ?_
  refine m_istore_n d_m_stops_6 (by decide) ?_
  refine m_aload_n d_m_stops_7 rfl ?_
  refine mg_60 d_m_stops_8 rfl ?_
  refine m_iload_n d_m_stops_11 rfl ?_
  refine m_iconst d_m_stops_12 ?_
  refine m_ast 20 rfl (by decide) rfl d_m_stops_13 (by omega) (by omega) ?_
  refine m_aload_n d_m_stops_14 rfl ?_
  refine mg_45 d_m_stops_15 rfl ?_
  refine m_iload_n d_m_stops_18 rfl ?_
  refine m_iconst d_m_stops_19 ?_
  refine m_ast 25 rfl (by decide) rfl d_m_stops_20 (by omega) (by omega) ?_
  refine m_aload_n d_m_stops_21 rfl ?_
  refine mg_48 d_m_stops_22 rfl ?_
  refine m_iload_n d_m_stops_25 rfl ?_
  refine m_iconst d_m_stops_26 ?_
  refine m_ast 25 rfl (by decide) rfl d_m_stops_27 (by omega) (by omega) ?_
  refine m_aload_n d_m_stops_28 rfl ?_
  refine mg_57 d_m_stops_29 rfl ?_
  refine m_iload_n d_m_stops_32 rfl ?_
  refine m_iconst d_m_stops_33 ?_
  refine m_ast 25 rfl (by decide) rfl d_m_stops_34 (by omega) (by omega) ?_
  refine m_aload_n d_m_stops_35 rfl ?_
  refine mg_66 d_m_stops_36 rfl ?_
  refine m_iload_n d_m_stops_39 rfl ?_
  refine m_iconst d_m_stops_40 ?_
  refine m_ast 20 rfl (by decide) rfl d_m_stops_41 (by omega) (by omega) ?_
  refine m_iconst d_m_stops_42 ?_
  refine m_istore_n d_m_stops_43 (by decide) ?_
  rw [stq_0]
  exact L_m_stops hR hc hc2 33 0 (by omega) (by omega) (by omega)
def cd_stop (S : gS) (c : Int) : Int := if ¬ (0 ≤ c ∧ c < S 11 0) then 1 else if S 19 c = 2 then 2 else 0
def vl_stop (S : gS) (c : Int) : Int := S 14 c
def st_stop (S : gS) (c : Int) : gS := stp S c
theorem t_m_stop {g : xG} {x0 : Nat} {ad : Nat → Nat} {tt : Int} {S : gS} {c : Int} (hI : Inv S) (hc : R32 c) : mM g y_m_stop k_m_stop M_m_stop x0 ad [.int (iI c)] tt S (opQ S (cd_stop S c) (vl_stop S c) (st_stop S c)) := by
  refine mM.of rfl (by decide) rfl rfl rfl (by simp [Value.category]) (Nat.le_of_ble_eq_true rfl) rfl (fun h0 => ?_)
  obtain ⟨hR, hi1, hi2, hi3, hi4, hi5, hi6, hi7⟩ := id hI
  obtain ⟨him, hgr, hco, hck⟩ := id hi1
  have e1 := isin_s c (S 11 0)
  refine m_aload_n d_m_stop_0 rfl ?_
  refine m_iload_n d_m_stop_1 rfl ?_
  refine m_callV d_m_stop_2 q_m_stop_123 s_m_isContainer v_m_isContainer rfl (t_m_isContainer hR (by assumption)) rfl rfl (Nat.le_of_ble_eq_true rfl) rfl rfl rfl ?_
  rintro _ _ _ ⟨rfl, rfl, rfl⟩
  refine m_istore_n d_m_stop_5 (by decide) ?_
  refine m_aload_n d_m_stop_6 rfl ?_
  refine m_iload_n d_m_stop_7 rfl ?_
  refine m_if_ne (tgt := 15) d_m_stop_8 (by decide) (by first | assumption | exact hR _ _ (by decide) | (unfold R32; omega)) (fun z8 => ?_) (fun z8 => ?_)
  · refine m_aload_n d_m_stop_15 rfl ?_
    refine mg_60 d_m_stop_16 rfl ?_
    refine m_iload_n d_m_stop_19 rfl ?_
    refine m_ald 20 rfl (by decide) rfl d_m_stop_20 (by omega) (by omega) ?_
    refine m_iconst d_m_stop_21 ?_
    refine m_icmp_ne (tgt := 29) d_m_stop_22 (by decide) (by first | assumption | exact hR _ _ (by decide) | (unfold R32; omega)) (by first | assumption | exact hR _ _ (by decide) | (unfold R32; omega)) (fun z22 => ?_) (fun z22 => ?_)
    · refine m_iconst d_m_stop_29 ?_
      refine m_callV d_m_stop_30 q_m_stop_109 s_m_holds v_m_holds rfl (t_m_holds ⟨by omega, by omega⟩) rfl rfl (Nat.le_of_ble_eq_true rfl) rfl rfl rfl ?_
      rintro _ _ _ ⟨rfl, rfl, rfl⟩
      refine m_if_eq (tgt := 44) d_m_stop_33 (by decide) (by first | assumption | exact hR _ _ (by decide) | (unfold R32; omega)) (fun z33 => ?_) (fun z33 => ?_)
      · exact absurd z33 (by decide)
      · refine m_aload_n d_m_stop_36 rfl ?_
        refine m_iload_n d_m_stop_37 rfl ?_
        refine m_callV d_m_stop_38 q_m_stop_152 s_m_stops v_m_stops rfl (t_m_stops hR (by omega) (by omega)) rfl rfl (Nat.le_of_ble_eq_true rfl) rfl rfl rfl ?_
        rintro _ _ _ ⟨rfl, rfl, rfl⟩
        refine m_goto (tgt := 45) d_m_stop_41 (by decide) ?_
        exact m_iret rfl d_m_stop_45 (by first | exact opQ.bad (by unfold cd_stop; (repeat' split) <;> omega) (by decide) | exact opQ.good (by unfold cd_stop; (repeat' split) <;> omega) rfl rfl)
    · refine m_iconst d_m_stop_25 ?_
      refine m_goto (tgt := 30) d_m_stop_26 (by decide) ?_
      refine m_callV d_m_stop_30 q_m_stop_109 s_m_holds v_m_holds rfl (t_m_holds ⟨by omega, by omega⟩) rfl rfl (Nat.le_of_ble_eq_true rfl) rfl rfl rfl ?_
      rintro _ _ _ ⟨rfl, rfl, rfl⟩
      refine m_if_eq (tgt := 44) d_m_stop_33 (by decide) (by first | assumption | exact hR _ _ (by decide) | (unfold R32; omega)) (fun z33 => ?_) (fun z33 => ?_)
      · refine m_iconst d_m_stop_44 ?_
        exact m_iret rfl d_m_stop_45 (by first | exact opQ.bad (by unfold cd_stop; (repeat' split) <;> omega) (by decide) | exact opQ.good (by unfold cd_stop; (repeat' split) <;> omega) rfl rfl)
      · exact absurd z33 (by decide)
  · refine m_iconst d_m_stop_11 ?_
    refine m_goto (tgt := 30) d_m_stop_12 (by decide) ?_
    refine m_callV d_m_stop_30 q_m_stop_109 s_m_holds v_m_holds rfl (t_m_holds ⟨by omega, by omega⟩) rfl rfl (Nat.le_of_ble_eq_true rfl) rfl rfl rfl ?_
    rintro _ _ _ ⟨rfl, rfl, rfl⟩
    refine m_if_eq (tgt := 44) d_m_stop_33 (by decide) (by first | assumption | exact hR _ _ (by decide) | (unfold R32; omega)) (fun z33 => ?_) (fun z33 => ?_)
    · refine m_iconst d_m_stop_44 ?_
      exact m_iret rfl d_m_stop_45 (by first | exact opQ.bad (by unfold cd_stop; (repeat' split) <;> omega) (by decide) | exact opQ.good (by unfold cd_stop; (repeat' split) <;> omega) rfl rfl)
    · exact absurd z33 (by decide)
theorem L_m_greatest {g : xG} {x0 : Nat} {ad : Nat → Nat} {h0 : hp} {tt : Int} {S : gS} {w : Int} (hI : Inv S) (hw : 0 ≤ w) (hw2 : R32 w) : ∀ (f9 n : Nat), (n : Int) ≤ S 11 0 → S 11 0 < n + f9 → ∀ u4, mW g M_m_greatest x0 ad h0 (fun v t9 S9 => v = some (.int (iI (gre S w))) ∧ tt = t9 ∧ S = S9) tt S 4 (some (.ref x0) :: some (.int (iI w)) :: some (.int (iI (grN S w n))) :: some (.int (iI (n : Int))) :: u4 :: []) [] := by
  intro f9
  induction f9 with
  | zero => intros; omega
  | succ f9 ih =>
    intro n h1 h2 u4
    obtain ⟨hR, hi1, hi2, hi3, hi4, -⟩ := id hI
    obtain ⟨him, hgr, hco, -⟩ := id hi1
    refine m_iload_n d_m_greatest_4 rfl ?_
    refine m_aload_n d_m_greatest_5 rfl ?_
    refine mg_94 d_m_greatest_6 rfl ?_
    refine m_icmp_ge (tgt := 80) d_m_greatest_9 (by decide) (by first | assumption | exact hR _ _ (by decide) | (unfold R32; omega)) (by first | assumption | exact hR _ _ (by decide) | (unfold R32; omega)) (fun z9 => ?_) (fun z9 => ?_)
    · refine m_iload_n d_m_greatest_80 rfl ?_
      exact m_iret rfl d_m_greatest_81 (⟨congrArg (fun z => some (Value.int (iI z))) (by unfold gre; rw [show (S 11 0).toNat = n by omega]), rfl, rfl⟩)
    · have hc := hi4 n (by omega) (by omega)
      have hg := grN_b S w n
      refine m_aload_n d_m_greatest_12 rfl ?_
      refine mg_60 d_m_greatest_13 rfl ?_
      refine m_iload_n d_m_greatest_16 rfl ?_
      refine m_ald 20 rfl (by decide) rfl d_m_greatest_17 (by omega) (by omega) ?_
      refine m_iconst d_m_greatest_18 ?_
      refine m_icmp_eq (tgt := 40) d_m_greatest_19 (by decide) (by first | assumption | exact hR _ _ (by decide) | (unfold R32; omega)) (by first | assumption | exact hR _ _ (by decide) | (unfold R32; omega)) (fun z19 => ?_) (fun z19 => ?_)
      · refine m_iconst d_m_greatest_40 ?_
        refine m_istore d_m_greatest_41 (by decide) ?_
        refine m_iload d_m_greatest_43 rfl ?_
        refine m_if_eq (tgt := 72) d_m_greatest_45 (by decide) (by first | assumption | exact hR _ _ (by decide) | (unfold R32; omega)) (fun z45 => ?_) (fun z45 => ?_)
        · refine m_iload_n d_m_greatest_72 rfl ?_
          refine m_istore_n d_m_greatest_73 (by decide) ?_
          refine m_iinc d_m_greatest_74 rfl (by decide) ?_
          refine m_goto (tgt := 4) d_m_greatest_77 (by decide) ?_
          have hs9 : grN S w (n + 1) = (if S 19 n ≠ 2 ∧ bel S (S 20 n) w = 1 ∧ (grN S w n = -1 ∨ S 14 (grN S w n) ≤ S 14 n) then (n : Int) else grN S w n) := rfl
          first
            | (rw [if_pos (by omega)] at hs9; have := ih (n + 1) (by omega) (by omega); rw [hs9, show ((n + 1 : Nat) : Int) = (n : Int) + 1 by omega] at this; exact this _)
            | (rw [if_neg (by omega)] at hs9; have := ih (n + 1) (by omega) (by omega); rw [hs9, show ((n + 1 : Nat) : Int) = (n : Int) + 1 by omega] at this; exact this _)
        · exact absurd z45 (by decide)
      · refine m_aload_n d_m_greatest_22 rfl ?_
        refine m_aload_n d_m_greatest_23 rfl ?_
        refine mg_63 d_m_greatest_24 rfl ?_
        refine m_iload_n d_m_greatest_27 rfl ?_
        refine m_ald 20 rfl (by decide) rfl d_m_greatest_28 (by omega) (by omega) ?_
        refine m_iload_n d_m_greatest_29 rfl ?_
        refine m_callV d_m_greatest_30 q_m_greatest_130 s_m_isBelow v_m_isBelow rfl (t_m_isBelow hI (by omega) (by omega) hw hw2) rfl rfl (Nat.le_of_ble_eq_true rfl) rfl rfl rfl ?_
        rintro _ _ _ ⟨rfl, rfl, rfl⟩
        have hb := bel_01 S (S 20 n) w
        refine m_if_eq (tgt := 40) d_m_greatest_33 (by decide) (by first | assumption | exact hR _ _ (by decide) | (unfold R32; omega)) (fun z33 => ?_) (fun z33 => ?_)
        · refine m_iconst d_m_greatest_40 ?_
          refine m_istore d_m_greatest_41 (by decide) ?_
          refine m_iload d_m_greatest_43 rfl ?_
          refine m_if_eq (tgt := 72) d_m_greatest_45 (by decide) (by first | assumption | exact hR _ _ (by decide) | (unfold R32; omega)) (fun z45 => ?_) (fun z45 => ?_)
          · refine m_iload_n d_m_greatest_72 rfl ?_
            refine m_istore_n d_m_greatest_73 (by decide) ?_
            refine m_iinc d_m_greatest_74 rfl (by decide) ?_
            refine m_goto (tgt := 4) d_m_greatest_77 (by decide) ?_
            have hs9 : grN S w (n + 1) = (if S 19 n ≠ 2 ∧ bel S (S 20 n) w = 1 ∧ (grN S w n = -1 ∨ S 14 (grN S w n) ≤ S 14 n) then (n : Int) else grN S w n) := rfl
            first
              | (rw [if_pos (by omega)] at hs9; have := ih (n + 1) (by omega) (by omega); rw [hs9, show ((n + 1 : Nat) : Int) = (n : Int) + 1 by omega] at this; exact this _)
              | (rw [if_neg (by omega)] at hs9; have := ih (n + 1) (by omega) (by omega); rw [hs9, show ((n + 1 : Nat) : Int) = (n : Int) + 1 by omega] at this; exact this _)
          · exact absurd z45 (by decide)
        · refine m_iconst d_m_greatest_36 ?_
          refine m_goto (tgt := 41) d_m_greatest_37 (by decide) ?_
          refine m_istore d_m_greatest_41 (by decide) ?_
          refine m_iload d_m_greatest_43 rfl ?_
          refine m_if_eq (tgt := 72) d_m_greatest_45 (by decide) (by first | assumption | exact hR _ _ (by decide) | (unfold R32; omega)) (fun z45 => ?_) (fun z45 => ?_)
          · exact absurd z45 (by decide)
          · refine m_iload_n d_m_greatest_48 rfl ?_
            refine m_iconst d_m_greatest_49 ?_
            refine m_icmp_eq (tgt := 68) d_m_greatest_50 (by decide) (by first | assumption | exact hR _ _ (by decide) | (unfold R32; omega)) (by first | assumption | exact hR _ _ (by decide) | (unfold R32; omega)) (fun z50 => ?_) (fun z50 => ?_)
            · refine m_iload_n d_m_greatest_68 rfl ?_
              refine m_goto (tgt := 73) d_m_greatest_69 (by decide) ?_
              refine m_istore_n d_m_greatest_73 (by decide) ?_
              refine m_iinc d_m_greatest_74 rfl (by decide) ?_
              refine m_goto (tgt := 4) d_m_greatest_77 (by decide) ?_
              have hs9 : grN S w (n + 1) = (if S 19 n ≠ 2 ∧ bel S (S 20 n) w = 1 ∧ (grN S w n = -1 ∨ S 14 (grN S w n) ≤ S 14 n) then (n : Int) else grN S w n) := rfl
              first
                | (rw [if_pos (by omega)] at hs9; have := ih (n + 1) (by omega) (by omega); rw [hs9, show ((n + 1 : Nat) : Int) = (n : Int) + 1 by omega] at this; exact this _)
                | (rw [if_neg (by omega)] at hs9; have := ih (n + 1) (by omega) (by omega); rw [hs9, show ((n + 1 : Nat) : Int) = (n : Int) + 1 by omega] at this; exact this _)
            · refine m_aload_n d_m_greatest_53 rfl ?_
              refine mg_45 d_m_greatest_54 rfl ?_
              refine m_iload_n d_m_greatest_57 rfl ?_
              refine m_ald 25 rfl (by decide) rfl d_m_greatest_58 (by omega) (by omega) ?_
              refine m_aload_n d_m_greatest_59 rfl ?_
              refine mg_45 d_m_greatest_60 rfl ?_
              refine m_iload_n d_m_greatest_63 rfl ?_
              refine m_ald 25 rfl (by decide) rfl d_m_greatest_64 (by omega) (by omega) ?_
              refine m_icmp_lt (tgt := 72) d_m_greatest_65 (by decide) (by first | assumption | exact hR _ _ (by decide) | (unfold R32; omega)) (by first | assumption | exact hR _ _ (by decide) | (unfold R32; omega)) (fun z65 => ?_) (fun z65 => ?_)
              · refine m_iload_n d_m_greatest_72 rfl ?_
                refine m_istore_n d_m_greatest_73 (by decide) ?_
                refine m_iinc d_m_greatest_74 rfl (by decide) ?_
                refine m_goto (tgt := 4) d_m_greatest_77 (by decide) ?_
                have hs9 : grN S w (n + 1) = (if S 19 n ≠ 2 ∧ bel S (S 20 n) w = 1 ∧ (grN S w n = -1 ∨ S 14 (grN S w n) ≤ S 14 n) then (n : Int) else grN S w n) := rfl
                first
                  | (rw [if_pos (by omega)] at hs9; have := ih (n + 1) (by omega) (by omega); rw [hs9, show ((n + 1 : Nat) : Int) = (n : Int) + 1 by omega] at this; exact this _)
                  | (rw [if_neg (by omega)] at hs9; have := ih (n + 1) (by omega) (by omega); rw [hs9, show ((n + 1 : Nat) : Int) = (n : Int) + 1 by omega] at this; exact this _)
              · refine m_iload_n d_m_greatest_68 rfl ?_
                refine m_goto (tgt := 73) d_m_greatest_69 (by decide) ?_
                refine m_istore_n d_m_greatest_73 (by decide) ?_
                refine m_iinc d_m_greatest_74 rfl (by decide) ?_
                refine m_goto (tgt := 4) d_m_greatest_77 (by decide) ?_
                have hs9 : grN S w (n + 1) = (if S 19 n ≠ 2 ∧ bel S (S 20 n) w = 1 ∧ (grN S w n = -1 ∨ S 14 (grN S w n) ≤ S 14 n) then (n : Int) else grN S w n) := rfl
                first
                  | (rw [if_pos (by omega)] at hs9; have := ih (n + 1) (by omega) (by omega); rw [hs9, show ((n + 1 : Nat) : Int) = (n : Int) + 1 by omega] at this; exact this _)
                  | (rw [if_neg (by omega)] at hs9; have := ih (n + 1) (by omega) (by omega); rw [hs9, show ((n + 1 : Nat) : Int) = (n : Int) + 1 by omega] at this; exact this _)
theorem t_m_greatest {g : xG} {x0 : Nat} {ad : Nat → Nat} {tt : Int} {S : gS} {w : Int} (hI : Inv S) (hw : 0 ≤ w) (hw2 : R32 w) : mM g y_m_greatest k_m_greatest M_m_greatest x0 ad [.int (iI w)] tt S (fun v t9 S9 => v = some (.int (iI (gre S w))) ∧ tt = t9 ∧ S = S9) := by
  refine mM.of rfl (by decide) rfl rfl rfl (by simp [Value.category]) (Nat.le_of_ble_eq_true rfl) rfl (fun h0 => ?_)
  obtain ⟨hR, hi1, hi2, hi3, hi4, hi5, hi6, hi7⟩ := id hI
  obtain ⟨him, hgr, hco, hck⟩ := id hi1
  refine m_iconst d_m_greatest_0 ?_
  refine m_istore_n d_m_greatest_1 (by decide) ?_
  refine m_iconst d_m_greatest_2 ?_
  refine m_istore_n d_m_greatest_3 (by decide) ?_
  exact L_m_greatest hI hw hw2 ((S 11 0).toNat + 1) 0 (by omega) (by omega) _
def cd_free (S : gS) (c u : Int) : Int := if ¬ (0 ≤ c ∧ c < S 11 0) then 1 else if ¬ (1 ≤ u ∧ u ≤ 5000) then 2 else if S 19 c ≠ 0 ∨ S 14 c < u then 3 else 0
def vl_free (S : gS) (c u : Int) : Int := S 14 c - u
def st_free (S : gS) (c u : Int) : gS := sset S 14 c (S 14 c - u)
theorem t_m_free {g : xG} {x0 : Nat} {ad : Nat → Nat} {tt : Int} {S : gS} {c u : Int} (hI : Inv S) (hc : R32 c) (hu : R32 u) : mM g y_m_free k_m_free M_m_free x0 ad [.int (iI c), .int (iI u)] tt S (opQ S (cd_free S c u) (vl_free S c u) (st_free S c u)) := by
  refine mM.of rfl (by decide) rfl rfl rfl (by simp [Value.category]) (Nat.le_of_ble_eq_true rfl) rfl (fun h0 => ?_)
  obtain ⟨hR, hi1, hi2, hi3, hi4, hi5, hi6, hi7⟩ := id hI
  obtain ⟨him, hgr, hco, hck⟩ := id hi1
  have e1 := isin_s c (S 11 0)
  have e2 := iun_s u
  refine m_aload_n d_m_free_0 rfl ?_
  refine m_iload_n d_m_free_1 rfl ?_
  refine m_callV d_m_free_2 q_m_free_123 s_m_isContainer v_m_isContainer rfl (t_m_isContainer hR (by assumption)) rfl rfl (Nat.le_of_ble_eq_true rfl) rfl rfl rfl ?_
  rintro _ _ _ ⟨rfl, rfl, rfl⟩
  refine m_istore_n d_m_free_5 (by decide) ?_
  refine m_aload_n d_m_free_6 rfl ?_
  refine m_iload_n d_m_free_7 rfl ?_
  refine m_if_ne (tgt := 15) d_m_free_8 (by decide) (by first | assumption | exact hR _ _ (by decide) | (unfold R32; omega)) (fun z8 => ?_) (fun z8 => ?_)
  · refine m_iload_n d_m_free_15 rfl ?_
    refine m_callS d_m_free_16 q_m_free_155 s_m_areUnits (t_m_areUnits g hu) rfl rfl (Nat.le_of_ble_eq_true rfl) rfl rfl rfl ?_
    rintro _ rfl
    refine m_if_ne (tgt := 26) d_m_free_19 (by decide) (by first | assumption | exact hR _ _ (by decide) | (unfold R32; omega)) (fun z19 => ?_) (fun z19 => ?_)
    · refine m_aload_n d_m_free_26 rfl ?_
      refine mg_60 d_m_free_27 rfl ?_
      refine m_iload_n d_m_free_30 rfl ?_
      refine m_ald 20 rfl (by decide) rfl d_m_free_31 (by omega) (by omega) ?_
      refine m_if_ne (tgt := 45) d_m_free_32 (by decide) (by first | assumption | exact hR _ _ (by decide) | (unfold R32; omega)) (fun z32 => ?_) (fun z32 => ?_)
      · refine m_iconst d_m_free_45 ?_
        refine m_goto (tgt := 50) d_m_free_46 (by decide) ?_
        refine m_callV d_m_free_50 q_m_free_109 s_m_holds v_m_holds rfl (t_m_holds ⟨by omega, by omega⟩) rfl rfl (Nat.le_of_ble_eq_true rfl) rfl rfl rfl ?_
        rintro _ _ _ ⟨rfl, rfl, rfl⟩
        refine m_if_ne (tgt := 58) d_m_free_53 (by decide) (by first | assumption | exact hR _ _ (by decide) | (unfold R32; omega)) (fun z53 => ?_) (fun z53 => ?_)
        · exact absurd z53 (by decide)
        · refine m_iconst d_m_free_56 ?_
          exact m_iret rfl d_m_free_57 (opQ.bad (by unfold cd_free; (repeat' split) <;> omega) (by decide))
      · refine m_aload_n d_m_free_35 rfl ?_
        refine mg_45 d_m_free_36 rfl ?_
        refine m_iload_n d_m_free_39 rfl ?_
        refine m_ald 25 rfl (by decide) rfl d_m_free_40 (by omega) (by omega) ?_
        refine m_iload_n d_m_free_41 rfl ?_
        refine m_icmp_ge (tgt := 49) d_m_free_42 (by decide) (by first | assumption | exact hR _ _ (by decide) | (unfold R32; omega)) (by first | assumption | exact hR _ _ (by decide) | (unfold R32; omega)) (fun z42 => ?_) (fun z42 => ?_)
        · refine m_iconst d_m_free_49 ?_
          refine m_callV d_m_free_50 q_m_free_109 s_m_holds v_m_holds rfl (t_m_holds ⟨by omega, by omega⟩) rfl rfl (Nat.le_of_ble_eq_true rfl) rfl rfl rfl ?_
          rintro _ _ _ ⟨rfl, rfl, rfl⟩
          refine m_if_ne (tgt := 58) d_m_free_53 (by decide) (by first | assumption | exact hR _ _ (by decide) | (unfold R32; omega)) (fun z53 => ?_) (fun z53 => ?_)
          · refine m_aload_n d_m_free_58 rfl ?_
            refine mg_45 d_m_free_59 rfl ?_
            refine m_iload_n d_m_free_62 rfl ?_
            refine m_dup2 d_m_free_63 rfl rfl ?_
            refine m_ald 25 rfl (by decide) rfl d_m_free_64 (by omega) (by omega) ?_
            refine m_iload_n d_m_free_65 rfl ?_
            refine m_isub d_m_free_66 ?_
            refine m_ast 25 rfl (by decide) rfl d_m_free_67 (by omega) (by omega) ?_
            refine m_aload_n d_m_free_68 rfl ?_
            refine mg_45 d_m_free_69 rfl ?_
            refine m_iload_n d_m_free_72 rfl ?_
            refine m_aldv 25 rfl (by decide) rfl (S 14 c - u) (sset_e S 14 c _) d_m_free_73 (by omega) (by omega) ?_
            exact m_iret rfl d_m_free_74 (opQ.good (by unfold cd_free; (repeat' split) <;> omega) (rfl) (rfl))
          · exact absurd z53 (by decide)
        · refine m_iconst d_m_free_45 ?_
          refine m_goto (tgt := 50) d_m_free_46 (by decide) ?_
          refine m_callV d_m_free_50 q_m_free_109 s_m_holds v_m_holds rfl (t_m_holds ⟨by omega, by omega⟩) rfl rfl (Nat.le_of_ble_eq_true rfl) rfl rfl rfl ?_
          rintro _ _ _ ⟨rfl, rfl, rfl⟩
          refine m_if_ne (tgt := 58) d_m_free_53 (by decide) (by first | assumption | exact hR _ _ (by decide) | (unfold R32; omega)) (fun z53 => ?_) (fun z53 => ?_)
          · exact absurd z53 (by decide)
          · refine m_iconst d_m_free_56 ?_
            exact m_iret rfl d_m_free_57 (opQ.bad (by unfold cd_free; (repeat' split) <;> omega) (by decide))
    · refine m_iconst d_m_free_22 ?_
      refine m_goto (tgt := 50) d_m_free_23 (by decide) ?_
      refine m_callV d_m_free_50 q_m_free_109 s_m_holds v_m_holds rfl (t_m_holds ⟨by omega, by omega⟩) rfl rfl (Nat.le_of_ble_eq_true rfl) rfl rfl rfl ?_
      rintro _ _ _ ⟨rfl, rfl, rfl⟩
      refine m_if_ne (tgt := 58) d_m_free_53 (by decide) (by first | assumption | exact hR _ _ (by decide) | (unfold R32; omega)) (fun z53 => ?_) (fun z53 => ?_)
      · exact absurd z53 (by decide)
      · refine m_iconst d_m_free_56 ?_
        exact m_iret rfl d_m_free_57 (opQ.bad (by unfold cd_free; (repeat' split) <;> omega) (by decide))
  · refine m_iconst d_m_free_11 ?_
    refine m_goto (tgt := 50) d_m_free_12 (by decide) ?_
    refine m_callV d_m_free_50 q_m_free_109 s_m_holds v_m_holds rfl (t_m_holds ⟨by omega, by omega⟩) rfl rfl (Nat.le_of_ble_eq_true rfl) rfl rfl rfl ?_
    rintro _ _ _ ⟨rfl, rfl, rfl⟩
    refine m_if_ne (tgt := 58) d_m_free_53 (by decide) (by first | assumption | exact hR _ _ (by decide) | (unfold R32; omega)) (fun z53 => ?_) (fun z53 => ?_)
    · exact absurd z53 (by decide)
    · refine m_iconst d_m_free_56 ?_
      exact m_iret rfl d_m_free_57 (opQ.bad (by unfold cd_free; (repeat' split) <;> omega) (by decide))
def cd_fork (S : gS) (c : Int) : Int := if ¬ (0 ≤ c ∧ c < S 11 0) then 1 else if S 19 c ≠ 0 ∨ tm S (S 20 c) 0 1 ≠ -1 then 2 else 0
def vl_fork (S : gS) (c : Int) : Int := S 15 c + 1
def st_fork (S : gS) (c : Int) : gS := sset S 15 c (S 15 c + 1)
theorem t_m_fork {g : xG} {x0 : Nat} {ad : Nat → Nat} {tt : Int} {S : gS} {c : Int} (hI : Inv S) (hc : R32 c) : mM g y_m_fork k_m_fork M_m_fork x0 ad [.int (iI c)] tt S (opQ S (cd_fork S c) (vl_fork S c) (st_fork S c)) := by
  refine mM.of rfl (by decide) rfl rfl rfl (by simp [Value.category]) (Nat.le_of_ble_eq_true rfl) rfl (fun h0 => ?_)
  obtain ⟨hR, hi1, hi2, hi3, hi4, hi5, hi6, hi7⟩ := id hI
  obtain ⟨him, hgr, hco, hck⟩ := id hi1
  have e1 := isin_s c (S 11 0)
  refine m_aload_n d_m_fork_0 rfl ?_
  refine m_iload_n d_m_fork_1 rfl ?_
  refine m_callV d_m_fork_2 q_m_fork_123 s_m_isContainer v_m_isContainer rfl (t_m_isContainer hR (by assumption)) rfl rfl (Nat.le_of_ble_eq_true rfl) rfl rfl rfl ?_
  rintro _ _ _ ⟨rfl, rfl, rfl⟩
  refine m_istore_n d_m_fork_5 (by decide) ?_
  refine m_aload_n d_m_fork_6 rfl ?_
  refine m_iload_n d_m_fork_7 rfl ?_
  refine m_if_ne (tgt := 15) d_m_fork_8 (by decide) (by first | assumption | exact hR _ _ (by decide) | (unfold R32; omega)) (fun z8 => ?_) (fun z8 => ?_)
  · refine m_aload_n d_m_fork_15 rfl ?_
    refine mg_60 d_m_fork_16 rfl ?_
    refine m_iload_n d_m_fork_19 rfl ?_
    refine m_ald 20 rfl (by decide) rfl d_m_fork_20 (by omega) (by omega) ?_
    refine m_if_ne (tgt := 40) d_m_fork_21 (by decide) (by first | assumption | exact hR _ _ (by decide) | (unfold R32; omega)) (fun z21 => ?_) (fun z21 => ?_)
    · refine m_iconst d_m_fork_40 ?_
      refine m_goto (tgt := 45) d_m_fork_41 (by decide) ?_
      refine m_callV d_m_fork_45 q_m_fork_109 s_m_holds v_m_holds rfl (t_m_holds ⟨by omega, by omega⟩) rfl rfl (Nat.le_of_ble_eq_true rfl) rfl rfl rfl ?_
      rintro _ _ _ ⟨rfl, rfl, rfl⟩
      refine m_if_ne (tgt := 53) d_m_fork_48 (by decide) (by first | assumption | exact hR _ _ (by decide) | (unfold R32; omega)) (fun z48 => ?_) (fun z48 => ?_)
      · exact absurd z48 (by decide)
      · refine m_iconst d_m_fork_51 ?_
        exact m_iret rfl d_m_fork_52 (opQ.bad (by unfold cd_fork; (repeat' split) <;> omega) (by decide))
    · have e4 := hi4 c (by omega) (by omega)
      refine m_aload_n d_m_fork_24 rfl ?_
      refine m_aload_n d_m_fork_25 rfl ?_
      refine mg_63 d_m_fork_26 rfl ?_
      refine m_iload_n d_m_fork_29 rfl ?_
      refine m_ald 20 rfl (by decide) rfl d_m_fork_30 (by omega) (by omega) ?_
      refine m_iconst d_m_fork_31 ?_
      refine m_iconst d_m_fork_32 ?_
      refine m_callV d_m_fork_33 q_m_fork_142 s_m_tooMuch v_m_tooMuch rfl (t_m_tooMuch hI (by omega) (by omega) (by omega) (by omega) (by omega) (by omega)) rfl rfl (Nat.le_of_ble_eq_true rfl) rfl rfl rfl ?_
      rintro _ _ _ ⟨rfl, rfl, rfl⟩
      have e6 := tm_r hi2 hi1 0 1 (k := S 20 c) (by omega) (by omega)
      refine m_iconst d_m_fork_36 ?_
      refine m_icmp_eq (tgt := 44) d_m_fork_37 (by decide) (by first | assumption | exact hR _ _ (by decide) | (unfold R32; omega)) (by first | assumption | exact hR _ _ (by decide) | (unfold R32; omega)) (fun z37 => ?_) (fun z37 => ?_)
      · refine m_iconst d_m_fork_44 ?_
        refine m_callV d_m_fork_45 q_m_fork_109 s_m_holds v_m_holds rfl (t_m_holds ⟨by omega, by omega⟩) rfl rfl (Nat.le_of_ble_eq_true rfl) rfl rfl rfl ?_
        rintro _ _ _ ⟨rfl, rfl, rfl⟩
        refine m_if_ne (tgt := 53) d_m_fork_48 (by decide) (by first | assumption | exact hR _ _ (by decide) | (unfold R32; omega)) (fun z48 => ?_) (fun z48 => ?_)
        · refine m_aload_n d_m_fork_53 rfl ?_
          refine mg_48 d_m_fork_54 rfl ?_
          refine m_iload_n d_m_fork_57 rfl ?_
          refine m_dup2 d_m_fork_58 rfl rfl ?_
          refine m_ald 25 rfl (by decide) rfl d_m_fork_59 (by omega) (by omega) ?_
          refine m_iconst d_m_fork_60 ?_
          refine m_iadd d_m_fork_61 ?_
          refine m_ast 25 rfl (by decide) rfl d_m_fork_62 (by omega) (by omega) ?_
          refine m_aload_n d_m_fork_63 rfl ?_
          refine mg_48 d_m_fork_64 rfl ?_
          refine m_iload_n d_m_fork_67 rfl ?_
          refine m_aldv 25 rfl (by decide) rfl (S 15 c + 1) (sset_e S 15 c _) d_m_fork_68 (by omega) (by omega) ?_
          exact m_iret rfl d_m_fork_69 (opQ.good (by unfold cd_fork; (repeat' split) <;> omega) (rfl) (rfl))
        · exact absurd z48 (by decide)
      · refine m_iconst d_m_fork_40 ?_
        refine m_goto (tgt := 45) d_m_fork_41 (by decide) ?_
        refine m_callV d_m_fork_45 q_m_fork_109 s_m_holds v_m_holds rfl (t_m_holds ⟨by omega, by omega⟩) rfl rfl (Nat.le_of_ble_eq_true rfl) rfl rfl rfl ?_
        rintro _ _ _ ⟨rfl, rfl, rfl⟩
        refine m_if_ne (tgt := 53) d_m_fork_48 (by decide) (by first | assumption | exact hR _ _ (by decide) | (unfold R32; omega)) (fun z48 => ?_) (fun z48 => ?_)
        · exact absurd z48 (by decide)
        · refine m_iconst d_m_fork_51 ?_
          exact m_iret rfl d_m_fork_52 (opQ.bad (by unfold cd_fork; (repeat' split) <;> omega) (by decide))
  · refine m_iconst d_m_fork_11 ?_
    refine m_goto (tgt := 45) d_m_fork_12 (by decide) ?_
    refine m_callV d_m_fork_45 q_m_fork_109 s_m_holds v_m_holds rfl (t_m_holds ⟨by omega, by omega⟩) rfl rfl (Nat.le_of_ble_eq_true rfl) rfl rfl rfl ?_
    rintro _ _ _ ⟨rfl, rfl, rfl⟩
    refine m_if_ne (tgt := 53) d_m_fork_48 (by decide) (by first | assumption | exact hR _ _ (by decide) | (unfold R32; omega)) (fun z48 => ?_) (fun z48 => ?_)
    · exact absurd z48 (by decide)
    · refine m_iconst d_m_fork_51 ?_
      exact m_iret rfl d_m_fork_52 (opQ.bad (by unfold cd_fork; (repeat' split) <;> omega) (by decide))
def cd_exit (S : gS) (c : Int) : Int := ist S c 0
def vl_exit (S : gS) (c : Int) : Int := S 15 c - 1
def st_exit (S : gS) (c : Int) : gS := if S 15 c - 1 = 0 then stp (sset S 15 c (S 15 c - 1)) c else sset S 15 c (S 15 c - 1)
theorem t_m_exit {g : xG} {x0 : Nat} {ad : Nat → Nat} {tt : Int} {S : gS} {c : Int} (hI : Inv S) (hc : R32 c) : mM g y_m_exit k_m_exit M_m_exit x0 ad [.int (iI c)] tt S (opQ S (cd_exit S c) (vl_exit S c) (st_exit S c)) := by
  refine mM.of rfl (by decide) rfl rfl rfl (by simp [Value.category]) (Nat.le_of_ble_eq_true rfl) rfl (fun h0 => ?_)
  obtain ⟨hR, hi1, hi2, hi3, hi4, hi5, hi6, hi7⟩ := id hI
  obtain ⟨him, hgr, hco, hck⟩ := id hi1
  have e1 := its_s S c 0
  refine m_aload_n d_m_exit_0 rfl ?_
  refine m_iload_n d_m_exit_1 rfl ?_
  refine m_iconst d_m_exit_2 ?_
  refine m_callV d_m_exit_3 q_m_exit_149 s_m_isThere v_m_isThere rfl (t_m_isThere hI hc (s := 0) ⟨by omega, by omega⟩) rfl rfl (Nat.le_of_ble_eq_true rfl) rfl rfl rfl ?_
  rintro _ _ _ ⟨rfl, rfl, rfl⟩
  refine m_if_ne (tgt := 11) d_m_exit_6 (by decide) (by first | assumption | exact hR _ _ (by decide) | (unfold R32; omega)) (fun z6 => ?_) (fun z6 => ?_)
  · have e4 := hi3 c (Or.inl (by omega))
    refine m_aload_n d_m_exit_11 rfl ?_
    refine mg_48 d_m_exit_12 rfl ?_
    refine m_iload_n d_m_exit_15 rfl ?_
    refine m_dup2 d_m_exit_16 rfl rfl ?_
    refine m_ald 25 rfl (by decide) rfl d_m_exit_17 (by omega) (by omega) ?_
    refine m_iconst d_m_exit_18 ?_
    refine m_isub d_m_exit_19 ?_
    refine m_ast 25 rfl (by decide) rfl d_m_exit_20 (by omega) (by omega) ?_
    refine m_aload_n d_m_exit_21 rfl ?_
    refine mg_48 d_m_exit_22 rfl ?_
    refine m_iload_n d_m_exit_25 rfl ?_
    refine m_aldv 25 rfl (by decide) rfl (S 15 c - 1) (sset_e S 15 c _) d_m_exit_26 (by omega) (by omega) ?_
    refine m_if_ne (tgt := 36) d_m_exit_27 (by decide) (by first | assumption | exact hR _ _ (by decide) | (unfold R32; omega)) (fun z27 => ?_) (fun z27 => ?_)
    · refine m_aload_n d_m_exit_36 rfl ?_
      refine mg_48 d_m_exit_37 rfl ?_
      refine m_iload_n d_m_exit_40 rfl ?_
      first
        | refine m_aldv 25 rfl (by decide) rfl (S 15 c - 1) (sset_e S 15 c _) d_m_exit_41 (by omega) (by omega) ?_
        | refine m_aldv 25 rfl (by decide) rfl 0 (stp_15 _ _) d_m_exit_41 (by omega) (by omega) ?_
      exact m_iret rfl d_m_exit_42 (opQ.good2 rfl (by unfold cd_exit; omega) (by unfold vl_exit; omega) (by unfold st_exit; first | rw [if_pos (by omega)] | rw [if_neg (by omega)]))
    · refine m_aload_n d_m_exit_30 rfl ?_
      refine m_iload_n d_m_exit_31 rfl ?_
      refine m_callV d_m_exit_32 q_m_exit_152 s_m_stops v_m_stops rfl (t_m_stops (hR.set (fun _ => (by unfold R32; omega))) (by omega) (by omega)) rfl rfl (Nat.le_of_ble_eq_true rfl) rfl rfl rfl ?_
      rintro _ _ _ ⟨rfl, rfl, rfl⟩
      refine m_istore_n d_m_exit_35 (by decide) ?_
      refine m_aload_n d_m_exit_36 rfl ?_
      refine mg_48 d_m_exit_37 rfl ?_
      refine m_iload_n d_m_exit_40 rfl ?_
      first
        | refine m_aldv 25 rfl (by decide) rfl (S 15 c - 1) (sset_e S 15 c _) d_m_exit_41 (by omega) (by omega) ?_
        | refine m_aldv 25 rfl (by decide) rfl 0 (stp_15 _ _) d_m_exit_41 (by omega) (by omega) ?_
      exact m_iret rfl d_m_exit_42 (opQ.good2 rfl (by unfold cd_exit; omega) (by unfold vl_exit; omega) (by unfold st_exit; first | rw [if_pos (by omega)] | rw [if_neg (by omega)]))
  · refine m_iconst d_m_exit_9 ?_
    exact m_iret rfl d_m_exit_10 (opQ.bad rfl (by omega))
