theorem L_m_isPart {g : xG} {x0 : Nat} {ad : Nat → Nat} {h0 : hp} {tt : Int} {S : gS} {p w r : Int} (hI : Inv S) (hp : 0 ≤ p) (hp2 : p < 8) (hw : 0 ≤ w) (hw2 : w < 8) (hr : isp S p w = r) : ∀ (f9 n : Nat), (n : Int) ≤ S 11 0 → S 11 0 < n + f9 → mW g M_m_isPart x0 ad h0 (fun v t9 S9 => v = some (.int (iI (r))) ∧ tt = t9 ∧ S = S9) tt S 53 [some (.ref x0), some (.int (iI p)), some (.int (iI w)), some (.int (iI (runN S p n))), some (.int (iI (n : Int)))] [] := by
  intro f9
  induction f9 with
  | zero => intros; omega
  | succ f9 ih =>
    intro n h1 h2
    obtain ⟨hR, hi1, hi2, hi3, hi4, -⟩ := id hI
    obtain ⟨him, hgr, hco, -⟩ := id hi1
    refine m_iload d_m_isPart_53 rfl ?_
    refine m_aload_n d_m_isPart_55 rfl ?_
    refine mg_94 d_m_isPart_56 rfl ?_
    refine m_icmp_ge (tgt := 103) d_m_isPart_59 (by decide) (by first | assumption | exact hR _ _ (by decide) | (unfold R32; omega)) (by first | assumption | exact hR _ _ (by decide) | (unfold R32; omega)) (fun z59 => ?_) (fun z59 => ?_)
    · have h01 := runN_01 S p n
      have hrn : run1 S p = runN S p n := by unfold run1; rw [show (S 11 0).toNat = n by omega]
      unfold isp at hr
      rw [if_neg (by omega), hrn] at hr
      refine m_iload_n d_m_isPart_103 rfl ?_
      refine m_aload_n d_m_isPart_104 rfl ?_
      refine mg_23 d_m_isPart_105 rfl ?_
      refine m_icmp_ge (tgt := 129) d_m_isPart_108 (by decide) (by first | assumption | exact hR _ _ (by decide) | (unfold R32; omega)) (by first | assumption | exact hR _ _ (by decide) | (unfold R32; omega)) (fun z108 => ?_) (fun z108 => ?_)
      · refine m_iconst d_m_isPart_129 ?_
        exact m_zret rfl d_m_isPart_130 (by omega) (⟨congrArg (fun z => some (Value.int (iI z))) (by rw [← hr]; first | rw [if_pos (by omega)] | rw [if_neg (by omega)]), rfl, rfl⟩)
      · refine m_aload_n d_m_isPart_111 rfl ?_
        refine mg_27 d_m_isPart_112 rfl ?_
        refine m_iload_n d_m_isPart_115 rfl ?_
        refine m_ald 8 rfl (by decide) rfl d_m_isPart_116 (by omega) (by omega) ?_
        refine m_iload_n d_m_isPart_117 rfl ?_
        refine m_icmp_ne (tgt := 129) d_m_isPart_118 (by decide) (by first | assumption | exact hR _ _ (by decide) | (unfold R32; omega)) (by first | assumption | exact hR _ _ (by decide) | (unfold R32; omega)) (fun z118 => ?_) (fun z118 => ?_)
        · refine m_iconst d_m_isPart_129 ?_
          exact m_zret rfl d_m_isPart_130 (by omega) (⟨congrArg (fun z => some (Value.int (iI z))) (by rw [← hr]; first | rw [if_pos (by omega)] | rw [if_neg (by omega)]), rfl, rfl⟩)
        · refine m_iload_n d_m_isPart_121 rfl ?_
          refine m_if_eq (tgt := 129) d_m_isPart_122 (by decide) (by first | assumption | exact hR _ _ (by decide) | (unfold R32; omega)) (fun z122 => ?_) (fun z122 => ?_)
          · refine m_iconst d_m_isPart_129 ?_
            exact m_zret rfl d_m_isPart_130 (by omega) (⟨congrArg (fun z => some (Value.int (iI z))) (by rw [← hr]; first | rw [if_pos (by omega)] | rw [if_neg (by omega)]), rfl, rfl⟩)
          · refine m_iconst d_m_isPart_125 ?_
            refine m_goto (tgt := 130) d_m_isPart_126 (by decide) ?_
            exact m_zret rfl d_m_isPart_130 (by omega) (⟨congrArg (fun z => some (Value.int (iI z))) (by rw [← hr]; first | rw [if_pos (by omega)] | rw [if_neg (by omega)]), rfl, rfl⟩)
    · have hc := hi4 n (by omega) (by omega)
      have h01 := runN_01 S p n
      refine m_iload_n d_m_isPart_62 rfl ?_
      refine m_if_ne (tgt := 91) d_m_isPart_63 (by decide) (by first | assumption | exact hR _ _ (by decide) | (unfold R32; omega)) (fun z63 => ?_) (fun z63 => ?_)
      · refine m_iconst d_m_isPart_91 ?_
        refine m_goto (tgt := 96) d_m_isPart_92 (by decide) ?_
        refine m_istore_n d_m_isPart_96 (by decide) ?_
        refine m_iinc d_m_isPart_97 rfl (by decide) ?_
        refine m_goto (tgt := 53) d_m_isPart_100 (by decide) ?_
        have hs9 : runN S p (n + 1) = (if runN S p n = 1 ∨ (S 19 n = 0 ∧ bel S (S 20 n) p = 1) then 1 else 0) := rfl
        first
          | (rw [if_pos (by omega)] at hs9; have := ih (n + 1) (by omega) (by omega); rw [hs9, show ((n + 1 : Nat) : Int) = (n : Int) + 1 by omega] at this; exact this)
          | (rw [if_neg (by omega)] at hs9; have := ih (n + 1) (by omega) (by omega); rw [hs9, show ((n + 1 : Nat) : Int) = (n : Int) + 1 by omega] at this; exact this)
      · refine m_aload_n d_m_isPart_66 rfl ?_
        refine mg_60 d_m_isPart_67 rfl ?_
        refine m_iload d_m_isPart_70 rfl ?_
        refine m_ald 20 rfl (by decide) rfl d_m_isPart_72 (by omega) (by omega) ?_
        refine m_if_ne (tgt := 95) d_m_isPart_73 (by decide) (by first | assumption | exact hR _ _ (by decide) | (unfold R32; omega)) (fun z73 => ?_) (fun z73 => ?_)
        · refine m_iconst d_m_isPart_95 ?_
          refine m_istore_n d_m_isPart_96 (by decide) ?_
          refine m_iinc d_m_isPart_97 rfl (by decide) ?_
          refine m_goto (tgt := 53) d_m_isPart_100 (by decide) ?_
          have hs9 : runN S p (n + 1) = (if runN S p n = 1 ∨ (S 19 n = 0 ∧ bel S (S 20 n) p = 1) then 1 else 0) := rfl
          first
            | (rw [if_pos (by omega)] at hs9; have := ih (n + 1) (by omega) (by omega); rw [hs9, show ((n + 1 : Nat) : Int) = (n : Int) + 1 by omega] at this; exact this)
            | (rw [if_neg (by omega)] at hs9; have := ih (n + 1) (by omega) (by omega); rw [hs9, show ((n + 1 : Nat) : Int) = (n : Int) + 1 by omega] at this; exact this)
        · refine m_aload_n d_m_isPart_76 rfl ?_
          refine m_aload_n d_m_isPart_77 rfl ?_
          refine mg_63 d_m_isPart_78 rfl ?_
          refine m_iload d_m_isPart_81 rfl ?_
          refine m_ald 20 rfl (by decide) rfl d_m_isPart_83 (by omega) (by omega) ?_
          refine m_iload_n d_m_isPart_84 rfl ?_
          refine m_callV d_m_isPart_85 q_m_isPart_130 s_m_isBelow v_m_isBelow rfl (t_m_isBelow hI (by omega) (by omega) (by omega) (by unfold R32; omega)) rfl rfl (Nat.le_of_ble_eq_true rfl) rfl rfl rfl ?_
          rintro _ _ _ ⟨rfl, rfl, rfl⟩
          have hb := bel_01 S (S 20 n) p
          refine m_if_eq (tgt := 95) d_m_isPart_88 (by decide) (by first | assumption | exact hR _ _ (by decide) | (unfold R32; omega)) (fun z88 => ?_) (fun z88 => ?_)
          · refine m_iconst d_m_isPart_95 ?_
            refine m_istore_n d_m_isPart_96 (by decide) ?_
            refine m_iinc d_m_isPart_97 rfl (by decide) ?_
            refine m_goto (tgt := 53) d_m_isPart_100 (by decide) ?_
            have hs9 : runN S p (n + 1) = (if runN S p n = 1 ∨ (S 19 n = 0 ∧ bel S (S 20 n) p = 1) then 1 else 0) := rfl
            first
              | (rw [if_pos (by omega)] at hs9; have := ih (n + 1) (by omega) (by omega); rw [hs9, show ((n + 1 : Nat) : Int) = (n : Int) + 1 by omega] at this; exact this)
              | (rw [if_neg (by omega)] at hs9; have := ih (n + 1) (by omega) (by omega); rw [hs9, show ((n + 1 : Nat) : Int) = (n : Int) + 1 by omega] at this; exact this)
          · refine m_iconst d_m_isPart_91 ?_
            refine m_goto (tgt := 96) d_m_isPart_92 (by decide) ?_
            refine m_istore_n d_m_isPart_96 (by decide) ?_
            refine m_iinc d_m_isPart_97 rfl (by decide) ?_
            refine m_goto (tgt := 53) d_m_isPart_100 (by decide) ?_
            have hs9 : runN S p (n + 1) = (if runN S p n = 1 ∨ (S 19 n = 0 ∧ bel S (S 20 n) p = 1) then 1 else 0) := rfl
            first
              | (rw [if_pos (by omega)] at hs9; have := ih (n + 1) (by omega) (by omega); rw [hs9, show ((n + 1 : Nat) : Int) = (n : Int) + 1 by omega] at this; exact this)
              | (rw [if_neg (by omega)] at hs9; have := ih (n + 1) (by omega) (by omega); rw [hs9, show ((n + 1 : Nat) : Int) = (n : Int) + 1 by omega] at this; exact this)
theorem t_m_isPart {g : xG} {x0 : Nat} {ad : Nat → Nat} {tt : Int} {S : gS} {p w r : Int} (hI : Inv S) (hp : 0 ≤ p) (hp2 : p < 28) (hw : 0 ≤ w) (hw2 : w < 8) (hr : isp S p w = r) : mM g y_m_isPart k_m_isPart M_m_isPart x0 ad [.int (iI p), .int (iI w)] tt S (fun v t9 S9 => v = some (.int (iI (r))) ∧ tt = t9 ∧ S = S9) := by
  refine mM.of rfl (by decide) rfl rfl rfl (by simp [Value.category]) (Nat.le_of_ble_eq_true rfl) rfl (fun h0 => ?_)
  obtain ⟨hR, hi1, hi2, hi3, hi4, hi5, hi6, hi7⟩ := id hI
  obtain ⟨him, hgr, hco, hck⟩ := id hi1
  refine m_iload_n d_m_isPart_0 rfl ?_
  refine m_bipush d_m_isPart_1 (by decide) ?_
  refine m_icmp_lt (tgt := 48) d_m_isPart_3 (by decide) (by first | assumption | exact hR _ _ (by decide) | (unfold R32; omega)) (by first | assumption | exact hR _ _ (by decide) | (unfold R32; omega)) (fun z3 => ?_) (fun z3 => ?_)
  · refine m_iconst d_m_isPart_48 ?_
    refine m_istore_n d_m_isPart_49 (by decide) ?_
    refine m_iconst d_m_isPart_50 ?_
    refine m_istore d_m_isPart_51 (by decide) ?_
    exact L_m_isPart hI hp z3 hw hw2 hr ((S 11 0).toNat + 1) 0 (by omega) (by omega)
  · refine m_iload_n d_m_isPart_6 rfl ?_
    refine m_bipush d_m_isPart_7 (by decide) ?_
    refine m_isub d_m_isPart_9 ?_
    refine m_aload_n d_m_isPart_10 rfl ?_
    refine mg_94 d_m_isPart_11 rfl ?_
    refine m_icmp_ge (tgt := 46) d_m_isPart_14 (by decide) (by first | assumption | exact hR _ _ (by decide) | (unfold R32; omega)) (by first | assumption | exact hR _ _ (by decide) | (unfold R32; omega)) (fun z14 => ?_) (fun z14 => ?_)
    · refine m_iconst d_m_isPart_46 ?_
      exact m_zret rfl d_m_isPart_47 (by omega) (⟨congrArg (fun z => some (Value.int (iI z))) (by rw [← hr]; unfold isp; rw [if_pos (by omega)]; first | rw [if_pos (by omega)] | rw [if_neg (by omega)]), rfl, rfl⟩)
    · refine m_aload_n d_m_isPart_17 rfl ?_
      refine mg_60 d_m_isPart_18 rfl ?_
      refine m_iload_n d_m_isPart_21 rfl ?_
      refine m_bipush d_m_isPart_22 (by decide) ?_
      refine m_isub d_m_isPart_24 ?_
      refine m_ald 20 rfl (by decide) rfl d_m_isPart_25 (by omega) (by omega) ?_
      refine m_if_ne (tgt := 46) d_m_isPart_26 (by decide) (by first | assumption | exact hR _ _ (by decide) | (unfold R32; omega)) (fun z26 => ?_) (fun z26 => ?_)
      · refine m_iconst d_m_isPart_46 ?_
        exact m_zret rfl d_m_isPart_47 (by omega) (⟨congrArg (fun z => some (Value.int (iI z))) (by rw [← hr]; unfold isp; rw [if_pos (by omega)]; first | rw [if_pos (by omega)] | rw [if_neg (by omega)]), rfl, rfl⟩)
      · refine m_aload_n d_m_isPart_29 rfl ?_
        refine mg_63 d_m_isPart_30 rfl ?_
        refine m_iload_n d_m_isPart_33 rfl ?_
        refine m_bipush d_m_isPart_34 (by decide) ?_
        refine m_isub d_m_isPart_36 ?_
        refine m_ald 20 rfl (by decide) rfl d_m_isPart_37 (by omega) (by omega) ?_
        refine m_iload_n d_m_isPart_38 rfl ?_
        refine m_icmp_ne (tgt := 46) d_m_isPart_39 (by decide) (by first | assumption | exact hR _ _ (by decide) | (unfold R32; omega)) (by first | assumption | exact hR _ _ (by decide) | (unfold R32; omega)) (fun z39 => ?_) (fun z39 => ?_)
        · refine m_iconst d_m_isPart_46 ?_
          exact m_zret rfl d_m_isPart_47 (by omega) (⟨congrArg (fun z => some (Value.int (iI z))) (by rw [← hr]; unfold isp; rw [if_pos (by omega)]; first | rw [if_pos (by omega)] | rw [if_neg (by omega)]), rfl, rfl⟩)
        · refine m_iconst d_m_isPart_42 ?_
          refine m_goto (tgt := 47) d_m_isPart_43 (by decide) ?_
          exact m_zret rfl d_m_isPart_47 (by omega) (⟨congrArg (fun z => some (Value.int (iI z))) (by rw [← hr]; unfold isp; rw [if_pos (by omega)]; first | rw [if_pos (by omega)] | rw [if_neg (by omega)]), rfl, rfl⟩)
theorem t_m_sharesOfPart {g : xG} {x0 : Nat} {ad : Nat → Nat} {tt : Int} {S : gS} {p r : Int} (hp : 0 ≤ p) (hp2 : p < 28) (hr : shp S p = r) : mM g y_m_sharesOfPart k_m_sharesOfPart M_m_sharesOfPart x0 ad [.int (iI p)] tt S (fun v t9 S9 => v = some (.int (iI (r))) ∧ tt = t9 ∧ S = S9) := by
  refine mM.of rfl (by decide) rfl rfl rfl (by simp [Value.category]) (Nat.le_of_ble_eq_true rfl) rfl (fun h0 => ?_)
  refine m_iload_n d_m_sharesOfPart_0 rfl ?_
  refine m_bipush d_m_sharesOfPart_1 (by decide) ?_
  refine m_icmp_ge (tgt := 15) d_m_sharesOfPart_3 (by decide) (by unfold R32; omega) (by unfold R32; omega) (fun z3 => ?_) (fun z3 => ?_)
  · refine m_aload_n d_m_sharesOfPart_15 rfl ?_
    refine mg_42 d_m_sharesOfPart_16 rfl ?_
    refine m_iload_n d_m_sharesOfPart_19 rfl ?_
    refine m_bipush d_m_sharesOfPart_20 (by decide) ?_
    refine m_isub d_m_sharesOfPart_22 ?_
    refine m_ald 25 rfl (by decide) rfl d_m_sharesOfPart_23 (by omega) (by omega) ?_
    exact m_iret rfl d_m_sharesOfPart_24 (⟨congrArg (fun z => some (Value.int (iI z))) (by rw [← hr]; unfold shp; first | rw [if_pos (by omega)] | rw [if_neg (by omega)]), rfl, rfl⟩)
  · refine m_aload_n d_m_sharesOfPart_6 rfl ?_
    refine mg_36 d_m_sharesOfPart_7 rfl ?_
    refine m_iload_n d_m_sharesOfPart_10 rfl ?_
    refine m_ald 8 rfl (by decide) rfl d_m_sharesOfPart_11 (by omega) (by omega) ?_
    refine m_goto (tgt := 24) d_m_sharesOfPart_12 (by decide) ?_
    exact m_iret rfl d_m_sharesOfPart_24 (⟨congrArg (fun z => some (Value.int (iI z))) (by rw [← hr]; unfold shp; first | rw [if_pos (by omega)] | rw [if_neg (by omega)]), rfl, rfl⟩)
theorem t_m_gives {g : xG} {x0 : Nat} {ad : Nat → Nat} {tt : Int} {S : gS} {p u : Int} (hp : 0 ≤ p) (hp2 : p < 28) : mM g y_m_gives k_m_gives M_m_gives x0 ad [.int (iI p), .int (iI u)] tt S (fun v t9 S9 => v = none ∧ tt = t9 ∧ giv S p u = S9) := by
  refine mM.of rfl (by decide) rfl rfl rfl (by simp [Value.category]) (Nat.le_of_ble_eq_true rfl) rfl (fun h0 => ?_)
  refine m_iload_n d_m_gives_0 rfl ?_
  refine m_bipush d_m_gives_1 (by decide) ?_
  refine m_icmp_ge (tgt := 19) d_m_gives_3 (by decide) (by unfold R32; omega) (by unfold R32; omega) (fun z3 => ?_) (fun z3 => ?_)
  · refine m_aload_n d_m_gives_19 rfl ?_
    refine mg_69 d_m_gives_20 rfl ?_
    refine m_iload_n d_m_gives_23 rfl ?_
    refine m_bipush d_m_gives_24 (by decide) ?_
    refine m_isub d_m_gives_26 ?_
    refine m_dup2 d_m_gives_27 rfl rfl ?_
    refine m_ald 20 rfl (by decide) rfl d_m_gives_28 (by omega) (by omega) ?_
    refine m_iload_n d_m_gives_29 rfl ?_
    refine m_iadd d_m_gives_30 ?_
    refine m_ast 20 rfl (by decide) rfl d_m_gives_31 (by omega) (by omega) ?_
    exact m_vret rfl d_m_gives_32 (⟨rfl, rfl, by unfold giv; first | rw [if_pos (by omega)] | rw [if_neg (by omega)]⟩)
  · refine m_aload_n d_m_gives_6 rfl ?_
    refine mg_78 d_m_gives_7 rfl ?_
    refine m_iload_n d_m_gives_10 rfl ?_
    refine m_dup2 d_m_gives_11 rfl rfl ?_
    refine m_ald 8 rfl (by decide) rfl d_m_gives_12 (by omega) (by omega) ?_
    refine m_iload_n d_m_gives_13 rfl ?_
    refine m_iadd d_m_gives_14 ?_
    refine m_ast 8 rfl (by decide) rfl d_m_gives_15 (by omega) (by omega) ?_
    refine m_goto (tgt := 32) d_m_gives_16 (by decide) ?_
    exact m_vret rfl d_m_gives_32 (⟨rfl, rfl, by unfold giv; first | rw [if_pos (by omega)] | rw [if_neg (by omega)]⟩)
def gxN (r : Int → Int) : Nat → Int
  | 0 => 0
  | m + 1 => gxN r m + if pk r m < 8 then 0 else 1
def sox (S : gS) (g : Int) : gS := s4 (s2 S g 28) (lef S g).toNat
def gso (S : gS) (g : Int) : Int := gi2 S g 28 + gxN (s2 S g 28 27) (lef S g).toNat
/-- rows of time are bounded while they are shared out -/
def tB (T : gS) : Prop := ∀ j, 0 ≤ j → j < 8 → 0 ≤ T 26 j ∧ T 26 j ≤ 10000
theorem si2_le {S : gS} (hI : Inv S) {g : Int} (hg : 0 ≤ g) (hu : 0 ≤ S 26 g) (n : Nat) (hn : n ≤ 28) : 0 ≤ si2 S g n ∧ si2 S g n ≤ 10000 * n ∨ S 26 g > 10000 := by
  by_cases q : S 26 g > 10000
  · exact Or.inr q
  · left
    induction n with
    | zero => unfold si2; omega
    | succ n ih =>
      have h := ih (by omega)
      unfold si2
      split
      · rename_i q2
        have := its_b hI hg (p := n) (by omega) (by omega) q2 hu
        omega
      · omega
theorem s2_R {S : gS} (hI : Inv S) (hB : tB S) {g : Int} (hg : 0 ≤ g) (hg8 : g < 8) {n : Int} (hn : n ≤ 28) : hRp (s2 S g n) := by
  intro k j hk
  have hR := hI.1 k j hk
  have hu := hB g hg hg8
  unfold s2
  split
  · rename_i q
    have hj := hB j q.2.1 q.2.2.1
    have := its_b hI hg (p := j) q.2.1 (by omega) q.2.2.2.2 hu.1
    unfold R32; omega
  · split
    · rename_i q; exact absurd q.1 hk
    · split
      · rename_i q
        unfold r0
        split
        · rename_i q2
          have := its_b hI hg q.2.1 (by omega) q2 hu.1
          have := shA_b hI hg 28
          unfold R32; omega
        · unfold R32; omega
      · exact hR
