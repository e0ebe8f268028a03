def ancN (S : gS) : Nat → Int → Int
  | 0, k => k
  | n + 1, k => ancN S n (S 4 k)
def enC (S : gS) (a : Int) : Nat → Int
  | 0 => 0
  | n + 1 => enC S a n + if S 1 (32 * a + n) = 0 then 0 else 1
def enO (S : gS) (a : Int) : Nat → Int
  | 0 => 0
  | n + 1 => enO S a n + bit (S 2 a) n
def cd_entries (S : gS) (i l : Int) : Int := if 0 ≤ i ∧ i < S 3 0 ∧ 0 ≤ l ∧ l < lay S i then 0 else 1
def enA (S : gS) (i l : Int) : Int := ancN S (lay S i - 1 - l).toNat i
def vl_entries (S : gS) (i l : Int) : Int := enC S (enA S i l) 32 + enO S (enA S i l) 8
def st_entries (S : gS) (_ _ : Int) : gS := S
theorem L3_m_entries {g : xG} {x0 : Nat} {ad : Nat → Nat} {h0 : hp} {tt : Int} {S : gS} {i l a : Int} {u3 : Option Value} (hI : Inv S) (hcd : cd_entries S i l = 0) (ha0 : 0 ≤ a) (ha9 : a < S 3 0) (haE : a = enA S i l) : ∀ (f9 n : Nat), n ≤ 8 → 8 < n + f9 → mW g M_m_entries x0 ad h0 (opQ S (cd_entries S i l) (vl_entries S i l) (st_entries S i l)) 0 S 117 (some (.ref x0) :: some (.int (iI i)) :: some (.int (iI l)) :: u3 :: some (.int (iI a)) :: some (.int (iI (enC S a 32 + enO S a n))) :: some (.int (iI (n : Int))) :: []) [] := by
  intro f9
  induction f9 with
  | zero => intros; omega
  | succ f9 ih =>
    intro n h1 h2
    obtain ⟨hR, ⟨him, -⟩, hi2, -, -, -, hi6, -⟩ := id hI
    have ho := hi6.2.1 a
    refine m_iload d_m_entries_117 rfl ?_
    refine m_bipush d_m_entries_119 (by decide) ?_
    refine m_icmp_ge (tgt := 147) d_m_entries_121 (by decide) (by unfold R32; omega) (by unfold R32; omega) (fun z121 => ?_) (fun z121 => ?_)
    · refine m_iload d_m_entries_147 rfl ?_
      exact m_iret rfl d_m_entries_149 (opQ.good hcd (by rw [show n = 8 by omega, haE]; rfl) rfl)
    · refine m_iload d_m_entries_124 rfl ?_
      refine m_aload_n d_m_entries_126 rfl ?_
      refine mg_13 d_m_entries_127 rfl ?_
      refine m_iload d_m_entries_130 rfl ?_
      refine m_ald 35 rfl (by decide) rfl d_m_entries_132 (by omega) (by omega) ?_
      refine m_iload d_m_entries_133 rfl ?_
      refine m_ishrI d_m_entries_135 (by omega) (by omega) (by omega) (by omega) ?_
      refine m_iconst d_m_entries_136 ?_
      refine m_iand1 d_m_entries_137 (Int.ediv_nonneg (by omega) (Int.le_of_lt (Int.pow_pos (by omega)))) ?_
      refine m_iadd d_m_entries_138 ?_
      refine m_istore d_m_entries_139 (by decide) ?_
      refine m_iinc d_m_entries_141 rfl (by decide) ?_
      refine m_goto (tgt := 117) d_m_entries_144 (by decide) ?_
      have hs9 : enO S a (n + 1) = enO S a n + bit (S 2 a) n := rfl
      rw [show enC S a 32 + enO S a n + _ = enC S a 32 + enO S a (n + 1) from (by rw [hs9, ← Int.add_assoc]; rfl), show (n : Int) + 1 = ((n + 1 : Nat) : Int) by omega]
      exact ih (n + 1) (by omega) (by omega)
theorem L2_m_entries {g : xG} {x0 : Nat} {ad : Nat → Nat} {h0 : hp} {tt : Int} {S : gS} {i l a : Int} {u3 : Option Value} (hI : Inv S) (hcd : cd_entries S i l = 0) (ha0 : 0 ≤ a) (ha9 : a < S 3 0) (haE : a = enA S i l) : ∀ (f9 n : Nat), n ≤ 32 → 32 < n + f9 → mW g M_m_entries x0 ad h0 (opQ S (cd_entries S i l) (vl_entries S i l) (st_entries S i l)) 0 S 75 (some (.ref x0) :: some (.int (iI i)) :: some (.int (iI l)) :: u3 :: some (.int (iI a)) :: some (.int (iI (enC S a n))) :: some (.int (iI (n : Int))) :: []) [] := by
  intro f9
  induction f9 with
  | zero => intros; omega
  | succ f9 ih =>
    intro n h1 h2
    obtain ⟨hR, ⟨him, -⟩, hi2, -, -, -, hi6, -⟩ := id hI
    refine m_iload d_m_entries_75 rfl ?_
    refine m_bipush d_m_entries_77 (by decide) ?_
    refine m_icmp_ge (tgt := 114) d_m_entries_79 (by decide) (by first | exact hR _ _ (by decide) | (unfold R32; omega)) (by first | exact hR _ _ (by decide) | (unfold R32; omega)) (fun z79 => ?_) (fun z79 => ?_)
    · refine m_iconst d_m_entries_114 ?_
      refine m_istore d_m_entries_115 (by decide) ?_
      have hn : n = 32 := by omega
      subst hn
      have := L3_m_entries (tt := 0) (g := g) (x0 := x0) (ad := ad) (h0 := h0) (u3 := u3) hI hcd ha0 ha9 haE 9 0 (by omega) (by omega)
      rw [show enC S a 32 + enO S a 0 = enC S a 32 from Int.add_zero _] at this
      exact this
    · refine m_iload d_m_entries_82 rfl ?_
      refine m_aload_n d_m_entries_84 rfl ?_
      refine mg_7 d_m_entries_85 rfl ?_
      refine m_bipush d_m_entries_88 (by decide) ?_
      refine m_iload d_m_entries_90 rfl ?_
      refine m_imul d_m_entries_92 ?_
      refine m_iload d_m_entries_93 rfl ?_
      refine m_iadd d_m_entries_95 ?_
      refine m_ald 1120 rfl (by decide) rfl d_m_entries_96 (by omega) (by omega) ?_
      refine m_if_eq (tgt := 104) d_m_entries_97 (by decide) (by first | exact hR _ _ (by decide) | (unfold R32; omega)) (fun z97 => ?_) (fun z97 => ?_)
      · refine m_iconst d_m_entries_104 ?_
        refine m_iadd d_m_entries_105 ?_
        refine m_istore d_m_entries_106 (by decide) ?_
        refine m_iinc d_m_entries_108 rfl (by decide) ?_
        refine m_goto (tgt := 75) d_m_entries_111 (by decide) ?_
        have hs9 : enC S a (n + 1) = enC S a n + (if S 1 (32 * a + n) = 0 then 0 else 1) := rfl
        first
          | (rw [if_pos (by omega)] at hs9; rw [← hs9, show (n : Int) + 1 = ((n + 1 : Nat) : Int) by omega]; exact ih (n + 1) (by omega) (by omega))
          | (rw [if_neg (by omega)] at hs9; rw [← hs9, show (n : Int) + 1 = ((n + 1 : Nat) : Int) by omega]; exact ih (n + 1) (by omega) (by omega))
      · refine m_iconst d_m_entries_100 ?_
        refine m_goto (tgt := 105) d_m_entries_101 (by decide) ?_
        refine m_iadd d_m_entries_105 ?_
        refine m_istore d_m_entries_106 (by decide) ?_
        refine m_iinc d_m_entries_108 rfl (by decide) ?_
        refine m_goto (tgt := 75) d_m_entries_111 (by decide) ?_
        have hs9 : enC S a (n + 1) = enC S a n + (if S 1 (32 * a + n) = 0 then 0 else 1) := rfl
        first
          | (rw [if_pos (by omega)] at hs9; rw [← hs9, show (n : Int) + 1 = ((n + 1 : Nat) : Int) by omega]; exact ih (n + 1) (by omega) (by omega))
          | (rw [if_neg (by omega)] at hs9; rw [← hs9, show (n : Int) + 1 = ((n + 1 : Nat) : Int) by omega]; exact ih (n + 1) (by omega) (by omega))
theorem L1_m_entries {g : xG} {x0 : Nat} {ad : Nat → Nat} {h0 : hp} {tt : Int} {S : gS} {i l A : Int} {u3 : Option Value} (hI : Inv S) (hcd : cd_entries S i l = 0) (hl : 0 ≤ l) (hA : A = enA S i l) : ∀ (f9 : Nat) (a k : Int), k < l + f9 → l ≤ k → 0 ≤ a → a < S 3 0 → lay S a = k + 1 → ancN S (k - l).toNat a = A → mW g M_m_entries x0 ad h0 (opQ S (cd_entries S i l) (vl_entries S i l) (st_entries S i l)) 0 S 48 (some (.ref x0) :: some (.int (iI i)) :: some (.int (iI l)) :: u3 :: some (.int (iI a)) :: some (.int (iI k)) :: none :: []) [] := by
  intro f9
  induction f9 with
  | zero => intros; omega
  | succ f9 ih =>
    intro a k h1 h2 h3 h4 h5 h6
    obtain ⟨hR, ⟨him, -⟩, hi2, -, -, -, hi6, -⟩ := id hI
    refine m_iload d_m_entries_48 rfl ?_
    refine m_iload_n d_m_entries_50 rfl ?_
    have h88 := lay_8 hI h3 h4
    refine m_icmp_le (tgt := 69) d_m_entries_51 (by decide) (by first | assumption | exact hR _ _ (by decide) | (unfold R32; omega)) (by first | assumption | exact hR _ _ (by decide) | (unfold R32; omega)) (fun z51 => ?_) (fun z51 => ?_)
    · refine m_iconst d_m_entries_69 ?_
      refine m_istore d_m_entries_70 (by decide) ?_
      refine m_iconst d_m_entries_72 ?_
      refine m_istore d_m_entries_73 (by decide) ?_
      have hk : k = l := by omega
      have he : a = A := by rw [← h6, show (k - l).toNat = 0 by omega]; rfl
      have := L2_m_entries (tt := 0) (g := g) (x0 := x0) (ad := ad) (h0 := h0) (u3 := u3) hI hcd h3 h4 (he.trans hA) 33 0 (by omega) (by omega)
      exact this
    · refine m_aload_n d_m_entries_54 rfl ?_
      refine mg_16 d_m_entries_55 rfl ?_
      refine m_iload d_m_entries_58 rfl ?_
      refine m_ald 10 rfl (by decide) rfl d_m_entries_60 (by omega) (by omega) ?_
      refine m_istore d_m_entries_61 (by decide) ?_
      refine m_iinc d_m_entries_63 rfl (by decide) ?_
      refine m_goto (tgt := 48) d_m_entries_66 (by decide) ?_
      have e1 : (k - l).toNat = (k - 1 - l).toNat + 1 := by omega
      rw [e1] at h6
      have hb := hi2.1 a h3 h4
      have hs := lay_s hi2 h3 h4
      have h8 := lay_8 hI (k := k)
      have hm := lay_m1 S
      have hne : S 4 a ≠ -1 := fun q => by rw [q, hm] at hs; omega
      exact ih (S 4 a) (k + -1) (by omega) (by omega) (by omega) (by omega) (by omega) (by rw [show k + -1 = k - 1 by omega]; exact h6)
theorem t_m_entries {g : xG} {x0 : Nat} {ad : Nat → Nat} {tt : Int} {S : gS} {i l : Int} (hI : Inv S) (hi : R32 i) (hl : R32 l) : mM g y_m_entries k_m_entries M_m_entries x0 ad [.int (iI i), .int (iI l)] tt S (opQ S (cd_entries S i l) (vl_entries S i l) (st_entries S i l)) := by
  refine mM.of rfl (by decide) rfl rfl rfl (by simp [Value.category]) (Nat.le_of_ble_eq_true rfl) rfl (fun h0 => ?_)
  obtain ⟨hR, hi1, hi2, hi3, hi4, hi5, hi6, hi7⟩ := id hI
  obtain ⟨him, hgr, hco, hck⟩ := id hi1
  have e1 := isin_s i (S 3 0)
  have e2 := isin_s l (lay S i)
  refine m_aload_n d_m_entries_0 rfl ?_
  refine m_iload_n d_m_entries_1 rfl ?_
  refine m_callV d_m_entries_2 q_m_entries_101 s_m_isImage v_m_isImage rfl (t_m_isImage hR (by assumption)) rfl rfl (Nat.le_of_ble_eq_true rfl) rfl rfl rfl ?_
  rintro _ _ _ ⟨rfl, rfl, rfl⟩
  refine m_istore_n d_m_entries_5 (by decide) ?_
  refine m_aload_n d_m_entries_6 rfl ?_
  refine m_iload_n d_m_entries_7 rfl ?_
  refine m_if_eq (tgt := 27) d_m_entries_8 (by decide) (by first | assumption | exact hR _ _ (by decide) | (unfold R32; omega)) (fun z8 => ?_) (fun z8 => ?_)
  · refine m_iconst d_m_entries_27 ?_
    refine m_callV d_m_entries_28 q_m_entries_109 s_m_holds v_m_holds rfl (t_m_holds ⟨by omega, by omega⟩) rfl rfl (Nat.le_of_ble_eq_true rfl) rfl rfl rfl ?_
    rintro _ _ _ ⟨rfl, rfl, rfl⟩
    refine m_if_ne (tgt := 36) d_m_entries_31 (by decide) (by first | assumption | exact hR _ _ (by decide) | (unfold R32; omega)) (fun z31 => ?_) (fun z31 => ?_)
    · exact absurd z31 (by decide)
    · refine m_iconst d_m_entries_34 ?_
      exact m_iret rfl d_m_entries_35 (opQ.bad (by unfold cd_entries; (repeat' split) <;> omega) (by decide))
  · refine m_iload_n d_m_entries_11 rfl ?_
    refine m_aload_n d_m_entries_12 rfl ?_
    refine m_iload_n d_m_entries_13 rfl ?_
    refine m_callV d_m_entries_14 q_m_entries_105 s_m_layersOf v_m_layersOf rfl (t_m_layersOf hi1 hi2 (by omega) (by omega)) rfl rfl (Nat.le_of_ble_eq_true rfl) rfl rfl rfl ?_
    rintro _ _ _ ⟨rfl, rfl, rfl⟩
    refine m_callS d_m_entries_17 q_m_entries_90 s_m_isIn (t_m_isIn g hl (by have := lay_8 hI (k := i) (by omega) (by omega); unfold R32; omega)) rfl rfl (Nat.le_of_ble_eq_true rfl) rfl rfl rfl ?_
    rintro _ rfl
    refine m_if_eq (tgt := 27) d_m_entries_20 (by decide) (by first | assumption | exact hR _ _ (by decide) | (unfold R32; omega)) (fun z20 => ?_) (fun z20 => ?_)
    · refine m_iconst d_m_entries_27 ?_
      refine m_callV d_m_entries_28 q_m_entries_109 s_m_holds v_m_holds rfl (t_m_holds ⟨by omega, by omega⟩) rfl rfl (Nat.le_of_ble_eq_true rfl) rfl rfl rfl ?_
      rintro _ _ _ ⟨rfl, rfl, rfl⟩
      refine m_if_ne (tgt := 36) d_m_entries_31 (by decide) (by first | assumption | exact hR _ _ (by decide) | (unfold R32; omega)) (fun z31 => ?_) (fun z31 => ?_)
      · exact absurd z31 (by decide)
      · refine m_iconst d_m_entries_34 ?_
        exact m_iret rfl d_m_entries_35 (opQ.bad (by unfold cd_entries; (repeat' split) <;> omega) (by decide))
    · refine m_iconst d_m_entries_23 ?_
      refine m_goto (tgt := 28) d_m_entries_24 (by decide) ?_
      refine m_callV d_m_entries_28 q_m_entries_109 s_m_holds v_m_holds rfl (t_m_holds ⟨by omega, by omega⟩) rfl rfl (Nat.le_of_ble_eq_true rfl) rfl rfl rfl ?_
      rintro _ _ _ ⟨rfl, rfl, rfl⟩
      refine m_if_ne (tgt := 36) d_m_entries_31 (by decide) (by first | assumption | exact hR _ _ (by decide) | (unfold R32; omega)) (fun z31 => ?_) (fun z31 => ?_)
      · refine m_iload_n d_m_entries_36 rfl ?_
        refine m_istore d_m_entries_37 (by decide) ?_
        refine m_aload_n d_m_entries_39 rfl ?_
        refine m_iload_n d_m_entries_40 rfl ?_
        refine m_callV d_m_entries_41 q_m_entries_105 s_m_layersOf v_m_layersOf rfl (t_m_layersOf hi1 hi2 (by omega) (by omega)) rfl rfl (Nat.le_of_ble_eq_true rfl) rfl rfl rfl ?_
        rintro _ _ _ ⟨rfl, rfl, rfl⟩
        refine m_iconst d_m_entries_44 ?_
        refine m_isub d_m_entries_45 ?_
        refine m_istore d_m_entries_46 (by decide) ?_
        have hcd : cd_entries S i l = 0 := by unfold cd_entries; (repeat' split) <;> omega
        have h8 := lay_8 hI (k := i) (by omega) (by omega)
        exact L1_m_entries (tt := 0) hI hcd (by omega) rfl ((lay S i - l).toNat) i (lay S i - 1) (by omega) (by omega) (by omega) (by omega) (by omega) rfl
      · exact absurd z31 (by decide)
def cd_commit (S : gS) (c : Int) : Int := if ¬ (0 ≤ c ∧ c < S 11 0) then 1 else if lay S (S 12 c) = 8 ∨ S 3 0 = 10 then 2 else 0
def vl_commit (S : gS) (c : Int) : Int := S 3 0
def st_commit (S : gS) (c : Int) : gS := sset (cz (sset (sset S 4 (S 3 0) (S 12 c)) 5 (S 3 0) 1) (S 3 0) (10 + c) 32) 3 0 (S 3 0 + 1)
theorem t_m_commit {g : xG} {x0 : Nat} {ad : Nat → Nat} {tt : Int} {S : gS} {c : Int} (hI : Inv S) (hc : R32 c) : mM g y_m_commit k_m_commit M_m_commit x0 ad [.int (iI c)] tt S (opQ S (cd_commit S c) (vl_commit S c) (st_commit S c)) := by
  refine mM.of rfl (by decide) rfl rfl rfl (by simp [Value.category]) (Nat.le_of_ble_eq_true rfl) rfl (fun h0 => ?_)
  obtain ⟨hR, hi1, hi2, hi3, hi4, hi5, hi6, hi7⟩ := id hI
  obtain ⟨him, hgr, hco, hck⟩ := id hi1
  have e1 := isin_s c (S 11 0)
  refine m_aload_n d_m_commit_0 rfl ?_
  refine m_iload_n d_m_commit_1 rfl ?_
  refine m_callV d_m_commit_2 q_m_commit_123 s_m_isContainer v_m_isContainer rfl (t_m_isContainer hR (by assumption)) rfl rfl (Nat.le_of_ble_eq_true rfl) rfl rfl rfl ?_
  rintro _ _ _ ⟨rfl, rfl, rfl⟩
  refine m_istore_n d_m_commit_5 (by decide) ?_
  refine m_aload_n d_m_commit_6 rfl ?_
  refine m_iload_n d_m_commit_7 rfl ?_
  refine m_if_ne (tgt := 15) d_m_commit_8 (by decide) (by first | assumption | exact hR _ _ (by decide) | (unfold R32; omega)) (fun z8 => ?_) (fun z8 => ?_)
  · refine m_aload_n d_m_commit_15 rfl ?_
    refine m_aload_n d_m_commit_16 rfl ?_
    refine mg_39 d_m_commit_17 rfl ?_
    have e6 := hi3 c (Or.inl (by omega))
    have e7 := lay_8 hI (k := S 12 c) (by omega) (by omega)
    refine m_iload_n d_m_commit_20 rfl ?_
    refine m_ald 25 rfl (by decide) rfl d_m_commit_21 (by omega) (by omega) ?_
    refine m_callV d_m_commit_22 q_m_commit_105 s_m_layersOf v_m_layersOf rfl (t_m_layersOf hi1 hi2 (by omega) (by omega)) rfl rfl (Nat.le_of_ble_eq_true rfl) rfl rfl rfl ?_
    rintro _ _ _ ⟨rfl, rfl, rfl⟩
    refine m_bipush d_m_commit_25 (by decide) ?_
    refine m_icmp_eq (tgt := 39) d_m_commit_27 (by decide) (by first | assumption | exact hR _ _ (by decide) | (unfold R32; omega)) (by first | assumption | exact hR _ _ (by decide) | (unfold R32; omega)) (fun z27 => ?_) (fun z27 => ?_)
    · refine m_iconst d_m_commit_39 ?_
      refine m_goto (tgt := 44) d_m_commit_40 (by decide) ?_
      refine m_callV d_m_commit_44 q_m_commit_109 s_m_holds v_m_holds rfl (t_m_holds ⟨by omega, by omega⟩) rfl rfl (Nat.le_of_ble_eq_true rfl) rfl rfl rfl ?_
      rintro _ _ _ ⟨rfl, rfl, rfl⟩
      refine m_if_ne (tgt := 52) d_m_commit_47 (by decide) (by first | assumption | exact hR _ _ (by decide) | (unfold R32; omega)) (fun z47 => ?_) (fun z47 => ?_)
      · exact absurd z47 (by decide)
      · refine m_iconst d_m_commit_50 ?_
        exact m_iret rfl d_m_commit_51 (opQ.bad (by unfold cd_commit; (repeat' split) <;> omega) (by decide))
    · refine m_aload_n d_m_commit_30 rfl ?_
      refine mg_87 d_m_commit_31 rfl ?_
      refine m_bipush d_m_commit_34 (by decide) ?_
      refine m_icmp_ne (tgt := 43) d_m_commit_36 (by decide) (by first | assumption | exact hR _ _ (by decide) | (unfold R32; omega)) (by first | assumption | exact hR _ _ (by decide) | (unfold R32; omega)) (fun z36 => ?_) (fun z36 => ?_)
      · refine m_iconst d_m_commit_43 ?_
        refine m_callV d_m_commit_44 q_m_commit_109 s_m_holds v_m_holds rfl (t_m_holds ⟨by omega, by omega⟩) rfl rfl (Nat.le_of_ble_eq_true rfl) rfl rfl rfl ?_
        rintro _ _ _ ⟨rfl, rfl, rfl⟩
        refine m_if_ne (tgt := 52) d_m_commit_47 (by decide) (by first | assumption | exact hR _ _ (by decide) | (unfold R32; omega)) (fun z47 => ?_) (fun z47 => ?_)
        · refine m_aload_n d_m_commit_52 rfl ?_
          refine mg_16 d_m_commit_53 rfl ?_
          refine m_aload_n d_m_commit_56 rfl ?_
          refine mg_87 d_m_commit_57 rfl ?_
          refine m_aload_n d_m_commit_60 rfl ?_
          refine mg_39 d_m_commit_61 rfl ?_
          refine m_iload_n d_m_commit_64 rfl ?_
          refine m_ald 25 rfl (by decide) rfl d_m_commit_65 (by omega) (by omega) ?_
          refine m_ast 10 rfl (by decide) rfl d_m_commit_66 (by omega) (by omega) ?_
          refine m_aload_n d_m_commit_67 rfl ?_
          refine mg_19 d_m_commit_68 rfl ?_
          refine m_aload_n d_m_commit_71 rfl ?_
          refine mgv_87 (S 3 0) rfl d_m_commit_72 rfl ?_
          refine m_iconst d_m_commit_75 ?_
          refine m_zst d_m_commit_76 (by omega) (by omega) (by omega) ?_
          refine m_aload_n d_m_commit_77 rfl ?_
          refine m_aload_n d_m_commit_78 rfl ?_
          refine mgv_87 (S 3 0) rfl d_m_commit_79 rfl ?_
          refine m_bipush d_m_commit_82 (by decide) ?_
          refine m_iload_n d_m_commit_84 rfl ?_
          refine m_iadd d_m_commit_85 ?_
          refine m_callV d_m_commit_86 q_m_commit_126 s_m_copies v_m_copies rfl (t_m_copies (t := S 3 0) (f := 10 + c) (by omega) (by omega) (by omega) (by omega) (by omega)) rfl rfl (Nat.le_of_ble_eq_true rfl) rfl rfl rfl ?_
          rintro _ _ _ ⟨rfl, rfl, rfl⟩
          refine m_aload_n d_m_commit_89 rfl ?_
          refine m_dup d_m_commit_90 rfl ?_
          refine mgv_87 (S 3 0) rfl d_m_commit_91 rfl ?_
          refine m_iconst d_m_commit_94 ?_
          refine m_iadd d_m_commit_95 ?_
          refine mp_87 d_m_commit_96 rfl ?_
          refine m_aload_n d_m_commit_99 rfl ?_
          refine mgv_87 (S 3 0 + 1) rfl d_m_commit_100 rfl ?_
          refine m_iconst d_m_commit_103 ?_
          refine m_isub d_m_commit_104 ?_
          exact m_iret rfl d_m_commit_105 (opQ.good (by unfold cd_commit; (repeat' split) <;> omega) (by unfold vl_commit; omega) (rfl))
        · exact absurd z47 (by decide)
      · refine m_iconst d_m_commit_39 ?_
        refine m_goto (tgt := 44) d_m_commit_40 (by decide) ?_
        refine m_callV d_m_commit_44 q_m_commit_109 s_m_holds v_m_holds rfl (t_m_holds ⟨by omega, by omega⟩) rfl rfl (Nat.le_of_ble_eq_true rfl) rfl rfl rfl ?_
        rintro _ _ _ ⟨rfl, rfl, rfl⟩
        refine m_if_ne (tgt := 52) d_m_commit_47 (by decide) (by first | assumption | exact hR _ _ (by decide) | (unfold R32; omega)) (fun z47 => ?_) (fun z47 => ?_)
        · exact absurd z47 (by decide)
        · refine m_iconst d_m_commit_50 ?_
          exact m_iret rfl d_m_commit_51 (opQ.bad (by unfold cd_commit; (repeat' split) <;> omega) (by decide))
  · refine m_iconst d_m_commit_11 ?_
    refine m_goto (tgt := 44) d_m_commit_12 (by decide) ?_
    refine m_callV d_m_commit_44 q_m_commit_109 s_m_holds v_m_holds rfl (t_m_holds ⟨by omega, by omega⟩) rfl rfl (Nat.le_of_ble_eq_true rfl) rfl rfl rfl ?_
    rintro _ _ _ ⟨rfl, rfl, rfl⟩
    refine m_if_ne (tgt := 52) d_m_commit_47 (by decide) (by first | assumption | exact hR _ _ (by decide) | (unfold R32; omega)) (fun z47 => ?_) (fun z47 => ?_)
    · exact absurd z47 (by decide)
    · refine m_iconst d_m_commit_50 ?_
      exact m_iret rfl d_m_commit_51 (opQ.bad (by unfold cd_commit; (repeat' split) <;> omega) (by decide))
theorem memN_b {S : gS} (hI : Inv S) (g : Int) : ∀ n : Nat, (n : Int) ≤ S 11 0 → 0 ≤ memN S g n ∧ memN S g n ≤ 10000 * n := by
  intro n
  induction n with
  | zero => intro _; unfold memN; omega
  | succ n ih =>
    intro hn
    have h1 := ih (by omega)
    have h2 := (hI.2.2.2.1 n (Or.inl ⟨by omega, by omega⟩)).2.2.1
    unfold memN
    split <;> omega
theorem prcN_b {S : gS} (hI : Inv S) (g : Int) : ∀ n : Nat, (n : Int) ≤ S 11 0 → 0 ≤ prcN S g n ∧ prcN S g n ≤ 100 * n := by
  intro n
  induction n with
  | zero => intro _; unfold prcN; omega
  | succ n ih =>
    intro hn
    have h1 := ih (by omega)
    have h2 := (hI.2.2.2.1 n (Or.inl ⟨by omega, by omega⟩)).2.2.2.1
    unfold prcN
    split <;> omega
theorem memI_b {S : gS} (hI : Inv S) (g : Int) : 0 ≤ memI S g ∧ memI S g ≤ 200000 := by
  have h := hI.2.1.2.2.1
  have := memN_b hI g (S 11 0).toNat (by omega)
  unfold memI
  omega
theorem prcI_b {S : gS} (hI : Inv S) (g : Int) : 0 ≤ prcI S g ∧ prcI S g ≤ 2000 := by
  have h := hI.2.1.2.2.1
  have := prcN_b hI g (S 11 0).toNat (by omega)
  unfold prcI
  omega
theorem L_m_isBelow {g : xG} {x0 : Nat} {ad : Nat → Nat} {h0 : hp} {tt : Int} {S : gS} {a b r : Int} (hI : Inv S) (hb0 : 0 ≤ b) (hbR : R32 b) : ∀ (f9 : Nat) (k : Int), k + 1 < f9 → -1 ≤ k → k < S 6 0 → bel S k b = r → mW g M_m_isBelow x0 ad h0 (fun v t9 S9 => v = some (.int (iI (r))) ∧ tt = t9 ∧ S = S9) tt S 2 [some (.ref x0), some (.int (iI a)), some (.int (iI b)), some (.int (iI k))] [] := by
  intro f9
  induction f9 with
  | zero => intros; omega
  | succ f9 ih =>
    intro k h1 h2 h3 h4
    obtain ⟨hR, hi1, hi2, -⟩ := id hI
    obtain ⟨him, hgr, -⟩ := id hi1
    refine m_iload_n d_m_isBelow_2 rfl ?_
    refine m_iconst d_m_isBelow_3 ?_
    refine m_icmp_eq (tgt := 22) d_m_isBelow_4 (by decide) (by first | assumption | exact hR _ _ (by decide) | (unfold R32; omega)) (by first | assumption | exact hR _ _ (by decide) | (unfold R32; omega)) (fun z4 => ?_) (fun z4 => ?_)
    · have y1 := bel_m1 (S := S) hb0
      have y2 := bel_eq S b
      have y3 : k = -1 → bel S k b = 0 := fun q => by rw [q]; exact y1
      have y4 : k = b → bel S k b = 1 := fun q => by rw [q]; exact y2
      refine m_iload_n d_m_isBelow_22 rfl ?_
      refine m_iload_n d_m_isBelow_23 rfl ?_
      refine m_icmp_ne (tgt := 31) d_m_isBelow_24 (by decide) (by first | assumption | exact hR _ _ (by decide) | (unfold R32; omega)) (by first | assumption | exact hR _ _ (by decide) | (unfold R32; omega)) (fun z24 => ?_) (fun z24 => ?_)
      · refine m_iconst d_m_isBelow_31 ?_
        exact m_zret rfl d_m_isBelow_32 (by omega) (⟨congrArg (fun z => some (Value.int (iI z))) (by omega), rfl, rfl⟩)
      · refine m_iconst d_m_isBelow_27 ?_
        refine m_goto (tgt := 32) d_m_isBelow_28 (by decide) ?_
        exact m_zret rfl d_m_isBelow_32 (by omega) (⟨congrArg (fun z => some (Value.int (iI z))) (by omega), rfl, rfl⟩)
    · refine m_iload_n d_m_isBelow_7 rfl ?_
      refine m_iload_n d_m_isBelow_8 rfl ?_
      refine m_icmp_eq (tgt := 22) d_m_isBelow_9 (by decide) (by first | assumption | exact hR _ _ (by decide) | (unfold R32; omega)) (by first | assumption | exact hR _ _ (by decide) | (unfold R32; omega)) (fun z9 => ?_) (fun z9 => ?_)
      · have y1 := bel_m1 (S := S) hb0
        have y2 := bel_eq S b
        have y3 : k = -1 → bel S k b = 0 := fun q => by rw [q]; exact y1
        have y4 : k = b → bel S k b = 1 := fun q => by rw [q]; exact y2
        refine m_iload_n d_m_isBelow_22 rfl ?_
        refine m_iload_n d_m_isBelow_23 rfl ?_
        refine m_icmp_ne (tgt := 31) d_m_isBelow_24 (by decide) (by first | assumption | exact hR _ _ (by decide) | (unfold R32; omega)) (by first | assumption | exact hR _ _ (by decide) | (unfold R32; omega)) (fun z24 => ?_) (fun z24 => ?_)
        · refine m_iconst d_m_isBelow_31 ?_
          exact m_zret rfl d_m_isBelow_32 (by omega) (⟨congrArg (fun z => some (Value.int (iI z))) (by omega), rfl, rfl⟩)
        · refine m_iconst d_m_isBelow_27 ?_
          refine m_goto (tgt := 32) d_m_isBelow_28 (by decide) ?_
          exact m_zret rfl d_m_isBelow_32 (by omega) (⟨congrArg (fun z => some (Value.int (iI z))) (by omega), rfl, rfl⟩)
      · refine m_aload_n d_m_isBelow_12 rfl ?_
        refine mg_27 d_m_isBelow_13 rfl ?_
        refine m_iload_n d_m_isBelow_16 rfl ?_
        refine m_ald 8 rfl (by decide) rfl d_m_isBelow_17 (by omega) (by omega) ?_
        refine m_istore_n d_m_isBelow_18 (by decide) ?_
        refine m_goto (tgt := 2) d_m_isBelow_19 (by decide) ?_
        have hp := hi2.pa hi1 k (by omega) h3
        exact ih (S 7 k) (by omega) hp.1 (by omega) (by rw [← bel_s hi2 hi1 hb0 (by omega) h3 z9]; exact h4)
theorem t_m_isBelow {g : xG} {x0 : Nat} {ad : Nat → Nat} {tt : Int} {S : gS} {a b : Int} (hI : Inv S) (ha : -1 ≤ a) (ha2 : a < S 6 0) (hb : 0 ≤ b) (hbR : R32 b) : mM g y_m_isBelow k_m_isBelow M_m_isBelow x0 ad [.int (iI a), .int (iI b)] tt S (fun v t9 S9 => v = some (.int (iI (bel S a b))) ∧ tt = t9 ∧ S = S9) := by
  refine mM.of rfl (by decide) rfl rfl rfl (by simp [Value.category]) (Nat.le_of_ble_eq_true rfl) rfl (fun h0 => ?_)
  refine m_iload_n d_m_isBelow_0 rfl ?_
  refine m_istore_n d_m_isBelow_1 (by decide) ?_
  exact L_m_isBelow hI hb hbR ((a + 2).toNat) a (by omega) ha ha2 rfl
theorem L_m_memoryIn {g : xG} {x0 : Nat} {ad : Nat → Nat} {h0 : hp} {tt : Int} {S : gS} {a : Int} (hI : Inv S) (ha : 0 ≤ a) (haR : R32 a) : ∀ (f9 n : Nat), (n : Int) ≤ S 11 0 → S 11 0 < n + f9 → mW g M_m_memoryIn x0 ad h0 (fun v t9 S9 => v = some (.int (iI (memI S a))) ∧ tt = t9 ∧ S = S9) tt S 4 [some (.ref x0), some (.int (iI a)), some (.int (iI (memN S a n))), some (.int (iI (n : Int)))] [] := by
  intro f9
  induction f9 with
  | zero => intros; omega
  | succ f9 ih =>
    intro n h1 h2
    obtain ⟨hR, hi1, hi2, hi3, hi4, -⟩ := id hI
    obtain ⟨him, hgr, hco, -⟩ := id hi1
    refine m_iload_n d_m_memoryIn_4 rfl ?_
    refine m_aload_n d_m_memoryIn_5 rfl ?_
    refine mg_94 d_m_memoryIn_6 rfl ?_
    refine m_icmp_ge (tgt := 45) d_m_memoryIn_9 (by decide) (by first | assumption | exact hR _ _ (by decide) | (unfold R32; omega)) (by first | assumption | exact hR _ _ (by decide) | (unfold R32; omega)) (fun z9 => ?_) (fun z9 => ?_)
    · refine m_iload_n d_m_memoryIn_45 rfl ?_
      exact m_iret rfl d_m_memoryIn_46 (⟨congrArg (fun z => some (Value.int (iI z))) (by unfold memI; rw [show (S 11 0).toNat = n by omega]), rfl, rfl⟩)
    · have hc := hi4 n (by omega) (by omega)
      refine m_iload_n d_m_memoryIn_12 rfl ?_
      refine m_aload_n d_m_memoryIn_13 rfl ?_
      refine m_aload_n d_m_memoryIn_14 rfl ?_
      refine mg_63 d_m_memoryIn_15 rfl ?_
      refine m_iload_n d_m_memoryIn_18 rfl ?_
      refine m_ald 20 rfl (by decide) rfl d_m_memoryIn_19 (by omega) (by omega) ?_
      refine m_iload_n d_m_memoryIn_20 rfl ?_
      refine m_callV d_m_memoryIn_21 q_m_memoryIn_130 s_m_isBelow v_m_isBelow rfl (t_m_isBelow hI (by omega) (by omega) ha haR) rfl rfl (Nat.le_of_ble_eq_true rfl) rfl rfl rfl ?_
      rintro _ _ _ ⟨rfl, rfl, rfl⟩
      have hb := bel_01 S (S 20 n) a
      refine m_if_eq (tgt := 36) d_m_memoryIn_24 (by decide) (by first | assumption | exact hR _ _ (by decide) | (unfold R32; omega)) (fun z24 => ?_) (fun z24 => ?_)
      · refine m_iconst d_m_memoryIn_36 ?_
        refine m_iadd d_m_memoryIn_37 ?_
        refine m_istore_n d_m_memoryIn_38 (by decide) ?_
        refine m_iinc d_m_memoryIn_39 rfl (by decide) ?_
        refine m_goto (tgt := 4) d_m_memoryIn_42 (by decide) ?_
        have hs9 : memN S a (n + 1) = memN S a n + (if bel S (S 20 n) a = 1 then S 14 n else 0) := rfl
        first
          | (rw [if_pos (by omega)] at hs9; rw [← hs9, show (n : Int) + 1 = ((n + 1 : Nat) : Int) by omega]; exact ih (n + 1) (by omega) (by omega))
          | (rw [if_neg (by omega)] at hs9; rw [← hs9, show (n : Int) + 1 = ((n + 1 : Nat) : Int) by omega]; exact ih (n + 1) (by omega) (by omega))
      · refine m_aload_n d_m_memoryIn_27 rfl ?_
        refine mg_45 d_m_memoryIn_28 rfl ?_
        refine m_iload_n d_m_memoryIn_31 rfl ?_
        refine m_ald 25 rfl (by decide) rfl d_m_memoryIn_32 (by omega) (by omega) ?_
        refine m_goto (tgt := 37) d_m_memoryIn_33 (by decide) ?_
        refine m_iadd d_m_memoryIn_37 ?_
        refine m_istore_n d_m_memoryIn_38 (by decide) ?_
        refine m_iinc d_m_memoryIn_39 rfl (by decide) ?_
        refine m_goto (tgt := 4) d_m_memoryIn_42 (by decide) ?_
        have hs9 : memN S a (n + 1) = memN S a n + (if bel S (S 20 n) a = 1 then S 14 n else 0) := rfl
        first
          | (rw [if_pos (by omega)] at hs9; rw [← hs9, show (n : Int) + 1 = ((n + 1 : Nat) : Int) by omega]; exact ih (n + 1) (by omega) (by omega))
          | (rw [if_neg (by omega)] at hs9; rw [← hs9, show (n : Int) + 1 = ((n + 1 : Nat) : Int) by omega]; exact ih (n + 1) (by omega) (by omega))
theorem t_m_memoryIn {g : xG} {x0 : Nat} {ad : Nat → Nat} {tt : Int} {S : gS} {a : Int} (hI : Inv S) (ha : 0 ≤ a) (haR : R32 a) : mM g y_m_memoryIn k_m_memoryIn M_m_memoryIn x0 ad [.int (iI a)] tt S (fun v t9 S9 => v = some (.int (iI (memI S a))) ∧ tt = t9 ∧ S = S9) := by
  refine mM.of rfl (by decide) rfl rfl rfl (by simp [Value.category]) (Nat.le_of_ble_eq_true rfl) rfl (fun h0 => ?_)
  obtain ⟨hR, hi1, hi2, hi3, hi4, hi5, hi6, hi7⟩ := id hI
  obtain ⟨him, hgr, hco, hck⟩ := id hi1
  refine m_iconst d_m_memoryIn_0 ?_
  refine m_istore_n d_m_memoryIn_1 (by decide) ?_
  refine m_iconst d_m_memoryIn_2 ?_
  refine m_istore_n d_m_memoryIn_3 (by decide) ?_
  exact L_m_memoryIn hI ha haR ((S 11 0).toNat + 1) 0 (by omega) (by omega)
theorem L_m_processesIn {g : xG} {x0 : Nat} {ad : Nat → Nat} {h0 : hp} {tt : Int} {S : gS} {a : Int} (hI : Inv S) (ha : 0 ≤ a) (haR : R32 a) : ∀ (f9 n : Nat), (n : Int) ≤ S 11 0 → S 11 0 < n + f9 → mW g M_m_processesIn x0 ad h0 (fun v t9 S9 => v = some (.int (iI (prcI S a))) ∧ tt = t9 ∧ S = S9) tt S 4 [some (.ref x0), some (.int (iI a)), some (.int (iI (prcN S a n))), some (.int (iI (n : Int)))] [] := by
  intro f9
  induction f9 with
  | zero => intros; omega
  | succ f9 ih =>
    intro n h1 h2
    obtain ⟨hR, hi1, hi2, hi3, hi4, -⟩ := id hI
    obtain ⟨him, hgr, hco, -⟩ := id hi1
    refine m_iload_n d_m_processesIn_4 rfl ?_
    refine m_aload_n d_m_processesIn_5 rfl ?_
    refine mg_94 d_m_processesIn_6 rfl ?_
    refine m_icmp_ge (tgt := 45) d_m_processesIn_9 (by decide) (by first | assumption | exact hR _ _ (by decide) | (unfold R32; omega)) (by first | assumption | exact hR _ _ (by decide) | (unfold R32; omega)) (fun z9 => ?_) (fun z9 => ?_)
    · refine m_iload_n d_m_processesIn_45 rfl ?_
      exact m_iret rfl d_m_processesIn_46 (⟨congrArg (fun z => some (Value.int (iI z))) (by unfold prcI; rw [show (S 11 0).toNat = n by omega]), rfl, rfl⟩)
    · have hc := hi4 n (by omega) (by omega)
      refine m_iload_n d_m_processesIn_12 rfl ?_
      refine m_aload_n d_m_processesIn_13 rfl ?_
      refine m_aload_n d_m_processesIn_14 rfl ?_
      refine mg_63 d_m_processesIn_15 rfl ?_
      refine m_iload_n d_m_processesIn_18 rfl ?_
      refine m_ald 20 rfl (by decide) rfl d_m_processesIn_19 (by omega) (by omega) ?_
      refine m_iload_n d_m_processesIn_20 rfl ?_
      refine m_callV d_m_processesIn_21 q_m_processesIn_130 s_m_isBelow v_m_isBelow rfl (t_m_isBelow hI (by omega) (by omega) ha haR) rfl rfl (Nat.le_of_ble_eq_true rfl) rfl rfl rfl ?_
      rintro _ _ _ ⟨rfl, rfl, rfl⟩
      have hb := bel_01 S (S 20 n) a
      refine m_if_eq (tgt := 36) d_m_processesIn_24 (by decide) (by first | assumption | exact hR _ _ (by decide) | (unfold R32; omega)) (fun z24 => ?_) (fun z24 => ?_)
      · refine m_iconst d_m_processesIn_36 ?_
        refine m_iadd d_m_processesIn_37 ?_
        refine m_istore_n d_m_processesIn_38 (by decide) ?_
        refine m_iinc d_m_processesIn_39 rfl (by decide) ?_
        refine m_goto (tgt := 4) d_m_processesIn_42 (by decide) ?_
        have hs9 : prcN S a (n + 1) = prcN S a n + (if bel S (S 20 n) a = 1 then S 15 n else 0) := rfl
        first
          | (rw [if_pos (by omega)] at hs9; rw [← hs9, show (n : Int) + 1 = ((n + 1 : Nat) : Int) by omega]; exact ih (n + 1) (by omega) (by omega))
          | (rw [if_neg (by omega)] at hs9; rw [← hs9, show (n : Int) + 1 = ((n + 1 : Nat) : Int) by omega]; exact ih (n + 1) (by omega) (by omega))
      · refine m_aload_n d_m_processesIn_27 rfl ?_
        refine mg_48 d_m_processesIn_28 rfl ?_
        refine m_iload_n d_m_processesIn_31 rfl ?_
        refine m_ald 25 rfl (by decide) rfl d_m_processesIn_32 (by omega) (by omega) ?_
        refine m_goto (tgt := 37) d_m_processesIn_33 (by decide) ?_
        refine m_iadd d_m_processesIn_37 ?_
        refine m_istore_n d_m_processesIn_38 (by decide) ?_
        refine m_iinc d_m_processesIn_39 rfl (by decide) ?_
        refine m_goto (tgt := 4) d_m_processesIn_42 (by decide) ?_
        have hs9 : prcN S a (n + 1) = prcN S a n + (if bel S (S 20 n) a = 1 then S 15 n else 0) := rfl
        first
          | (rw [if_pos (by omega)] at hs9; rw [← hs9, show (n : Int) + 1 = ((n + 1 : Nat) : Int) by omega]; exact ih (n + 1) (by omega) (by omega))
          | (rw [if_neg (by omega)] at hs9; rw [← hs9, show (n : Int) + 1 = ((n + 1 : Nat) : Int) by omega]; exact ih (n + 1) (by omega) (by omega))
theorem t_m_processesIn {g : xG} {x0 : Nat} {ad : Nat → Nat} {tt : Int} {S : gS} {a : Int} (hI : Inv S) (ha : 0 ≤ a) (haR : R32 a) : mM g y_m_processesIn k_m_processesIn M_m_processesIn x0 ad [.int (iI a)] tt S (fun v t9 S9 => v = some (.int (iI (prcI S a))) ∧ tt = t9 ∧ S = S9) := by
  refine mM.of rfl (by decide) rfl rfl rfl (by simp [Value.category]) (Nat.le_of_ble_eq_true rfl) rfl (fun h0 => ?_)
  obtain ⟨hR, hi1, hi2, hi3, hi4, hi5, hi6, hi7⟩ := id hI
  obtain ⟨him, hgr, hco, hck⟩ := id hi1
  refine m_iconst d_m_processesIn_0 ?_
  refine m_istore_n d_m_processesIn_1 (by decide) ?_
  refine m_iconst d_m_processesIn_2 ?_
  refine m_istore_n d_m_processesIn_3 (by decide) ?_
  exact L_m_processesIn hI ha haR ((S 11 0).toNat + 1) 0 (by omega) (by omega)
/-- the first group of a path over its limit with so much more; -1 for none -/
def tmN (S : gS) (u m : Int) : Nat → Int → Int
  | 0, _ => -1
  | n + 1, k => if k = -1 then -1 else if memI S k + u > S 8 k ∨ prcI S k + m > S 9 k then k else tmN S u m n (S 7 k)
def tm (S : gS) (g u m : Int) : Int := tmN S u m (g + 1).toNat g
theorem tm_m1 (S : gS) (u m : Int) : tm S (-1) u m = -1 := rfl
theorem tmN_stab {S : gS} (h : Inv2 S) (h1 : Inv1 S) (u m : Int) : ∀ (n q : Nat) (k : Int), -1 ≤ k → k < S 6 0 → k < n → k < q → tmN S u m n k = tmN S u m q k := by
  intro n
  induction n with
  | zero =>
    intro q k h0 h2 h3 h4
    have : k = -1 := by omega
    subst this
    cases q <;> rfl
  | succ n ih =>
    intro q k h0 h2 h3 h4
    cases q with
    | zero =>
      have : k = -1 := by omega
      subst this
      rfl
    | succ q =>
      unfold tmN
      by_cases hk : k = -1
      · rw [if_pos hk, if_pos hk]
      · rw [if_neg hk, if_neg hk]
        have := h.pa h1 k (by omega) h2
        rw [ih q (S 7 k) this.1 (by omega) (by omega) (by omega)]
theorem tm_s {S : gS} (h : Inv2 S) (h1 : Inv1 S) {k : Int} (u m : Int) (h0 : 0 ≤ k) (h2 : k < S 6 0) : tm S k u m = if memI S k + u > S 8 k ∨ prcI S k + m > S 9 k then k else tm S (S 7 k) u m := by
  have hp := h.pa h1 k h0 h2
  unfold tm
  have e : (k + 1).toNat = k.toNat + 1 := by omega
  rw [e]
  show (if k = -1 then -1 else if memI S k + u > S 8 k ∨ prcI S k + m > S 9 k then k else tmN S u m k.toNat (S 7 k)) = _
  rw [if_neg (by omega), tmN_stab h h1 u m k.toNat (S 7 k + 1).toNat (S 7 k) hp.1 (by omega) (by omega) (by omega)]
theorem tm_b {S : gS} (h : Inv2 S) (h1 : Inv1 S) (u m : Int) : ∀ (n : Nat) (k : Int), k < n → -1 ≤ k → k < S 6 0 → -1 ≤ tm S k u m ∧ tm S k u m ≤ k := by
  intro n
  induction n with
  | zero =>
    intro k a b c
    have : k = -1 := by omega
    subst this
    rw [tm_m1]; omega
  | succ n ih =>
    intro k a b c
    by_cases hk : k = -1
    · subst hk; rw [tm_m1]; omega
    · have hp := h.pa h1 k (by omega) c
      rw [tm_s h h1 u m (by omega) c]
      have := ih (S 7 k) (by omega) hp.1 (by omega)
      split <;> omega
theorem tm_r {S : gS} (h : Inv2 S) (h1 : Inv1 S) {k : Int} (u m : Int) (h0 : -1 ≤ k) (h2 : k < S 6 0) : -1 ≤ tm S k u m ∧ tm S k u m ≤ k := tm_b h h1 u m (k + 1).toNat k (by omega) h0 h2
theorem L_m_tooMuch {g : xG} {x0 : Nat} {ad : Nat → Nat} {h0 : hp} {tt : Int} {S : gS} {a u m r : Int} (hI : Inv S) (hu : 0 ≤ u) (hu2 : u ≤ 10000) (hm : 0 ≤ m) (hm2 : m ≤ 10000) : ∀ (f9 : Nat) (k : Int), k + 1 < f9 → -1 ≤ k → k < S 6 0 → tm S k u m = r → mW g M_m_tooMuch x0 ad h0 (fun v t9 S9 => v = some (.int (iI (r))) ∧ tt = t9 ∧ S = S9) tt S 3 [some (.ref x0), some (.int (iI a)), some (.int (iI u)), some (.int (iI m)), some (.int (iI k))] [] := by
  intro f9
  induction f9 with
  | zero => intros; omega
  | succ f9 ih =>
    intro k h1 h2 h3 h4
    obtain ⟨hR, hi1, hi2, -⟩ := id hI
    obtain ⟨him, hgr, -⟩ := id hi1
    refine m_iload d_m_tooMuch_3 rfl ?_
    refine m_iconst d_m_tooMuch_5 ?_
    refine m_icmp_eq (tgt := 60) d_m_tooMuch_6 (by decide) (by first | assumption | exact hR _ _ (by decide) | (unfold R32; omega)) (by first | assumption | exact hR _ _ (by decide) | (unfold R32; omega)) (fun z6 => ?_) (fun z6 => ?_)
    · refine m_iconst d_m_tooMuch_60 ?_
      exact m_iret rfl d_m_tooMuch_61 (⟨congrArg (fun z => some (Value.int (iI z))) (by rw [← h4, z6]; rfl), rfl, rfl⟩)
    · have hb1 := memI_b hI k
      have hb2 := prcI_b hI k
      have ht := tm_s hi2 hi1 u m (k := k) (by omega) h3
      refine m_aload_n d_m_tooMuch_9 rfl ?_
      refine m_iload d_m_tooMuch_10 rfl ?_
      refine m_callV d_m_tooMuch_12 q_m_tooMuch_136 s_m_memoryIn v_m_memoryIn rfl (t_m_memoryIn hI (by omega) (by unfold R32; omega)) rfl rfl (Nat.le_of_ble_eq_true rfl) rfl rfl rfl ?_
      rintro _ _ _ ⟨rfl, rfl, rfl⟩
      refine m_iload_n d_m_tooMuch_15 rfl ?_
      refine m_iadd d_m_tooMuch_16 ?_
      refine m_aload_n d_m_tooMuch_17 rfl ?_
      refine mg_30 d_m_tooMuch_18 rfl ?_
      refine m_iload d_m_tooMuch_21 rfl ?_
      refine m_ald 8 rfl (by decide) rfl d_m_tooMuch_23 (by omega) (by omega) ?_
      refine m_icmp_gt (tgt := 45) d_m_tooMuch_24 (by decide) (by first | assumption | exact hR _ _ (by decide) | (unfold R32; omega)) (by first | assumption | exact hR _ _ (by decide) | (unfold R32; omega)) (fun z24 => ?_) (fun z24 => ?_)
      · refine m_iload d_m_tooMuch_45 rfl ?_
        exact m_iret rfl d_m_tooMuch_47 (⟨congrArg (fun z => some (Value.int (iI z))) (by rw [← h4, ht, if_pos (by omega)]), rfl, rfl⟩)
      · refine m_aload_n d_m_tooMuch_27 rfl ?_
        refine m_iload d_m_tooMuch_28 rfl ?_
        refine m_callV d_m_tooMuch_30 q_m_tooMuch_139 s_m_processesIn v_m_processesIn rfl (t_m_processesIn hI (by omega) (by unfold R32; omega)) rfl rfl (Nat.le_of_ble_eq_true rfl) rfl rfl rfl ?_
        rintro _ _ _ ⟨rfl, rfl, rfl⟩
        refine m_iload_n d_m_tooMuch_33 rfl ?_
        refine m_iadd d_m_tooMuch_34 ?_
        refine m_aload_n d_m_tooMuch_35 rfl ?_
        refine mg_33 d_m_tooMuch_36 rfl ?_
        refine m_iload d_m_tooMuch_39 rfl ?_
        refine m_ald 8 rfl (by decide) rfl d_m_tooMuch_41 (by omega) (by omega) ?_
        refine m_icmp_le (tgt := 48) d_m_tooMuch_42 (by decide) (by first | assumption | exact hR _ _ (by decide) | (unfold R32; omega)) (by first | assumption | exact hR _ _ (by decide) | (unfold R32; omega)) (fun z42 => ?_) (fun z42 => ?_)
        · refine m_aload_n d_m_tooMuch_48 rfl ?_
          refine mg_27 d_m_tooMuch_49 rfl ?_
          refine m_iload d_m_tooMuch_52 rfl ?_
          refine m_ald 8 rfl (by decide) rfl d_m_tooMuch_54 (by omega) (by omega) ?_
          refine m_istore d_m_tooMuch_55 (by decide) ?_
          refine m_goto (tgt := 3) d_m_tooMuch_57 (by decide) ?_
          have hp := hi2.pa hi1 k (by omega) h3
          exact ih (S 7 k) (by omega) hp.1 (by omega) (by rw [← h4, ht, if_neg (by omega)])
        · refine m_iload d_m_tooMuch_45 rfl ?_
          exact m_iret rfl d_m_tooMuch_47 (⟨congrArg (fun z => some (Value.int (iI z))) (by rw [← h4, ht, if_pos (by omega)]), rfl, rfl⟩)
theorem t_m_tooMuch {g : xG} {x0 : Nat} {ad : Nat → Nat} {tt : Int} {S : gS} {a u m : Int} (hI : Inv S) (ha : -1 ≤ a) (ha2 : a < S 6 0) (hu : 0 ≤ u) (hu2 : u ≤ 10000) (hm : 0 ≤ m) (hm2 : m ≤ 10000) : mM g y_m_tooMuch k_m_tooMuch M_m_tooMuch x0 ad [.int (iI a), .int (iI u), .int (iI m)] tt S (fun v t9 S9 => v = some (.int (iI (tm S a u m))) ∧ tt = t9 ∧ S = S9) := by
  refine mM.of rfl (by decide) rfl rfl rfl (by simp [Value.category]) (Nat.le_of_ble_eq_true rfl) rfl (fun h0 => ?_)
  refine m_iload_n d_m_tooMuch_0 rfl ?_
  refine m_istore d_m_tooMuch_1 (by decide) ?_
  exact L_m_tooMuch hI hu hu2 hm hm2 ((a + 2).toNat) a (by omega) ha ha2 rfl
def cd_newGroup (S : gS) (p m r s : Int) : Int := if ¬ (0 ≤ p ∧ p < S 6 0) then 1 else if ¬ (1 ≤ m ∧ m ≤ 10000 ∧ 1 ≤ r ∧ r ≤ 100 ∧ 1 ≤ s ∧ s ≤ 100) then 2 else if S 6 0 = 8 then 3 else 0
def vl_newGroup (S : gS) (p m r s : Int) : Int := S 6 0
def st_newGroup (S : gS) (p m r s : Int) : gS := sset (sset (sset (sset (sset S 7 (S 6 0) p) 8 (S 6 0) m) 9 (S 6 0) r) 10 (S 6 0) s) 6 0 (S 6 0 + 1)
theorem t_m_newGroup {g : xG} {x0 : Nat} {ad : Nat → Nat} {tt : Int} {S : gS} {p m r s : Int} (hI : Inv S) (hp : R32 p) (hm : R32 m) (hr : R32 r) (hs : R32 s) : mM g y_m_newGroup k_m_newGroup M_m_newGroup x0 ad [.int (iI p), .int (iI m), .int (iI r), .int (iI s)] tt S (opQ S (cd_newGroup S p m r s) (vl_newGroup S p m r s) (st_newGroup S p m r s)) := by
  refine mM.of rfl (by decide) rfl rfl rfl (by simp [Value.category]) (Nat.le_of_ble_eq_true rfl) rfl (fun h0 => ?_)
  obtain ⟨hR, hi1, hi2, hi3, hi4, hi5, hi6, hi7⟩ := id hI
  obtain ⟨him, hgr, hco, hck⟩ := id hi1
  have e1 := isin_s p (S 6 0)
  refine m_iload_n d_m_newGroup_0 rfl ?_
  refine m_iconst d_m_newGroup_1 ?_
  refine m_icmp_lt (tgt := 40) d_m_newGroup_2 (by decide) (by first | assumption | exact hR _ _ (by decide) | (unfold R32; omega)) (by first | assumption | exact hR _ _ (by decide) | (unfold R32; omega)) (fun z2 => ?_) (fun z2 => ?_)
  · refine m_iconst d_m_newGroup_40 ?_
    refine m_istore d_m_newGroup_41 (by decide) ?_
    refine m_aload_n d_m_newGroup_43 rfl ?_
    refine m_aload_n d_m_newGroup_44 rfl ?_
    refine m_iload_n d_m_newGroup_45 rfl ?_
    refine m_callV d_m_newGroup_46 q_m_newGroup_133 s_m_isGroup v_m_isGroup rfl (t_m_isGroup hR (by assumption)) rfl rfl (Nat.le_of_ble_eq_true rfl) rfl rfl rfl ?_
    rintro _ _ _ ⟨rfl, rfl, rfl⟩
    refine m_if_ne (tgt := 56) d_m_newGroup_49 (by decide) (by first | assumption | exact hR _ _ (by decide) | (unfold R32; omega)) (fun z49 => ?_) (fun z49 => ?_)
    · refine m_iload d_m_newGroup_56 rfl ?_
      refine m_if_ne (tgt := 65) d_m_newGroup_58 (by decide) (by first | assumption | exact hR _ _ (by decide) | (unfold R32; omega)) (fun z58 => ?_) (fun z58 => ?_)
      · exact absurd z58 (by decide)
      · refine m_iconst d_m_newGroup_61 ?_
        refine m_goto (tgt := 79) d_m_newGroup_62 (by decide) ?_
        refine m_callV d_m_newGroup_79 q_m_newGroup_109 s_m_holds v_m_holds rfl (t_m_holds ⟨by omega, by omega⟩) rfl rfl (Nat.le_of_ble_eq_true rfl) rfl rfl rfl ?_
        rintro _ _ _ ⟨rfl, rfl, rfl⟩
        refine m_if_ne (tgt := 87) d_m_newGroup_82 (by decide) (by first | assumption | exact hR _ _ (by decide) | (unfold R32; omega)) (fun z82 => ?_) (fun z82 => ?_)
        · exact absurd z82 (by decide)
        · refine m_iconst d_m_newGroup_85 ?_
          exact m_iret rfl d_m_newGroup_86 (opQ.bad (by unfold cd_newGroup; (repeat' split) <;> omega) (by decide))
    · refine m_iconst d_m_newGroup_52 ?_
      refine m_goto (tgt := 79) d_m_newGroup_53 (by decide) ?_
      refine m_callV d_m_newGroup_79 q_m_newGroup_109 s_m_holds v_m_holds rfl (t_m_holds ⟨by omega, by omega⟩) rfl rfl (Nat.le_of_ble_eq_true rfl) rfl rfl rfl ?_
      rintro _ _ _ ⟨rfl, rfl, rfl⟩
      refine m_if_ne (tgt := 87) d_m_newGroup_82 (by decide) (by first | assumption | exact hR _ _ (by decide) | (unfold R32; omega)) (fun z82 => ?_) (fun z82 => ?_)
      · exact absurd z82 (by decide)
      · refine m_iconst d_m_newGroup_85 ?_
        exact m_iret rfl d_m_newGroup_86 (opQ.bad (by unfold cd_newGroup; (repeat' split) <;> omega) (by decide))
  · refine m_iload_n d_m_newGroup_5 rfl ?_
    refine m_sipush d_m_newGroup_6 (by decide) ?_
    refine m_icmp_gt (tgt := 40) d_m_newGroup_9 (by decide) (by first | assumption | exact hR _ _ (by decide) | (unfold R32; omega)) (by first | assumption | exact hR _ _ (by decide) | (unfold R32; omega)) (fun z9 => ?_) (fun z9 => ?_)
    · refine m_iconst d_m_newGroup_40 ?_
      refine m_istore d_m_newGroup_41 (by decide) ?_
      refine m_aload_n d_m_newGroup_43 rfl ?_
      refine m_aload_n d_m_newGroup_44 rfl ?_
      refine m_iload_n d_m_newGroup_45 rfl ?_
      refine m_callV d_m_newGroup_46 q_m_newGroup_133 s_m_isGroup v_m_isGroup rfl (t_m_isGroup hR (by assumption)) rfl rfl (Nat.le_of_ble_eq_true rfl) rfl rfl rfl ?_
      rintro _ _ _ ⟨rfl, rfl, rfl⟩
      refine m_if_ne (tgt := 56) d_m_newGroup_49 (by decide) (by first | assumption | exact hR _ _ (by decide) | (unfold R32; omega)) (fun z49 => ?_) (fun z49 => ?_)
      · refine m_iload d_m_newGroup_56 rfl ?_
        refine m_if_ne (tgt := 65) d_m_newGroup_58 (by decide) (by first | assumption | exact hR _ _ (by decide) | (unfold R32; omega)) (fun z58 => ?_) (fun z58 => ?_)
        · exact absurd z58 (by decide)
        · refine m_iconst d_m_newGroup_61 ?_
          refine m_goto (tgt := 79) d_m_newGroup_62 (by decide) ?_
          refine m_callV d_m_newGroup_79 q_m_newGroup_109 s_m_holds v_m_holds rfl (t_m_holds ⟨by omega, by omega⟩) rfl rfl (Nat.le_of_ble_eq_true rfl) rfl rfl rfl ?_
          rintro _ _ _ ⟨rfl, rfl, rfl⟩
          refine m_if_ne (tgt := 87) d_m_newGroup_82 (by decide) (by first | assumption | exact hR _ _ (by decide) | (unfold R32; omega)) (fun z82 => ?_) (fun z82 => ?_)
          · exact absurd z82 (by decide)
          · refine m_iconst d_m_newGroup_85 ?_
            exact m_iret rfl d_m_newGroup_86 (opQ.bad (by unfold cd_newGroup; (repeat' split) <;> omega) (by decide))
      · refine m_iconst d_m_newGroup_52 ?_
        refine m_goto (tgt := 79) d_m_newGroup_53 (by decide) ?_
        refine m_callV d_m_newGroup_79 q_m_newGroup_109 s_m_holds v_m_holds rfl (t_m_holds ⟨by omega, by omega⟩) rfl rfl (Nat.le_of_ble_eq_true rfl) rfl rfl rfl ?_
        rintro _ _ _ ⟨rfl, rfl, rfl⟩
        refine m_if_ne (tgt := 87) d_m_newGroup_82 (by decide) (by first | assumption | exact hR _ _ (by decide) | (unfold R32; omega)) (fun z82 => ?_) (fun z82 => ?_)
        · exact absurd z82 (by decide)
        · refine m_iconst d_m_newGroup_85 ?_
          exact m_iret rfl d_m_newGroup_86 (opQ.bad (by unfold cd_newGroup; (repeat' split) <;> omega) (by decide))
    · refine m_iload_n d_m_newGroup_12 rfl ?_
      refine m_iconst d_m_newGroup_13 ?_
      refine m_icmp_lt (tgt := 40) d_m_newGroup_14 (by decide) (by first | assumption | exact hR _ _ (by decide) | (unfold R32; omega)) (by first | assumption | exact hR _ _ (by decide) | (unfold R32; omega)) (fun z14 => ?_) (fun z14 => ?_)
      · refine m_iconst d_m_newGroup_40 ?_
        refine m_istore d_m_newGroup_41 (by decide) ?_
        refine m_aload_n d_m_newGroup_43 rfl ?_
        refine m_aload_n d_m_newGroup_44 rfl ?_
        refine m_iload_n d_m_newGroup_45 rfl ?_
        refine m_callV d_m_newGroup_46 q_m_newGroup_133 s_m_isGroup v_m_isGroup rfl (t_m_isGroup hR (by assumption)) rfl rfl (Nat.le_of_ble_eq_true rfl) rfl rfl rfl ?_
        rintro _ _ _ ⟨rfl, rfl, rfl⟩
        refine m_if_ne (tgt := 56) d_m_newGroup_49 (by decide) (by first | assumption | exact hR _ _ (by decide) | (unfold R32; omega)) (fun z49 => ?_) (fun z49 => ?_)
        · refine m_iload d_m_newGroup_56 rfl ?_
          refine m_if_ne (tgt := 65) d_m_newGroup_58 (by decide) (by first | assumption | exact hR _ _ (by decide) | (unfold R32; omega)) (fun z58 => ?_) (fun z58 => ?_)
          · exact absurd z58 (by decide)
          · refine m_iconst d_m_newGroup_61 ?_
            refine m_goto (tgt := 79) d_m_newGroup_62 (by decide) ?_
            refine m_callV d_m_newGroup_79 q_m_newGroup_109 s_m_holds v_m_holds rfl (t_m_holds ⟨by omega, by omega⟩) rfl rfl (Nat.le_of_ble_eq_true rfl) rfl rfl rfl ?_
            rintro _ _ _ ⟨rfl, rfl, rfl⟩
            refine m_if_ne (tgt := 87) d_m_newGroup_82 (by decide) (by first | assumption | exact hR _ _ (by decide) | (unfold R32; omega)) (fun z82 => ?_) (fun z82 => ?_)
            · exact absurd z82 (by decide)
            · refine m_iconst d_m_newGroup_85 ?_
              exact m_iret rfl d_m_newGroup_86 (opQ.bad (by unfold cd_newGroup; (repeat' split) <;> omega) (by decide))
        · refine m_iconst d_m_newGroup_52 ?_
          refine m_goto (tgt := 79) d_m_newGroup_53 (by decide) ?_
          refine m_callV d_m_newGroup_79 q_m_newGroup_109 s_m_holds v_m_holds rfl (t_m_holds ⟨by omega, by omega⟩) rfl rfl (Nat.le_of_ble_eq_true rfl) rfl rfl rfl ?_
          rintro _ _ _ ⟨rfl, rfl, rfl⟩
          refine m_if_ne (tgt := 87) d_m_newGroup_82 (by decide) (by first | assumption | exact hR _ _ (by decide) | (unfold R32; omega)) (fun z82 => ?_) (fun z82 => ?_)
          · exact absurd z82 (by decide)
          · refine m_iconst d_m_newGroup_85 ?_
            exact m_iret rfl d_m_newGroup_86 (opQ.bad (by unfold cd_newGroup; (repeat' split) <;> omega) (by decide))
      · refine m_iload_n d_m_newGroup_17 rfl ?_
        refine m_bipush d_m_newGroup_18 (by decide) ?_
        refine m_icmp_gt (tgt := 40) d_m_newGroup_20 (by decide) (by first | assumption | exact hR _ _ (by decide) | (unfold R32; omega)) (by first | assumption | exact hR _ _ (by decide) | (unfold R32; omega)) (fun z20 => ?_) (fun z20 => ?_)
        · refine m_iconst d_m_newGroup_40 ?_
          refine m_istore d_m_newGroup_41 (by decide) ?_
          refine m_aload_n d_m_newGroup_43 rfl ?_
          refine m_aload_n d_m_newGroup_44 rfl ?_
          refine m_iload_n d_m_newGroup_45 rfl ?_
          refine m_callV d_m_newGroup_46 q_m_newGroup_133 s_m_isGroup v_m_isGroup rfl (t_m_isGroup hR (by assumption)) rfl rfl (Nat.le_of_ble_eq_true rfl) rfl rfl rfl ?_
          rintro _ _ _ ⟨rfl, rfl, rfl⟩
          refine m_if_ne (tgt := 56) d_m_newGroup_49 (by decide) (by first | assumption | exact hR _ _ (by decide) | (unfold R32; omega)) (fun z49 => ?_) (fun z49 => ?_)
          · refine m_iload d_m_newGroup_56 rfl ?_
            refine m_if_ne (tgt := 65) d_m_newGroup_58 (by decide) (by first | assumption | exact hR _ _ (by decide) | (unfold R32; omega)) (fun z58 => ?_) (fun z58 => ?_)
            · exact absurd z58 (by decide)
            · refine m_iconst d_m_newGroup_61 ?_
              refine m_goto (tgt := 79) d_m_newGroup_62 (by decide) ?_
              refine m_callV d_m_newGroup_79 q_m_newGroup_109 s_m_holds v_m_holds rfl (t_m_holds ⟨by omega, by omega⟩) rfl rfl (Nat.le_of_ble_eq_true rfl) rfl rfl rfl ?_
              rintro _ _ _ ⟨rfl, rfl, rfl⟩
              refine m_if_ne (tgt := 87) d_m_newGroup_82 (by decide) (by first | assumption | exact hR _ _ (by decide) | (unfold R32; omega)) (fun z82 => ?_) (fun z82 => ?_)
              · exact absurd z82 (by decide)
              · refine m_iconst d_m_newGroup_85 ?_
                exact m_iret rfl d_m_newGroup_86 (opQ.bad (by unfold cd_newGroup; (repeat' split) <;> omega) (by decide))
          · refine m_iconst d_m_newGroup_52 ?_
            refine m_goto (tgt := 79) d_m_newGroup_53 (by decide) ?_
            refine m_callV d_m_newGroup_79 q_m_newGroup_109 s_m_holds v_m_holds rfl (t_m_holds ⟨by omega, by omega⟩) rfl rfl (Nat.le_of_ble_eq_true rfl) rfl rfl rfl ?_
            rintro _ _ _ ⟨rfl, rfl, rfl⟩
            refine m_if_ne (tgt := 87) d_m_newGroup_82 (by decide) (by first | assumption | exact hR _ _ (by decide) | (unfold R32; omega)) (fun z82 => ?_) (fun z82 => ?_)
            · exact absurd z82 (by decide)
            · refine m_iconst d_m_newGroup_85 ?_
              exact m_iret rfl d_m_newGroup_86 (opQ.bad (by unfold cd_newGroup; (repeat' split) <;> omega) (by decide))
        · refine m_iload d_m_newGroup_23 rfl ?_
          refine m_iconst d_m_newGroup_25 ?_
          refine m_icmp_lt (tgt := 40) d_m_newGroup_26 (by decide) (by first | assumption | exact hR _ _ (by decide) | (unfold R32; omega)) (by first | assumption | exact hR _ _ (by decide) | (unfold R32; omega)) (fun z26 => ?_) (fun z26 => ?_)
          · refine m_iconst d_m_newGroup_40 ?_
            refine m_istore d_m_newGroup_41 (by decide) ?_
            refine m_aload_n d_m_newGroup_43 rfl ?_
            refine m_aload_n d_m_newGroup_44 rfl ?_
            refine m_iload_n d_m_newGroup_45 rfl ?_
            refine m_callV d_m_newGroup_46 q_m_newGroup_133 s_m_isGroup v_m_isGroup rfl (t_m_isGroup hR (by assumption)) rfl rfl (Nat.le_of_ble_eq_true rfl) rfl rfl rfl ?_
            rintro _ _ _ ⟨rfl, rfl, rfl⟩
            refine m_if_ne (tgt := 56) d_m_newGroup_49 (by decide) (by first | assumption | exact hR _ _ (by decide) | (unfold R32; omega)) (fun z49 => ?_) (fun z49 => ?_)
            · refine m_iload d_m_newGroup_56 rfl ?_
              refine m_if_ne (tgt := 65) d_m_newGroup_58 (by decide) (by first | assumption | exact hR _ _ (by decide) | (unfold R32; omega)) (fun z58 => ?_) (fun z58 => ?_)
              · exact absurd z58 (by decide)
              · refine m_iconst d_m_newGroup_61 ?_
                refine m_goto (tgt := 79) d_m_newGroup_62 (by decide) ?_
                refine m_callV d_m_newGroup_79 q_m_newGroup_109 s_m_holds v_m_holds rfl (t_m_holds ⟨by omega, by omega⟩) rfl rfl (Nat.le_of_ble_eq_true rfl) rfl rfl rfl ?_
                rintro _ _ _ ⟨rfl, rfl, rfl⟩
                refine m_if_ne (tgt := 87) d_m_newGroup_82 (by decide) (by first | assumption | exact hR _ _ (by decide) | (unfold R32; omega)) (fun z82 => ?_) (fun z82 => ?_)
                · exact absurd z82 (by decide)
                · refine m_iconst d_m_newGroup_85 ?_
                  exact m_iret rfl d_m_newGroup_86 (opQ.bad (by unfold cd_newGroup; (repeat' split) <;> omega) (by decide))
            · refine m_iconst d_m_newGroup_52 ?_
              refine m_goto (tgt := 79) d_m_newGroup_53 (by decide) ?_
              refine m_callV d_m_newGroup_79 q_m_newGroup_109 s_m_holds v_m_holds rfl (t_m_holds ⟨by omega, by omega⟩) rfl rfl (Nat.le_of_ble_eq_true rfl) rfl rfl rfl ?_
              rintro _ _ _ ⟨rfl, rfl, rfl⟩
              refine m_if_ne (tgt := 87) d_m_newGroup_82 (by decide) (by first | assumption | exact hR _ _ (by decide) | (unfold R32; omega)) (fun z82 => ?_) (fun z82 => ?_)
              · exact absurd z82 (by decide)
              · refine m_iconst d_m_newGroup_85 ?_
                exact m_iret rfl d_m_newGroup_86 (opQ.bad (by unfold cd_newGroup; (repeat' split) <;> omega) (by decide))
          · refine m_iload d_m_newGroup_29 rfl ?_
            refine m_bipush d_m_newGroup_31 (by decide) ?_
            refine m_icmp_gt (tgt := 40) d_m_newGroup_33 (by decide) (by first | assumption | exact hR _ _ (by decide) | (unfold R32; omega)) (by first | assumption | exact hR _ _ (by decide) | (unfold R32; omega)) (fun z33 => ?_) (fun z33 => ?_)
            · refine m_iconst d_m_newGroup_40 ?_
              refine m_istore d_m_newGroup_41 (by decide) ?_
              refine m_aload_n d_m_newGroup_43 rfl ?_
              refine m_aload_n d_m_newGroup_44 rfl ?_
              refine m_iload_n d_m_newGroup_45 rfl ?_
              refine m_callV d_m_newGroup_46 q_m_newGroup_133 s_m_isGroup v_m_isGroup rfl (t_m_isGroup hR (by assumption)) rfl rfl (Nat.le_of_ble_eq_true rfl) rfl rfl rfl ?_
              rintro _ _ _ ⟨rfl, rfl, rfl⟩
              refine m_if_ne (tgt := 56) d_m_newGroup_49 (by decide) (by first | assumption | exact hR _ _ (by decide) | (unfold R32; omega)) (fun z49 => ?_) (fun z49 => ?_)
              · refine m_iload d_m_newGroup_56 rfl ?_
                refine m_if_ne (tgt := 65) d_m_newGroup_58 (by decide) (by first | assumption | exact hR _ _ (by decide) | (unfold R32; omega)) (fun z58 => ?_) (fun z58 => ?_)
                · exact absurd z58 (by decide)
                · refine m_iconst d_m_newGroup_61 ?_
                  refine m_goto (tgt := 79) d_m_newGroup_62 (by decide) ?_
                  refine m_callV d_m_newGroup_79 q_m_newGroup_109 s_m_holds v_m_holds rfl (t_m_holds ⟨by omega, by omega⟩) rfl rfl (Nat.le_of_ble_eq_true rfl) rfl rfl rfl ?_
                  rintro _ _ _ ⟨rfl, rfl, rfl⟩
                  refine m_if_ne (tgt := 87) d_m_newGroup_82 (by decide) (by first | assumption | exact hR _ _ (by decide) | (unfold R32; omega)) (fun z82 => ?_) (fun z82 => ?_)
                  · exact absurd z82 (by decide)
                  · refine m_iconst d_m_newGroup_85 ?_
                    exact m_iret rfl d_m_newGroup_86 (opQ.bad (by unfold cd_newGroup; (repeat' split) <;> omega) (by decide))
              · refine m_iconst d_m_newGroup_52 ?_
                refine m_goto (tgt := 79) d_m_newGroup_53 (by decide) ?_
                refine m_callV d_m_newGroup_79 q_m_newGroup_109 s_m_holds v_m_holds rfl (t_m_holds ⟨by omega, by omega⟩) rfl rfl (Nat.le_of_ble_eq_true rfl) rfl rfl rfl ?_
                rintro _ _ _ ⟨rfl, rfl, rfl⟩
                refine m_if_ne (tgt := 87) d_m_newGroup_82 (by decide) (by first | assumption | exact hR _ _ (by decide) | (unfold R32; omega)) (fun z82 => ?_) (fun z82 => ?_)
                · exact absurd z82 (by decide)
                · refine m_iconst d_m_newGroup_85 ?_
                  exact m_iret rfl d_m_newGroup_86 (opQ.bad (by unfold cd_newGroup; (repeat' split) <;> omega) (by decide))
            · refine m_iconst d_m_newGroup_36 ?_
              refine m_goto (tgt := 41) d_m_newGroup_37 (by decide) ?_
              refine m_istore d_m_newGroup_41 (by decide) ?_
              refine m_aload_n d_m_newGroup_43 rfl ?_
              refine m_aload_n d_m_newGroup_44 rfl ?_
              refine m_iload_n d_m_newGroup_45 rfl ?_
              refine m_callV d_m_newGroup_46 q_m_newGroup_133 s_m_isGroup v_m_isGroup rfl (t_m_isGroup hR (by assumption)) rfl rfl (Nat.le_of_ble_eq_true rfl) rfl rfl rfl ?_
              rintro _ _ _ ⟨rfl, rfl, rfl⟩
              refine m_if_ne (tgt := 56) d_m_newGroup_49 (by decide) (by first | assumption | exact hR _ _ (by decide) | (unfold R32; omega)) (fun z49 => ?_) (fun z49 => ?_)
              · refine m_iload d_m_newGroup_56 rfl ?_
                refine m_if_ne (tgt := 65) d_m_newGroup_58 (by decide) (by first | assumption | exact hR _ _ (by decide) | (unfold R32; omega)) (fun z58 => ?_) (fun z58 => ?_)
                · refine m_aload_n d_m_newGroup_65 rfl ?_
                  refine mg_23 d_m_newGroup_66 rfl ?_
                  refine m_bipush d_m_newGroup_69 (by decide) ?_
                  refine m_icmp_ne (tgt := 78) d_m_newGroup_71 (by decide) (by first | assumption | exact hR _ _ (by decide) | (unfold R32; omega)) (by first | assumption | exact hR _ _ (by decide) | (unfold R32; omega)) (fun z71 => ?_) (fun z71 => ?_)
                  · refine m_iconst d_m_newGroup_78 ?_
                    refine m_callV d_m_newGroup_79 q_m_newGroup_109 s_m_holds v_m_holds rfl (t_m_holds ⟨by omega, by omega⟩) rfl rfl (Nat.le_of_ble_eq_true rfl) rfl rfl rfl ?_
                    rintro _ _ _ ⟨rfl, rfl, rfl⟩
                    refine m_if_ne (tgt := 87) d_m_newGroup_82 (by decide) (by first | assumption | exact hR _ _ (by decide) | (unfold R32; omega)) (fun z82 => ?_) (fun z82 => ?_)
                    · refine m_aload_n d_m_newGroup_87 rfl ?_
                      refine mg_27 d_m_newGroup_88 rfl ?_
                      refine m_aload_n d_m_newGroup_91 rfl ?_
                      refine mg_23 d_m_newGroup_92 rfl ?_
                      refine m_iload_n d_m_newGroup_95 rfl ?_
                      refine m_ast 8 rfl (by decide) rfl d_m_newGroup_96 (by omega) (by omega) ?_
                      refine m_aload_n d_m_newGroup_97 rfl ?_
                      refine mg_30 d_m_newGroup_98 rfl ?_
                      refine m_aload_n d_m_newGroup_101 rfl ?_
                      refine mgv_23 (S 6 0) rfl d_m_newGroup_102 rfl ?_
                      refine m_iload_n d_m_newGroup_105 rfl ?_
                      refine m_ast 8 rfl (by decide) rfl d_m_newGroup_106 (by omega) (by omega) ?_
                      refine m_aload_n d_m_newGroup_107 rfl ?_
                      refine mg_33 d_m_newGroup_108 rfl ?_
                      refine m_aload_n d_m_newGroup_111 rfl ?_
                      refine mgv_23 (S 6 0) rfl d_m_newGroup_112 rfl ?_
                      refine m_iload_n d_m_newGroup_115 rfl ?_
                      refine m_ast 8 rfl (by decide) rfl d_m_newGroup_116 (by omega) (by omega) ?_
                      refine m_aload_n d_m_newGroup_117 rfl ?_
                      refine mg_36 d_m_newGroup_118 rfl ?_
                      refine m_aload_n d_m_newGroup_121 rfl ?_
                      refine mgv_23 (S 6 0) rfl d_m_newGroup_122 rfl ?_
                      refine m_iload d_m_newGroup_125 rfl ?_
                      refine m_ast 8 rfl (by decide) rfl d_m_newGroup_127 (by omega) (by omega) ?_
                      refine m_aload_n d_m_newGroup_128 rfl ?_
                      refine m_dup d_m_newGroup_129 rfl ?_
                      refine mgv_23 (S 6 0) rfl d_m_newGroup_130 rfl ?_
                      refine m_iconst d_m_newGroup_133 ?_
                      refine m_iadd d_m_newGroup_134 ?_
                      refine mp_23 d_m_newGroup_135 rfl ?_
                      refine m_aload_n d_m_newGroup_138 rfl ?_
                      refine mgv_23 (S 6 0 + 1) rfl d_m_newGroup_139 rfl ?_
                      refine m_iconst d_m_newGroup_142 ?_
                      refine m_isub d_m_newGroup_143 ?_
                      exact m_iret rfl d_m_newGroup_144 (opQ.good (by unfold cd_newGroup; (repeat' split) <;> omega) (by unfold vl_newGroup; omega) (rfl))
                    · exact absurd z82 (by decide)
                  · refine m_iconst d_m_newGroup_74 ?_
                    refine m_goto (tgt := 79) d_m_newGroup_75 (by decide) ?_
                    refine m_callV d_m_newGroup_79 q_m_newGroup_109 s_m_holds v_m_holds rfl (t_m_holds ⟨by omega, by omega⟩) rfl rfl (Nat.le_of_ble_eq_true rfl) rfl rfl rfl ?_
                    rintro _ _ _ ⟨rfl, rfl, rfl⟩
                    refine m_if_ne (tgt := 87) d_m_newGroup_82 (by decide) (by first | assumption | exact hR _ _ (by decide) | (unfold R32; omega)) (fun z82 => ?_) (fun z82 => ?_)
                    · exact absurd z82 (by decide)
                    · refine m_iconst d_m_newGroup_85 ?_
                      exact m_iret rfl d_m_newGroup_86 (opQ.bad (by unfold cd_newGroup; (repeat' split) <;> omega) (by decide))
                · exact absurd z58 (by decide)
              · refine m_iconst d_m_newGroup_52 ?_
                refine m_goto (tgt := 79) d_m_newGroup_53 (by decide) ?_
                refine m_callV d_m_newGroup_79 q_m_newGroup_109 s_m_holds v_m_holds rfl (t_m_holds ⟨by omega, by omega⟩) rfl rfl (Nat.le_of_ble_eq_true rfl) rfl rfl rfl ?_
                rintro _ _ _ ⟨rfl, rfl, rfl⟩
                refine m_if_ne (tgt := 87) d_m_newGroup_82 (by decide) (by first | assumption | exact hR _ _ (by decide) | (unfold R32; omega)) (fun z82 => ?_) (fun z82 => ?_)
                · exact absurd z82 (by decide)
                · refine m_iconst d_m_newGroup_85 ?_
                  exact m_iret rfl d_m_newGroup_86 (opQ.bad (by unfold cd_newGroup; (repeat' split) <;> omega) (by decide))
def cd_groupMemory (S : gS) (a : Int) : Int := if 0 ≤ a ∧ a < S 6 0 then 0 else 1
def vl_groupMemory (S : gS) (a : Int) : Int := memI S a
def st_groupMemory (S : gS) (a : Int) : gS := S
theorem t_m_groupMemory {g : xG} {x0 : Nat} {ad : Nat → Nat} {tt : Int} {S : gS} {a : Int} (hI : Inv S) (ha : R32 a) : mM g y_m_groupMemory k_m_groupMemory M_m_groupMemory x0 ad [.int (iI a)] tt S (opQ S (cd_groupMemory S a) (vl_groupMemory S a) (st_groupMemory S a)) := by
  refine mM.of rfl (by decide) rfl rfl rfl (by simp [Value.category]) (Nat.le_of_ble_eq_true rfl) rfl (fun h0 => ?_)
  obtain ⟨hR, hi1, hi2, hi3, hi4, hi5, hi6, hi7⟩ := id hI
  obtain ⟨him, hgr, hco, hck⟩ := id hi1
  have e1 := isin_s a (S 6 0)
  refine m_aload_n d_m_groupMemory_0 rfl ?_
  refine m_aload_n d_m_groupMemory_1 rfl ?_
  refine m_iload_n d_m_groupMemory_2 rfl ?_
  refine m_callV d_m_groupMemory_3 q_m_groupMemory_133 s_m_isGroup v_m_isGroup rfl (t_m_isGroup hR (by assumption)) rfl rfl (Nat.le_of_ble_eq_true rfl) rfl rfl rfl ?_
  rintro _ _ _ ⟨rfl, rfl, rfl⟩
  refine m_if_eq (tgt := 13) d_m_groupMemory_6 (by decide) (by first | assumption | exact hR _ _ (by decide) | (unfold R32; omega)) (fun z6 => ?_) (fun z6 => ?_)
  · refine m_iconst d_m_groupMemory_13 ?_
    refine m_callV d_m_groupMemory_14 q_m_groupMemory_109 s_m_holds v_m_holds rfl (t_m_holds ⟨by omega, by omega⟩) rfl rfl (Nat.le_of_ble_eq_true rfl) rfl rfl rfl ?_
    rintro _ _ _ ⟨rfl, rfl, rfl⟩
    refine m_if_eq (tgt := 28) d_m_groupMemory_17 (by decide) (by first | assumption | exact hR _ _ (by decide) | (unfold R32; omega)) (fun z17 => ?_) (fun z17 => ?_)
    · refine m_iconst d_m_groupMemory_28 ?_
      exact m_iret rfl d_m_groupMemory_29 (by first | exact opQ.bad (by unfold cd_groupMemory; (repeat' split) <;> omega) (by decide) | exact opQ.good (by unfold cd_groupMemory; (repeat' split) <;> omega) rfl rfl)
    · exact absurd z17 (by decide)
  · refine m_iconst d_m_groupMemory_9 ?_
    refine m_goto (tgt := 14) d_m_groupMemory_10 (by decide) ?_
    refine m_callV d_m_groupMemory_14 q_m_groupMemory_109 s_m_holds v_m_holds rfl (t_m_holds ⟨by omega, by omega⟩) rfl rfl (Nat.le_of_ble_eq_true rfl) rfl rfl rfl ?_
    rintro _ _ _ ⟨rfl, rfl, rfl⟩
    refine m_if_eq (tgt := 28) d_m_groupMemory_17 (by decide) (by first | assumption | exact hR _ _ (by decide) | (unfold R32; omega)) (fun z17 => ?_) (fun z17 => ?_)
    · exact absurd z17 (by decide)
    · refine m_aload_n d_m_groupMemory_20 rfl ?_
      refine m_iload_n d_m_groupMemory_21 rfl ?_
      refine m_callV d_m_groupMemory_22 q_m_groupMemory_136 s_m_memoryIn v_m_memoryIn rfl (t_m_memoryIn hI (by omega) (by unfold R32; omega)) rfl rfl (Nat.le_of_ble_eq_true rfl) rfl rfl rfl ?_
      rintro _ _ _ ⟨rfl, rfl, rfl⟩
      refine m_goto (tgt := 29) d_m_groupMemory_25 (by decide) ?_
      exact m_iret rfl d_m_groupMemory_29 (by first | exact opQ.bad (by unfold cd_groupMemory; (repeat' split) <;> omega) (by decide) | exact opQ.good (by unfold cd_groupMemory; (repeat' split) <;> omega) rfl rfl)
def cd_groupProcesses (S : gS) (a : Int) : Int := if 0 ≤ a ∧ a < S 6 0 then 0 else 1
def vl_groupProcesses (S : gS) (a : Int) : Int := prcI S a
def st_groupProcesses (S : gS) (a : Int) : gS := S
theorem t_m_groupProcesses {g : xG} {x0 : Nat} {ad : Nat → Nat} {tt : Int} {S : gS} {a : Int} (hI : Inv S) (ha : R32 a) : mM g y_m_groupProcesses k_m_groupProcesses M_m_groupProcesses x0 ad [.int (iI a)] tt S (opQ S (cd_groupProcesses S a) (vl_groupProcesses S a) (st_groupProcesses S a)) := by
  refine mM.of rfl (by decide) rfl rfl rfl (by simp [Value.category]) (Nat.le_of_ble_eq_true rfl) rfl (fun h0 => ?_)
  obtain ⟨hR, hi1, hi2, hi3, hi4, hi5, hi6, hi7⟩ := id hI
  obtain ⟨him, hgr, hco, hck⟩ := id hi1
  have e1 := isin_s a (S 6 0)
  refine m_aload_n d_m_groupProcesses_0 rfl ?_
  refine m_aload_n d_m_groupProcesses_1 rfl ?_
  refine m_iload_n d_m_groupProcesses_2 rfl ?_
  refine m_callV d_m_groupProcesses_3 q_m_groupProcesses_133 s_m_isGroup v_m_isGroup rfl (t_m_isGroup hR (by assumption)) rfl rfl (Nat.le_of_ble_eq_true rfl) rfl rfl rfl ?_
  rintro _ _ _ ⟨rfl, rfl, rfl⟩
  refine m_if_eq (tgt := 13) d_m_groupProcesses_6 (by decide) (by first | assumption | exact hR _ _ (by decide) | (unfold R32; omega)) (fun z6 => ?_) (fun z6 => ?_)
  · refine m_iconst d_m_groupProcesses_13 ?_
    refine m_callV d_m_groupProcesses_14 q_m_groupProcesses_109 s_m_holds v_m_holds rfl (t_m_holds ⟨by omega, by omega⟩) rfl rfl (Nat.le_of_ble_eq_true rfl) rfl rfl rfl ?_
    rintro _ _ _ ⟨rfl, rfl, rfl⟩
    refine m_if_eq (tgt := 28) d_m_groupProcesses_17 (by decide) (by first | assumption | exact hR _ _ (by decide) | (unfold R32; omega)) (fun z17 => ?_) (fun z17 => ?_)
    · refine m_iconst d_m_groupProcesses_28 ?_
      exact m_iret rfl d_m_groupProcesses_29 (by first | exact opQ.bad (by unfold cd_groupProcesses; (repeat' split) <;> omega) (by decide) | exact opQ.good (by unfold cd_groupProcesses; (repeat' split) <;> omega) rfl rfl)
    · exact absurd z17 (by decide)
  · refine m_iconst d_m_groupProcesses_9 ?_
    refine m_goto (tgt := 14) d_m_groupProcesses_10 (by decide) ?_
    refine m_callV d_m_groupProcesses_14 q_m_groupProcesses_109 s_m_holds v_m_holds rfl (t_m_holds ⟨by omega, by omega⟩) rfl rfl (Nat.le_of_ble_eq_true rfl) rfl rfl rfl ?_
    rintro _ _ _ ⟨rfl, rfl, rfl⟩
    refine m_if_eq (tgt := 28) d_m_groupProcesses_17 (by decide) (by first | assumption | exact hR _ _ (by decide) | (unfold R32; omega)) (fun z17 => ?_) (fun z17 => ?_)
    · exact absurd z17 (by decide)
    · refine m_aload_n d_m_groupProcesses_20 rfl ?_
      refine m_iload_n d_m_groupProcesses_21 rfl ?_
      refine m_callV d_m_groupProcesses_22 q_m_groupProcesses_139 s_m_processesIn v_m_processesIn rfl (t_m_processesIn hI (by omega) (by unfold R32; omega)) rfl rfl (Nat.le_of_ble_eq_true rfl) rfl rfl rfl ?_
      rintro _ _ _ ⟨rfl, rfl, rfl⟩
      refine m_goto (tgt := 29) d_m_groupProcesses_25 (by decide) ?_
      exact m_iret rfl d_m_groupProcesses_29 (by first | exact opQ.bad (by unfold cd_groupProcesses; (repeat' split) <;> omega) (by decide) | exact opQ.good (by unfold cd_groupProcesses; (repeat' split) <;> omega) rfl rfl)
