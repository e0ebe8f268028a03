theorem tm_bel {S : gS} (h2 : Inv2 S) (h1 : Inv1 S) (u m : Int) : ∀ (n : Nat) (k : Int), k < n → -1 ≤ k → k < S 6 0 → tm S k u m ≠ -1 → bel S k (tm S k u m) = 1 ∧ (memI S (tm S k u m) + u > S 8 (tm S k u m) ∨ prcI S (tm S k u m) + m > S 9 (tm S k u m)) := by
  intro n
  induction n with
  | zero =>
    intro k a b c d
    have : k = -1 := by omega
    subst this
    exact absurd (tm_m1 S u m) d
  | succ n ih =>
    intro k a b c d
    by_cases hk : k = -1
    · subst hk; exact absurd (tm_m1 S u m) d
    · have hp := h2.pa h1 k (by omega) c
      have e := tm_s h2 h1 u m (k := k) (by omega) c
      by_cases q : memI S k + u > S 8 k ∨ prcI S k + m > S 9 k
      · rw [if_pos q] at e
        rw [e]
        exact ⟨bel_eq S k, q⟩
      · rw [if_neg q] at e
        rw [e] at d ⊢
        have hr := tm_r h2 h1 (k := S 7 k) u m hp.1 (by omega)
        have h := ih (S 7 k) (by omega) hp.1 (by omega) d
        rw [bel_s h2 h1 (by omega) (by omega) c (by omega)]
        exact h
theorem grN_1 (S : gS) (g : Int) : ∀ n : Nat, grN S g n ≠ -1 → 0 ≤ grN S g n ∧ S 19 (grN S g n) ≠ 2 ∧ bel S (S 20 (grN S g n)) g = 1 := by
  intro n
  induction n with
  | zero => intro h; exact absurd rfl h
  | succ n ih =>
    unfold grN
    split
    · rename_i q
      intro _
      exact ⟨by omega, q.1, q.2.1⟩
    · exact ih
theorem grN_2 (S : gS) (g : Int) {k : Int} (h0 : 0 ≤ k) (h1 : S 19 k ≠ 2) (h2 : bel S (S 20 k) g = 1) : ∀ n : Nat, k < n → grN S g n ≠ -1 := by
  intro n
  induction n with
  | zero => intro h; omega
  | succ n ih =>
    intro hk
    unfold grN
    split
    · omega
    · rename_i q
      by_cases hkn : k = n
      · subst hkn
        intro z
        exact q ⟨h1, h2, Or.inl z⟩
      · exact ih (by omega)
def nsN (S : gS) : Nat → Nat
  | 0 => 0
  | n + 1 => nsN S n + if S 19 n = 2 then 0 else 1
def ns (S : gS) : Nat := nsN S (S 11 0).toNat
theorem nsN_b (S : gS) : ∀ n : Nat, nsN S n ≤ n := by
  intro n
  induction n with
  | zero => exact Nat.le_refl 0
  | succ n ih => unfold nsN; split <;> omega
theorem nsN_stp (S : gS) {c : Int} (hc : 0 ≤ c) (h : S 19 c ≠ 2) : ∀ n : Nat, nsN (stp S c) n + (if c < n then 1 else 0) = nsN S n := by
  intro n
  induction n with
  | zero => rw [if_neg (by omega)]; rfl
  | succ n ih =>
    unfold nsN
    by_cases hcn : c = n
    · subst hcn
      have := stp_c S n
      rw [if_neg (by omega)] at ih
      rw [if_pos this.2.2.2.1, if_pos (by omega), if_neg h]
      omega
    · rw [(stp_n S (c := c) (j := n) (by omega)).2.2.2.1]
      have e : (if c < (n : Int) then 1 else 0) = (if c < ((n + 1 : Nat) : Int) then (1 : Nat) else 0) := by
        by_cases q : c < (n : Int)
        · rw [if_pos q, if_pos (by omega)]
        · rw [if_neg q, if_neg (by omega)]
      rw [e] at ih
      omega
theorem ns_stp {S : gS} (h1 : Inv1 S) {c : Int} (hc : 0 ≤ c) (hc2 : c < S 11 0) (h : S 19 c ≠ 2) : ns (stp S c) + 1 = ns S := by
  have e : stp S c 11 = S 11 := stp_row (by decide) (by decide) (by decide) (by decide) (by decide) (by decide)
  have := nsN_stp S hc h (S 11 0).toNat
  rw [if_pos (by omega)] at this
  unfold ns
  rw [e]
  exact this
/-- who asks for memory, how much; killed until it fits -/
def alK (c u : Int) : Nat → gS → gS
  | 0, S => S
  | n + 1, S => if tm S (S 20 c) u 0 ≠ -1 ∧ S 19 c = 0 then alK c u n (stp S (gre S (tm S (S 20 c) u 0))) else S
def cd_allocate (S : gS) (c u : Int) : Int := if ¬ (0 ≤ c ∧ c < S 11 0) then 1 else if ¬ (1 ≤ u ∧ u ≤ 5000) then 2 else if S 19 c ≠ 0 then 3 else 0
def alS (S : gS) (c u : Int) : gS := alK c u 21 S
def vl_allocate (S : gS) (c u : Int) : Int := if alS S c u 19 c = 2 then -1 else alS S c u 14 c + u
def st_allocate (S : gS) (c u : Int) : gS := if alS S c u 19 c = 2 then alS S c u else sset (alS S c u) 14 c (alS S c u 14 c + u)
/-- the victim of one round -/
theorem vict {S : gS} (hI : Inv S) {c u : Int} (hc : 0 ≤ c) (hc2 : c < S 11 0) (hs : S 19 c = 0) (ht : tm S (S 20 c) u 0 ≠ -1) : 0 ≤ tm S (S 20 c) u 0 ∧ tm S (S 20 c) u 0 < S 6 0 ∧ 0 ≤ gre S (tm S (S 20 c) u 0) ∧ gre S (tm S (S 20 c) u 0) < S 11 0 ∧ S 19 (gre S (tm S (S 20 c) u 0)) ≠ 2 := by
  obtain ⟨hR, hi1, hi2, hi3, hi4, -⟩ := id hI
  have h4 := hi4 c hc hc2
  have hr := tm_r hi2 hi1 u 0 (k := S 20 c) (by omega) (by omega)
  have hb := tm_bel hi2 hi1 u 0 (S 20 c + 1).toNat (S 20 c) (by omega) (by omega) (by omega) ht
  have hco := hi1.2.2.1
  have g2 := grN_2 S (tm S (S 20 c) u 0) hc (by omega) hb.1 (S 11 0).toNat (by omega)
  have g1 := grN_1 S (tm S (S 20 c) u 0) (S 11 0).toNat g2
  have g3 := grN_b S (tm S (S 20 c) u 0) (S 11 0).toNat
  refine ⟨by omega, by omega, g1.1, ?_, g1.2.1⟩
  show grN S (tm S (S 20 c) u 0) (S 11 0).toNat < S 11 0
  omega
theorem L_m_allocate {g : xG} {x0 : Nat} {ad : Nat → Nat} {h0 : hp} {tt : Int} {S : gS} {c u : Int} (hcd : cd_allocate S c u = 0) (hu : 1 ≤ u) (hu2 : u ≤ 5000) (hc : 0 ≤ c) : ∀ (f9 : Nat) (T : gS), ns T < f9 → Inv T → c < T 11 0 → (T 19 c = 0 ∨ T 19 c = 2) → alK c u f9 T = alS S c u → ∀ u3 u5, mW g M_m_allocate x0 ad h0 (opQ S (cd_allocate S c u) (vl_allocate S c u) (st_allocate S c u)) 0 T 62 (some (.ref x0) :: some (.int (iI c)) :: some (.int (iI u)) :: u3 :: some (.int (iI (tm T (T 20 c) u 0))) :: u5 :: []) [] := by
  intro f9
  induction f9 with
  | zero => intros; omega
  | succ f9 ih =>
    intro T h1 hI h3 h4 h5 u3 u5
    obtain ⟨hR, hi1, hi2, hi3, hi4, hi5, hi6, -⟩ := id hI
    obtain ⟨him, hgr, hco, -⟩ := id hi1
    have hp9 := tm_r hi2 hi1 u 0 (k := T 20 c) (by have := hi4 c hc h3; omega) (by have := hi4 c hc h3; omega)
    have h44 := hi4 c hc h3
    refine m_iload d_m_allocate_62 rfl ?_
    refine m_iconst d_m_allocate_64 ?_
    refine m_icmp_eq (tgt := 106) d_m_allocate_65 (by decide) (by first | exact hR _ _ (by decide) | (unfold R32; omega)) (by first | exact hR _ _ (by decide) | (unfold R32; omega)) (fun z65 => ?_) (fun z65 => ?_)
    · have e9 : T = alS S c u := by rw [← h5]; exact (if_neg (by omega)).symm
      refine m_aload_n d_m_allocate_106 rfl ?_
      refine mg_60 d_m_allocate_107 rfl ?_
      refine m_iload_n d_m_allocate_110 rfl ?_
      refine m_ald 20 rfl (by decide) rfl d_m_allocate_111 (by omega) (by omega) ?_
      refine m_iconst d_m_allocate_112 ?_
      refine m_icmp_ne (tgt := 118) d_m_allocate_113 (by decide) (by first | exact hR _ _ (by decide) | (unfold R32; omega)) (by first | exact hR _ _ (by decide) | (unfold R32; omega)) (fun z113 => ?_) (fun z113 => ?_)
      · refine m_aload_n d_m_allocate_118 rfl ?_
        refine mg_45 d_m_allocate_119 rfl ?_
        refine m_iload_n d_m_allocate_122 rfl ?_
        refine m_dup2 d_m_allocate_123 rfl rfl ?_
        refine m_ald 25 rfl (by decide) rfl d_m_allocate_124 (by omega) (by omega) ?_
        refine m_iload_n d_m_allocate_125 rfl ?_
        refine m_iadd d_m_allocate_126 ?_
        refine m_ast 25 rfl (by decide) rfl d_m_allocate_127 (by omega) (by omega) ?_
        refine m_aload_n d_m_allocate_128 rfl ?_
        refine mg_45 d_m_allocate_129 rfl ?_
        refine m_iload_n d_m_allocate_132 rfl ?_
        refine m_aldv 25 rfl (by decide) rfl (T 14 c + u) (sset_e T 14 c _) d_m_allocate_133 (by omega) (by omega) ?_
        exact m_iret rfl d_m_allocate_134 (opQ.good hcd (by unfold vl_allocate; rw [← e9, if_neg z113]) (by unfold st_allocate; rw [← e9, if_neg z113]))
      · refine m_iconst d_m_allocate_116 ?_
        exact m_iret rfl d_m_allocate_117 (opQ.good hcd (by unfold vl_allocate; rw [← e9, if_pos z113]) (by unfold st_allocate; rw [← e9, if_pos z113]))
    · refine m_aload_n d_m_allocate_68 rfl ?_
      refine mg_60 d_m_allocate_69 rfl ?_
      refine m_iload_n d_m_allocate_72 rfl ?_
      refine m_ald 20 rfl (by decide) rfl d_m_allocate_73 (by omega) (by omega) ?_
      refine m_if_ne (tgt := 106) d_m_allocate_74 (by decide) (by first | exact hR _ _ (by decide) | (unfold R32; omega)) (fun z74 => ?_) (fun z74 => ?_)
      · have e9 : T = alS S c u := by rw [← h5]; exact (if_neg (by omega)).symm
        refine m_aload_n d_m_allocate_106 rfl ?_
        refine mg_60 d_m_allocate_107 rfl ?_
        refine m_iload_n d_m_allocate_110 rfl ?_
        refine m_ald 20 rfl (by decide) rfl d_m_allocate_111 (by omega) (by omega) ?_
        refine m_iconst d_m_allocate_112 ?_
        refine m_icmp_ne (tgt := 118) d_m_allocate_113 (by decide) (by first | exact hR _ _ (by decide) | (unfold R32; omega)) (by first | exact hR _ _ (by decide) | (unfold R32; omega)) (fun z113 => ?_) (fun z113 => ?_)
        · refine m_aload_n d_m_allocate_118 rfl ?_
          refine mg_45 d_m_allocate_119 rfl ?_
          refine m_iload_n d_m_allocate_122 rfl ?_
          refine m_dup2 d_m_allocate_123 rfl rfl ?_
          refine m_ald 25 rfl (by decide) rfl d_m_allocate_124 (by omega) (by omega) ?_
          refine m_iload_n d_m_allocate_125 rfl ?_
          refine m_iadd d_m_allocate_126 ?_
          refine m_ast 25 rfl (by decide) rfl d_m_allocate_127 (by omega) (by omega) ?_
          refine m_aload_n d_m_allocate_128 rfl ?_
          refine mg_45 d_m_allocate_129 rfl ?_
          refine m_iload_n d_m_allocate_132 rfl ?_
          refine m_aldv 25 rfl (by decide) rfl (T 14 c + u) (sset_e T 14 c _) d_m_allocate_133 (by omega) (by omega) ?_
          exact m_iret rfl d_m_allocate_134 (opQ.good hcd (by unfold vl_allocate; rw [← e9, if_neg z113]) (by unfold st_allocate; rw [← e9, if_neg z113]))
        · refine m_iconst d_m_allocate_116 ?_
          exact m_iret rfl d_m_allocate_117 (opQ.good hcd (by unfold vl_allocate; rw [← e9, if_pos z113]) (by unfold st_allocate; rw [← e9, if_pos z113]))
      · have hv := vict hI (u := u) hc h3 z74 z65
        refine m_aload_n d_m_allocate_77 rfl ?_
        refine m_aload_n d_m_allocate_78 rfl ?_
        refine m_iload d_m_allocate_79 rfl ?_
        refine m_callV d_m_allocate_81 q_m_allocate_158 s_m_greatest v_m_greatest rfl (t_m_greatest hI hv.1 (by unfold R32; omega)) rfl rfl (Nat.le_of_ble_eq_true rfl) rfl rfl rfl ?_
        rintro _ _ _ ⟨rfl, rfl, rfl⟩
        refine m_callV d_m_allocate_84 q_m_allocate_152 s_m_stops v_m_stops rfl (t_m_stops hR hv.2.2.1 (by omega)) rfl rfl (Nat.le_of_ble_eq_true rfl) rfl rfl rfl ?_
        rintro _ _ _ ⟨rfl, rfl, rfl⟩
        refine m_istore d_m_allocate_87 (by decide) ?_
        have hI9 := Inv_stp hI hv.2.2.1 hv.2.2.2.1
        have hn9 := ns_stp hi1 hv.2.2.1 hv.2.2.2.1 hv.2.2.2.2
        have h49 := hI9.2.2.2.2.1 c hc (show c < T 11 0 from h3)
        have h69 := hI9.2.1.2.1
        refine m_aload_n d_m_allocate_89 rfl ?_
        refine m_aload_n d_m_allocate_90 rfl ?_
        refine mg_63 d_m_allocate_91 rfl ?_
        refine m_iload_n d_m_allocate_94 rfl ?_
        refine m_ald 20 rfl (by decide) rfl d_m_allocate_95 (by omega) (by omega) ?_
        refine m_iload_n d_m_allocate_96 rfl ?_
        refine m_iconst d_m_allocate_97 ?_
        refine m_callV d_m_allocate_98 q_m_allocate_142 s_m_tooMuch v_m_tooMuch rfl (t_m_tooMuch hI9 (by omega) (by omega) (by omega) (by omega) (by omega) (by omega)) rfl rfl (Nat.le_of_ble_eq_true rfl) rfl rfl rfl ?_
        rintro _ _ _ ⟨rfl, rfl, rfl⟩
        refine m_istore d_m_allocate_101 (by decide) ?_
        refine m_goto (tgt := 62) d_m_allocate_103 (by decide) ?_
        refine ih (stp T (gre T (tm T (T 20 c) u 0))) (by omega) hI9 (show c < T 11 0 from h3) ?_ ?_ _ _
        · by_cases q : c = gre T (tm T (T 20 c) u 0)
          · rw [← q]; exact Or.inr (stp_c T c).2.2.2.1
          · rw [(stp_n T q).2.2.2.1]; exact Or.inl z74
        · rw [← h5]; exact (if_pos ⟨z65, z74⟩).symm
theorem t_m_allocate {g : xG} {x0 : Nat} {ad : Nat → Nat} {tt : Int} {S : gS} {c u : Int} (hI : Inv S) (hc : R32 c) (hu : R32 u) : mM g y_m_allocate k_m_allocate M_m_allocate x0 ad [.int (iI c), .int (iI u)] tt S (opQ S (cd_allocate S c u) (vl_allocate S c u) (st_allocate S c u)) := by
  refine mM.of rfl (by decide) rfl rfl rfl (by simp [Value.category]) (Nat.le_of_ble_eq_true rfl) rfl (fun h0 => ?_)
  obtain ⟨hR, hi1, hi2, hi3, hi4, hi5, hi6, hi7⟩ := id hI
  obtain ⟨him, hgr, hco, hck⟩ := id hi1
  have e1 := isin_s c (S 11 0)
  have e2 := iun_s u
  refine m_aload_n d_m_allocate_0 rfl ?_
  refine m_iload_n d_m_allocate_1 rfl ?_
  refine m_callV d_m_allocate_2 q_m_allocate_123 s_m_isContainer v_m_isContainer rfl (t_m_isContainer hR (by assumption)) rfl rfl (Nat.le_of_ble_eq_true rfl) rfl rfl rfl ?_
  rintro _ _ _ ⟨rfl, rfl, rfl⟩
  refine m_istore_n d_m_allocate_5 (by decide) ?_
  refine m_aload_n d_m_allocate_6 rfl ?_
  refine m_iload_n d_m_allocate_7 rfl ?_
  refine m_if_ne (tgt := 15) d_m_allocate_8 (by decide) (by first | assumption | exact hR _ _ (by decide) | (unfold R32; omega)) (fun z8 => ?_) (fun z8 => ?_)
  · refine m_iload_n d_m_allocate_15 rfl ?_
    refine m_callS d_m_allocate_16 q_m_allocate_155 s_m_areUnits (t_m_areUnits g hu) rfl rfl (Nat.le_of_ble_eq_true rfl) rfl rfl rfl ?_
    rintro _ rfl
    refine m_if_ne (tgt := 26) d_m_allocate_19 (by decide) (by first | assumption | exact hR _ _ (by decide) | (unfold R32; omega)) (fun z19 => ?_) (fun z19 => ?_)
    · refine m_aload_n d_m_allocate_26 rfl ?_
      refine mg_60 d_m_allocate_27 rfl ?_
      refine m_iload_n d_m_allocate_30 rfl ?_
      refine m_ald 20 rfl (by decide) rfl d_m_allocate_31 (by omega) (by omega) ?_
      refine m_if_eq (tgt := 39) d_m_allocate_32 (by decide) (by first | assumption | exact hR _ _ (by decide) | (unfold R32; omega)) (fun z32 => ?_) (fun z32 => ?_)
      · refine m_iconst d_m_allocate_39 ?_
        refine m_callV d_m_allocate_40 q_m_allocate_109 s_m_holds v_m_holds rfl (t_m_holds ⟨by omega, by omega⟩) rfl rfl (Nat.le_of_ble_eq_true rfl) rfl rfl rfl ?_
        rintro _ _ _ ⟨rfl, rfl, rfl⟩
        refine m_if_ne (tgt := 48) d_m_allocate_43 (by decide) (by first | assumption | exact hR _ _ (by decide) | (unfold R32; omega)) (fun z43 => ?_) (fun z43 => ?_)
        · have h44 := hi4 c (by omega) (by omega)
          refine m_aload_n d_m_allocate_48 rfl ?_
          refine m_aload_n d_m_allocate_49 rfl ?_
          refine mg_63 d_m_allocate_50 rfl ?_
          refine m_iload_n d_m_allocate_53 rfl ?_
          refine m_ald 20 rfl (by decide) rfl d_m_allocate_54 (by omega) (by omega) ?_
          refine m_iload_n d_m_allocate_55 rfl ?_
          refine m_iconst d_m_allocate_56 ?_
          refine m_callV d_m_allocate_57 q_m_allocate_142 s_m_tooMuch v_m_tooMuch rfl (t_m_tooMuch hI (by omega) (by omega) (by omega) (by omega) (by omega) (by omega)) rfl rfl (Nat.le_of_ble_eq_true rfl) rfl rfl rfl ?_
          rintro _ _ _ ⟨rfl, rfl, rfl⟩
          refine m_istore d_m_allocate_60 (by decide) ?_
          have hcd : cd_allocate S c u = 0 := by unfold cd_allocate; (repeat' split) <;> omega
          exact L_m_allocate (tt := 0) hcd (by omega) (by omega) (by omega) 21 S (by have := nsN_b S (S 11 0).toNat; unfold ns; omega) hI (by omega) (Or.inl z32) rfl _ _
        · exact absurd z43 (by decide)
      · refine m_iconst d_m_allocate_35 ?_
        refine m_goto (tgt := 40) d_m_allocate_36 (by decide) ?_
        refine m_callV d_m_allocate_40 q_m_allocate_109 s_m_holds v_m_holds rfl (t_m_holds ⟨by omega, by omega⟩) rfl rfl (Nat.le_of_ble_eq_true rfl) rfl rfl rfl ?_
        rintro _ _ _ ⟨rfl, rfl, rfl⟩
        refine m_if_ne (tgt := 48) d_m_allocate_43 (by decide) (by first | assumption | exact hR _ _ (by decide) | (unfold R32; omega)) (fun z43 => ?_) (fun z43 => ?_)
        · exact absurd z43 (by decide)
        · refine m_iconst d_m_allocate_46 ?_
          exact m_iret rfl d_m_allocate_47 (opQ.bad (by unfold cd_allocate; (repeat' split) <;> omega) (by decide))
    · refine m_iconst d_m_allocate_22 ?_
      refine m_goto (tgt := 40) d_m_allocate_23 (by decide) ?_
      refine m_callV d_m_allocate_40 q_m_allocate_109 s_m_holds v_m_holds rfl (t_m_holds ⟨by omega, by omega⟩) rfl rfl (Nat.le_of_ble_eq_true rfl) rfl rfl rfl ?_
      rintro _ _ _ ⟨rfl, rfl, rfl⟩
      refine m_if_ne (tgt := 48) d_m_allocate_43 (by decide) (by first | assumption | exact hR _ _ (by decide) | (unfold R32; omega)) (fun z43 => ?_) (fun z43 => ?_)
      · exact absurd z43 (by decide)
      · refine m_iconst d_m_allocate_46 ?_
        exact m_iret rfl d_m_allocate_47 (opQ.bad (by unfold cd_allocate; (repeat' split) <;> omega) (by decide))
  · refine m_iconst d_m_allocate_11 ?_
    refine m_goto (tgt := 40) d_m_allocate_12 (by decide) ?_
    refine m_callV d_m_allocate_40 q_m_allocate_109 s_m_holds v_m_holds rfl (t_m_holds ⟨by omega, by omega⟩) rfl rfl (Nat.le_of_ble_eq_true rfl) rfl rfl rfl ?_
    rintro _ _ _ ⟨rfl, rfl, rfl⟩
    refine m_if_ne (tgt := 48) d_m_allocate_43 (by decide) (by first | assumption | exact hR _ _ (by decide) | (unfold R32; omega)) (fun z43 => ?_) (fun z43 => ?_)
    · exact absurd z43 (by decide)
    · refine m_iconst d_m_allocate_46 ?_
      exact m_iret rfl d_m_allocate_47 (opQ.bad (by unfold cd_allocate; (repeat' split) <;> omega) (by decide))
