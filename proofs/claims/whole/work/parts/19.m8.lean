def aaN (S : gS) (x : Int) : Nat → Int
  | 0 => -1
  | n + 1 => if S 21 n = x then n else aaN S x n
def aat (S : gS) (b a : Int) : Int := aaN S (10 * b + a) (S 11 0).toNat
theorem aaN_b (S : gS) (x : Int) : ∀ n : Nat, -1 ≤ aaN S x n ∧ aaN S x n < n := by
  intro n
  induction n with
  | zero => unfold aaN; omega
  | succ n ih => unfold aaN; split <;> omega
theorem aat_b {S : gS} (h1 : Inv1 S) (b a : Int) : -1 ≤ aat S b a ∧ aat S b a < S 11 0 := by
  have h := h1.2.2.1
  have := aaN_b S (10 * b + a) (S 11 0).toNat
  unfold aat
  omega
def faN (S : gS) (b : Int) : Nat → Int → Int
  | 0, a => a
  | n + 1, a => if a ≤ 6 ∧ aat S b a ≠ -1 then faN S b n (a + 1) else a
def fad (S : gS) (b : Int) : Int := faN S b 6 1
theorem L_m_atAddress {g : xG} {x0 : Nat} {ad : Nat → Nat} {h0 : hp} {tt : Int} {S : gS} {b a : Int} (hI : Inv S) (hb : 0 ≤ b) (hb2 : b ≤ 1000) (ha : 0 ≤ a) (ha2 : a ≤ 1000) : ∀ (f9 n : Nat), (n : Int) ≤ S 11 0 → S 11 0 < n + f9 → mW g M_m_atAddress x0 ad h0 (fun v t9 S9 => v = some (.int (iI (aat S b a))) ∧ tt = t9 ∧ S = S9) tt S 5 [some (.ref x0), some (.int (iI b)), some (.int (iI a)), some (.int (iI (aaN S (10 * b + a) n))), some (.int (iI (n : Int)))] [] := by
  intro f9
  induction f9 with
  | zero => intros; omega
  | succ f9 ih =>
    intro n h1 h2
    obtain ⟨hR, hi1, hi2, hi3, hi4, -⟩ := id hI
    obtain ⟨him, hgr, hco, -⟩ := id hi1
    refine m_iload d_m_atAddress_5 rfl ?_
    refine m_aload_n d_m_atAddress_7 rfl ?_
    refine mg_94 d_m_atAddress_8 rfl ?_
    refine m_icmp_ge (tgt := 43) d_m_atAddress_11 (by decide) (by first | assumption | exact hR _ _ (by decide) | (unfold R32; omega)) (by first | assumption | exact hR _ _ (by decide) | (unfold R32; omega)) (fun z11 => ?_) (fun z11 => ?_)
    · refine m_iload_n d_m_atAddress_43 rfl ?_
      exact m_iret rfl d_m_atAddress_44 (⟨congrArg (fun z => some (Value.int (iI z))) (by unfold aat; rw [show (S 11 0).toNat = n by omega]), rfl, rfl⟩)
    · refine m_aload_n d_m_atAddress_14 rfl ?_
      refine mg_66 d_m_atAddress_15 rfl ?_
      refine m_iload d_m_atAddress_18 rfl ?_
      refine m_ald 20 rfl (by decide) rfl d_m_atAddress_20 (by omega) (by omega) ?_
      refine m_bipush d_m_atAddress_21 (by decide) ?_
      refine m_iload_n d_m_atAddress_23 rfl ?_
      refine m_imul d_m_atAddress_24 ?_
      refine m_iload_n d_m_atAddress_25 rfl ?_
      refine m_iadd d_m_atAddress_26 ?_
      refine m_icmp_ne (tgt := 35) d_m_atAddress_27 (by decide) (by first | assumption | exact hR _ _ (by decide) | (unfold R32; omega)) (by first | assumption | exact hR _ _ (by decide) | (unfold R32; omega)) (fun z27 => ?_) (fun z27 => ?_)
      · refine m_iload_n d_m_atAddress_35 rfl ?_
        refine m_istore_n d_m_atAddress_36 (by decide) ?_
        refine m_iinc d_m_atAddress_37 rfl (by decide) ?_
        refine m_goto (tgt := 5) d_m_atAddress_40 (by decide) ?_
        have hs9 : aaN S (10 * b + a) (n + 1) = (if S 21 n = 10 * b + a then (n : Int) else aaN S (10 * b + a) n) := rfl
        first
          | (rw [if_pos z27] at hs9; have := ih (n + 1) (by omega) (by omega); rw [hs9, show ((n + 1 : Nat) : Int) = (n : Int) + 1 by omega] at this; exact this)
          | (rw [if_neg z27] at hs9; have := ih (n + 1) (by omega) (by omega); rw [hs9, show ((n + 1 : Nat) : Int) = (n : Int) + 1 by omega] at this; exact this)
      · refine m_iload d_m_atAddress_30 rfl ?_
        refine m_goto (tgt := 36) d_m_atAddress_32 (by decide) ?_
        refine m_istore_n d_m_atAddress_36 (by decide) ?_
        refine m_iinc d_m_atAddress_37 rfl (by decide) ?_
        refine m_goto (tgt := 5) d_m_atAddress_40 (by decide) ?_
        have hs9 : aaN S (10 * b + a) (n + 1) = (if S 21 n = 10 * b + a then (n : Int) else aaN S (10 * b + a) n) := rfl
        first
          | (rw [if_pos z27] at hs9; have := ih (n + 1) (by omega) (by omega); rw [hs9, show ((n + 1 : Nat) : Int) = (n : Int) + 1 by omega] at this; exact this)
          | (rw [if_neg z27] at hs9; have := ih (n + 1) (by omega) (by omega); rw [hs9, show ((n + 1 : Nat) : Int) = (n : Int) + 1 by omega] at this; exact this)
theorem t_m_atAddress {g : xG} {x0 : Nat} {ad : Nat → Nat} {tt : Int} {S : gS} {b a : Int} (hI : Inv S) (hb : 0 ≤ b) (hb2 : b ≤ 1000) (ha : 0 ≤ a) (ha2 : a ≤ 1000) : mM g y_m_atAddress k_m_atAddress M_m_atAddress x0 ad [.int (iI b), .int (iI a)] tt S (fun v t9 S9 => v = some (.int (iI (aat S b a))) ∧ tt = t9 ∧ S = S9) := by
  refine mM.of rfl (by decide) rfl rfl rfl (by simp [Value.category]) (Nat.le_of_ble_eq_true rfl) rfl (fun h0 => ?_)
  obtain ⟨hR, hi1, hi2, hi3, hi4, hi5, hi6, hi7⟩ := id hI
  obtain ⟨him, hgr, hco, hck⟩ := id hi1
  refine m_iconst d_m_atAddress_0 ?_
  refine m_istore_n d_m_atAddress_1 (by decide) ?_
  refine m_iconst d_m_atAddress_2 ?_
  refine m_istore d_m_atAddress_3 (by decide) ?_
  exact L_m_atAddress hI hb hb2 ha ha2 ((S 11 0).toNat + 1) 0 (by omega) (by omega)
theorem L0_m_freeAddress {g : xG} {x0 : Nat} {ad : Nat → Nat} {h0 : hp} {tt : Int} {S : gS} {b r : Int} (hI : Inv S) (hb : 0 ≤ b) (hb2 : b ≤ 1000) (n : Nat) (a : Int) (h1 : a + n = 7) (h2 : n ≤ 0) (h3 : 1 ≤ a) (h4 : faN S b n a = r) : mW g M_m_freeAddress x0 ad h0 (fun v t9 S9 => v = some (.int (iI (r))) ∧ tt = t9 ∧ S = S9) tt S 2 [some (.ref x0), some (.int (iI b)), some (.int (iI a))] [] := by
  have hR : hRp S := hI.1
  refine m_iload_n d_m_freeAddress_2 rfl ?_
  refine m_bipush d_m_freeAddress_3 (by decide) ?_
  refine m_icmp_gt (tgt := 24) d_m_freeAddress_5 (by decide) (by unfold R32; omega) (by unfold R32; omega) (fun z5 => ?_) (fun z5 => by omega)
  refine m_iload_n d_m_freeAddress_24 rfl ?_
  exact m_iret rfl d_m_freeAddress_25 (⟨congrArg (fun z => some (Value.int (iI z))) (by rw [← h4, show n = 0 by omega]; rfl), rfl, rfl⟩)
theorem L_m_freeAddress {g : xG} {x0 : Nat} {ad : Nat → Nat} {h0 : hp} {tt : Int} {S : gS} {b r : Int} (hI : Inv S) (hb : 0 ≤ b) (hb2 : b ≤ 1000) : ∀ (f9 n : Nat) (a : Int), a + n = 7 → n ≤ f9 → 1 ≤ a → faN S b n a = r → mW g M_m_freeAddress x0 ad h0 (fun v t9 S9 => v = some (.int (iI (r))) ∧ tt = t9 ∧ S = S9) tt S 2 [some (.ref x0), some (.int (iI b)), some (.int (iI a))] [] := by
  intro f9
  induction f9 with
  | zero => intros; rename_i n a h1 h2 h3 h4; exact L0_m_freeAddress (tt := tt) hI hb hb2 n a h1 (by omega) h3 h4
  | succ f9 ih =>
    intro n a h1 h2 h3 h4
    obtain ⟨hR, hi1, hi2, hi3, hi4, -⟩ := id hI
    obtain ⟨him, hgr, hco, -⟩ := id hi1
    refine m_iload_n d_m_freeAddress_2 rfl ?_
    refine m_bipush d_m_freeAddress_3 (by decide) ?_
    refine m_icmp_gt (tgt := 24) d_m_freeAddress_5 (by decide) (by first | assumption | exact hR _ _ (by decide) | (unfold R32; omega)) (by first | assumption | exact hR _ _ (by decide) | (unfold R32; omega)) (fun z5 => ?_) (fun z5 => ?_)
    · refine m_iload_n d_m_freeAddress_24 rfl ?_
      exact m_iret rfl d_m_freeAddress_25 (⟨congrArg (fun z => some (Value.int (iI z))) (by cases n with
    | zero => rw [← h4]; rfl
    | succ n => rw [← h4]; show a = if a ≤ 6 ∧ aat S b a ≠ -1 then faN S b n (a + 1) else a; rw [if_neg (by omega)]), rfl, rfl⟩)
    · refine m_aload_n d_m_freeAddress_8 rfl ?_
      refine m_iload_n d_m_freeAddress_9 rfl ?_
      refine m_iload_n d_m_freeAddress_10 rfl ?_
      refine m_callV d_m_freeAddress_11 q_m_freeAddress_189 s_m_atAddress v_m_atAddress rfl (t_m_atAddress hI hb hb2 (by omega) (by omega)) rfl rfl (Nat.le_of_ble_eq_true rfl) rfl rfl rfl ?_
      rintro _ _ _ ⟨rfl, rfl, rfl⟩
      have hq := aat_b hi1 b a
      refine m_iconst d_m_freeAddress_14 ?_
      refine m_icmp_eq (tgt := 24) d_m_freeAddress_15 (by decide) (by first | assumption | exact hR _ _ (by decide) | (unfold R32; omega)) (by first | assumption | exact hR _ _ (by decide) | (unfold R32; omega)) (fun z15 => ?_) (fun z15 => ?_)
      · refine m_iload_n d_m_freeAddress_24 rfl ?_
        exact m_iret rfl d_m_freeAddress_25 (⟨congrArg (fun z => some (Value.int (iI z))) (by cases n with
    | zero => rw [← h4]; rfl
    | succ n => rw [← h4]; show a = if a ≤ 6 ∧ aat S b a ≠ -1 then faN S b n (a + 1) else a; rw [if_neg (by omega)]), rfl, rfl⟩)
      · refine m_iinc d_m_freeAddress_18 rfl (by decide) ?_
        refine m_goto (tgt := 2) d_m_freeAddress_21 (by decide) ?_
        cases n with
        | zero => omega
        | succ n =>
          have h5 : (if a ≤ 6 ∧ aat S b a ≠ -1 then faN S b n (a + 1) else a) = r := h4
          rw [if_pos ⟨by omega, z15⟩] at h5
          exact ih n (a + 1) (by omega) (by omega) (by omega) h5
theorem t_m_freeAddress {g : xG} {x0 : Nat} {ad : Nat → Nat} {tt : Int} {S : gS} {b : Int} (hI : Inv S) (hb : 0 ≤ b) (hb2 : b ≤ 1000) : mM g y_m_freeAddress k_m_freeAddress M_m_freeAddress x0 ad [.int (iI b)] tt S (fun v t9 S9 => v = some (.int (iI (fad S b))) ∧ tt = t9 ∧ S = S9) := by
  refine mM.of rfl (by decide) rfl rfl rfl (by simp [Value.category]) (Nat.le_of_ble_eq_true rfl) rfl (fun h0 => ?_)
  obtain ⟨hR, hi1, hi2, hi3, hi4, hi5, hi6, hi7⟩ := id hI
  obtain ⟨him, hgr, hco, hck⟩ := id hi1
  refine m_iconst d_m_freeAddress_0 ?_
  refine m_istore_n d_m_freeAddress_1 (by decide) ?_
  exact L_m_freeAddress hI hb hb2 7 6 1 (by omega) (by omega) (by omega) rfl
theorem faN_b (S : gS) (b : Int) : ∀ (n : Nat) (a : Int), a ≤ faN S b n a ∧ faN S b n a ≤ a + n := by
  intro n
  induction n with
  | zero => intro a; unfold faN; omega
  | succ n ih => intro a; have := ih (a + 1); unfold faN; split <;> omega
theorem fad_b (S : gS) (b : Int) : 1 ≤ fad S b ∧ fad S b ≤ 7 := by
  have := faN_b S b 6 1
  unfold fad
  omega
def cd_attach (S : gS) (c b : Int) : Int := if ¬ (0 ≤ c ∧ c < S 11 0 ∧ 0 ≤ b ∧ b < 4) then 1 else if S 19 c = 0 ∧ bit (S 17 c) 2 = 1 ∧ S 21 c = -1 ∧ fad S b ≤ 6 then 0 else 2
def vl_attach (S : gS) (c b : Int) : Int := fad S b
def st_attach (S : gS) (c b : Int) : gS := sset S 21 c (10 * b + fad S b)
theorem t_m_attach {g : xG} {x0 : Nat} {ad : Nat → Nat} {tt : Int} {S : gS} {c b : Int} (hI : Inv S) (hc : R32 c) (hb : R32 b) : mM g y_m_attach k_m_attach M_m_attach x0 ad [.int (iI c), .int (iI b)] tt S (opQ S (cd_attach S c b) (vl_attach S c b) (st_attach S c b)) := by
  refine mM.of rfl (by decide) rfl rfl rfl (by simp [Value.category]) (Nat.le_of_ble_eq_true rfl) rfl (fun h0 => ?_)
  obtain ⟨hR, hi1, hi2, hi3, hi4, hi5, hi6, hi7⟩ := id hI
  obtain ⟨him, hgr, hco, hck⟩ := id hi1
  have e1 := isin_s c (S 11 0)
  have e2 := isin_s b 4
  have e3 := bit_01 (S 17 c) 2
  have e4 := fad_b S b
  refine m_aload_n d_m_attach_0 rfl ?_
  refine m_iload_n d_m_attach_1 rfl ?_
  refine m_callV d_m_attach_2 q_m_attach_123 s_m_isContainer v_m_isContainer rfl (t_m_isContainer hR (by assumption)) rfl rfl (Nat.le_of_ble_eq_true rfl) rfl rfl rfl ?_
  rintro _ _ _ ⟨rfl, rfl, rfl⟩
  refine m_if_eq (tgt := 20) d_m_attach_5 (by decide) (by first | assumption | exact hR _ _ (by decide) | (unfold R32; omega)) (fun z5 => ?_) (fun z5 => ?_)
  · refine m_iconst d_m_attach_20 ?_
    refine m_istore_n d_m_attach_21 (by decide) ?_
    refine m_iload_n d_m_attach_22 rfl ?_
    refine m_if_eq (tgt := 68) d_m_attach_23 (by decide) (by first | assumption | exact hR _ _ (by decide) | (unfold R32; omega)) (fun z23 => ?_) (fun z23 => ?_)
    · refine m_iconst d_m_attach_68 ?_
      refine m_istore d_m_attach_69 (by decide) ?_
      refine m_aload_n d_m_attach_71 rfl ?_
      refine m_iload_n d_m_attach_72 rfl ?_
      refine m_if_ne (tgt := 80) d_m_attach_73 (by decide) (by first | assumption | exact hR _ _ (by decide) | (unfold R32; omega)) (fun z73 => ?_) (fun z73 => ?_)
      · exact absurd z73 (by decide)
      · refine m_iconst d_m_attach_76 ?_
        refine m_goto (tgt := 90) d_m_attach_77 (by decide) ?_
        refine m_callV d_m_attach_90 q_m_attach_109 s_m_holds v_m_holds rfl (t_m_holds ⟨by omega, by omega⟩) rfl rfl (Nat.le_of_ble_eq_true rfl) rfl rfl rfl ?_
        rintro _ _ _ ⟨rfl, rfl, rfl⟩
        refine m_if_ne (tgt := 98) d_m_attach_93 (by decide) (by first | assumption | exact hR _ _ (by decide) | (unfold R32; omega)) (fun z93 => ?_) (fun z93 => ?_)
        · exact absurd z93 (by decide)
        · refine m_iconst d_m_attach_96 ?_
          exact m_iret rfl d_m_attach_97 (opQ.bad (by unfold cd_attach; (repeat' split) <;> omega) (by decide))
    · exact absurd z23 (by decide)
  · refine m_iload_n d_m_attach_8 rfl ?_
    refine m_iconst d_m_attach_9 ?_
    refine m_callS d_m_attach_10 q_m_attach_90 s_m_isIn (t_m_isIn g hb ⟨by omega, by omega⟩) rfl rfl (Nat.le_of_ble_eq_true rfl) rfl rfl rfl ?_
    rintro _ rfl
    refine m_if_eq (tgt := 20) d_m_attach_13 (by decide) (by first | assumption | exact hR _ _ (by decide) | (unfold R32; omega)) (fun z13 => ?_) (fun z13 => ?_)
    · refine m_iconst d_m_attach_20 ?_
      refine m_istore_n d_m_attach_21 (by decide) ?_
      refine m_iload_n d_m_attach_22 rfl ?_
      refine m_if_eq (tgt := 68) d_m_attach_23 (by decide) (by first | assumption | exact hR _ _ (by decide) | (unfold R32; omega)) (fun z23 => ?_) (fun z23 => ?_)
      · refine m_iconst d_m_attach_68 ?_
        refine m_istore d_m_attach_69 (by decide) ?_
        refine m_aload_n d_m_attach_71 rfl ?_
        refine m_iload_n d_m_attach_72 rfl ?_
        refine m_if_ne (tgt := 80) d_m_attach_73 (by decide) (by first | assumption | exact hR _ _ (by decide) | (unfold R32; omega)) (fun z73 => ?_) (fun z73 => ?_)
        · exact absurd z73 (by decide)
        · refine m_iconst d_m_attach_76 ?_
          refine m_goto (tgt := 90) d_m_attach_77 (by decide) ?_
          refine m_callV d_m_attach_90 q_m_attach_109 s_m_holds v_m_holds rfl (t_m_holds ⟨by omega, by omega⟩) rfl rfl (Nat.le_of_ble_eq_true rfl) rfl rfl rfl ?_
          rintro _ _ _ ⟨rfl, rfl, rfl⟩
          refine m_if_ne (tgt := 98) d_m_attach_93 (by decide) (by first | assumption | exact hR _ _ (by decide) | (unfold R32; omega)) (fun z93 => ?_) (fun z93 => ?_)
          · exact absurd z93 (by decide)
          · refine m_iconst d_m_attach_96 ?_
            exact m_iret rfl d_m_attach_97 (opQ.bad (by unfold cd_attach; (repeat' split) <;> omega) (by decide))
      · exact absurd z23 (by decide)
    · refine m_iconst d_m_attach_16 ?_
      refine m_goto (tgt := 21) d_m_attach_17 (by decide) ?_
      refine m_istore_n d_m_attach_21 (by decide) ?_
      refine m_iload_n d_m_attach_22 rfl ?_
      refine m_if_eq (tgt := 68) d_m_attach_23 (by decide) (by first | assumption | exact hR _ _ (by decide) | (unfold R32; omega)) (fun z23 => ?_) (fun z23 => ?_)
      · exact absurd z23 (by decide)
      · refine m_aload_n d_m_attach_26 rfl ?_
        refine mg_60 d_m_attach_27 rfl ?_
        refine m_iload_n d_m_attach_30 rfl ?_
        refine m_ald 20 rfl (by decide) rfl d_m_attach_31 (by omega) (by omega) ?_
        refine m_if_ne (tgt := 68) d_m_attach_32 (by decide) (by first | assumption | exact hR _ _ (by decide) | (unfold R32; omega)) (fun z32 => ?_) (fun z32 => ?_)
        · refine m_iconst d_m_attach_68 ?_
          refine m_istore d_m_attach_69 (by decide) ?_
          refine m_aload_n d_m_attach_71 rfl ?_
          refine m_iload_n d_m_attach_72 rfl ?_
          refine m_if_ne (tgt := 80) d_m_attach_73 (by decide) (by first | assumption | exact hR _ _ (by decide) | (unfold R32; omega)) (fun z73 => ?_) (fun z73 => ?_)
          · refine m_iload d_m_attach_80 rfl ?_
            refine m_if_eq (tgt := 89) d_m_attach_82 (by decide) (by first | assumption | exact hR _ _ (by decide) | (unfold R32; omega)) (fun z82 => ?_) (fun z82 => ?_)
            · refine m_iconst d_m_attach_89 ?_
              refine m_callV d_m_attach_90 q_m_attach_109 s_m_holds v_m_holds rfl (t_m_holds ⟨by omega, by omega⟩) rfl rfl (Nat.le_of_ble_eq_true rfl) rfl rfl rfl ?_
              rintro _ _ _ ⟨rfl, rfl, rfl⟩
              refine m_if_ne (tgt := 98) d_m_attach_93 (by decide) (by first | assumption | exact hR _ _ (by decide) | (unfold R32; omega)) (fun z93 => ?_) (fun z93 => ?_)
              · exact absurd z93 (by decide)
              · refine m_iconst d_m_attach_96 ?_
                exact m_iret rfl d_m_attach_97 (opQ.bad (by unfold cd_attach; (repeat' split) <;> omega) (by decide))
            · exact absurd z82 (by decide)
          · exact absurd z73 (by decide)
        · refine m_aload_n d_m_attach_35 rfl ?_
          refine m_iload_n d_m_attach_36 rfl ?_
          refine m_iconst d_m_attach_37 ?_
          refine m_callV d_m_attach_38 q_m_attach_173 s_m_isEffective v_m_isEffective rfl (t_m_isEffective hI (by omega) (by omega) (by omega) (by omega)) rfl rfl (Nat.le_of_ble_eq_true rfl) rfl rfl rfl ?_
          rintro _ _ _ ⟨rfl, rfl, rfl⟩
          refine m_if_eq (tgt := 68) d_m_attach_41 (by decide) (by first | assumption | exact hR _ _ (by decide) | (unfold R32; omega)) (fun z41 => ?_) (fun z41 => ?_)
          · refine m_iconst d_m_attach_68 ?_
            refine m_istore d_m_attach_69 (by decide) ?_
            refine m_aload_n d_m_attach_71 rfl ?_
            refine m_iload_n d_m_attach_72 rfl ?_
            refine m_if_ne (tgt := 80) d_m_attach_73 (by decide) (by first | assumption | exact hR _ _ (by decide) | (unfold R32; omega)) (fun z73 => ?_) (fun z73 => ?_)
            · refine m_iload d_m_attach_80 rfl ?_
              refine m_if_eq (tgt := 89) d_m_attach_82 (by decide) (by first | assumption | exact hR _ _ (by decide) | (unfold R32; omega)) (fun z82 => ?_) (fun z82 => ?_)
              · refine m_iconst d_m_attach_89 ?_
                refine m_callV d_m_attach_90 q_m_attach_109 s_m_holds v_m_holds rfl (t_m_holds ⟨by omega, by omega⟩) rfl rfl (Nat.le_of_ble_eq_true rfl) rfl rfl rfl ?_
                rintro _ _ _ ⟨rfl, rfl, rfl⟩
                refine m_if_ne (tgt := 98) d_m_attach_93 (by decide) (by first | assumption | exact hR _ _ (by decide) | (unfold R32; omega)) (fun z93 => ?_) (fun z93 => ?_)
                · exact absurd z93 (by decide)
                · refine m_iconst d_m_attach_96 ?_
                  exact m_iret rfl d_m_attach_97 (opQ.bad (by unfold cd_attach; (repeat' split) <;> omega) (by decide))
              · exact absurd z82 (by decide)
            · exact absurd z73 (by decide)
          · refine m_aload_n d_m_attach_44 rfl ?_
            refine mg_66 d_m_attach_45 rfl ?_
            refine m_iload_n d_m_attach_48 rfl ?_
            refine m_ald 20 rfl (by decide) rfl d_m_attach_49 (by omega) (by omega) ?_
            refine m_iconst d_m_attach_50 ?_
            refine m_icmp_ne (tgt := 68) d_m_attach_51 (by decide) (by first | assumption | exact hR _ _ (by decide) | (unfold R32; omega)) (by first | assumption | exact hR _ _ (by decide) | (unfold R32; omega)) (fun z51 => ?_) (fun z51 => ?_)
            · refine m_iconst d_m_attach_68 ?_
              refine m_istore d_m_attach_69 (by decide) ?_
              refine m_aload_n d_m_attach_71 rfl ?_
              refine m_iload_n d_m_attach_72 rfl ?_
              refine m_if_ne (tgt := 80) d_m_attach_73 (by decide) (by first | assumption | exact hR _ _ (by decide) | (unfold R32; omega)) (fun z73 => ?_) (fun z73 => ?_)
              · refine m_iload d_m_attach_80 rfl ?_
                refine m_if_eq (tgt := 89) d_m_attach_82 (by decide) (by first | assumption | exact hR _ _ (by decide) | (unfold R32; omega)) (fun z82 => ?_) (fun z82 => ?_)
                · refine m_iconst d_m_attach_89 ?_
                  refine m_callV d_m_attach_90 q_m_attach_109 s_m_holds v_m_holds rfl (t_m_holds ⟨by omega, by omega⟩) rfl rfl (Nat.le_of_ble_eq_true rfl) rfl rfl rfl ?_
                  rintro _ _ _ ⟨rfl, rfl, rfl⟩
                  refine m_if_ne (tgt := 98) d_m_attach_93 (by decide) (by first | assumption | exact hR _ _ (by decide) | (unfold R32; omega)) (fun z93 => ?_) (fun z93 => ?_)
                  · exact absurd z93 (by decide)
                  · refine m_iconst d_m_attach_96 ?_
                    exact m_iret rfl d_m_attach_97 (opQ.bad (by unfold cd_attach; (repeat' split) <;> omega) (by decide))
                · exact absurd z82 (by decide)
              · exact absurd z73 (by decide)
            · refine m_aload_n d_m_attach_54 rfl ?_
              refine m_iload_n d_m_attach_55 rfl ?_
              refine m_callV d_m_attach_56 q_m_attach_192 s_m_freeAddress v_m_freeAddress rfl (t_m_freeAddress hI (by omega) (by omega)) rfl rfl (Nat.le_of_ble_eq_true rfl) rfl rfl rfl ?_
              rintro _ _ _ ⟨rfl, rfl, rfl⟩
              refine m_bipush d_m_attach_59 (by decide) ?_
              refine m_icmp_gt (tgt := 68) d_m_attach_61 (by decide) (by first | assumption | exact hR _ _ (by decide) | (unfold R32; omega)) (by first | assumption | exact hR _ _ (by decide) | (unfold R32; omega)) (fun z61 => ?_) (fun z61 => ?_)
              · refine m_iconst d_m_attach_68 ?_
                refine m_istore d_m_attach_69 (by decide) ?_
                refine m_aload_n d_m_attach_71 rfl ?_
                refine m_iload_n d_m_attach_72 rfl ?_
                refine m_if_ne (tgt := 80) d_m_attach_73 (by decide) (by first | assumption | exact hR _ _ (by decide) | (unfold R32; omega)) (fun z73 => ?_) (fun z73 => ?_)
                · refine m_iload d_m_attach_80 rfl ?_
                  refine m_if_eq (tgt := 89) d_m_attach_82 (by decide) (by first | assumption | exact hR _ _ (by decide) | (unfold R32; omega)) (fun z82 => ?_) (fun z82 => ?_)
                  · refine m_iconst d_m_attach_89 ?_
                    refine m_callV d_m_attach_90 q_m_attach_109 s_m_holds v_m_holds rfl (t_m_holds ⟨by omega, by omega⟩) rfl rfl (Nat.le_of_ble_eq_true rfl) rfl rfl rfl ?_
                    rintro _ _ _ ⟨rfl, rfl, rfl⟩
                    refine m_if_ne (tgt := 98) d_m_attach_93 (by decide) (by first | assumption | exact hR _ _ (by decide) | (unfold R32; omega)) (fun z93 => ?_) (fun z93 => ?_)
                    · exact absurd z93 (by decide)
                    · refine m_iconst d_m_attach_96 ?_
                      exact m_iret rfl d_m_attach_97 (opQ.bad (by unfold cd_attach; (repeat' split) <;> omega) (by decide))
                  · exact absurd z82 (by decide)
                · exact absurd z73 (by decide)
              · refine m_iconst d_m_attach_64 ?_
                refine m_goto (tgt := 69) d_m_attach_65 (by decide) ?_
                refine m_istore d_m_attach_69 (by decide) ?_
                refine m_aload_n d_m_attach_71 rfl ?_
                refine m_iload_n d_m_attach_72 rfl ?_
                refine m_if_ne (tgt := 80) d_m_attach_73 (by decide) (by first | assumption | exact hR _ _ (by decide) | (unfold R32; omega)) (fun z73 => ?_) (fun z73 => ?_)
                · refine m_iload d_m_attach_80 rfl ?_
                  refine m_if_eq (tgt := 89) d_m_attach_82 (by decide) (by first | assumption | exact hR _ _ (by decide) | (unfold R32; omega)) (fun z82 => ?_) (fun z82 => ?_)
                  · exact absurd z82 (by decide)
                  · refine m_iconst d_m_attach_85 ?_
                    refine m_goto (tgt := 90) d_m_attach_86 (by decide) ?_
                    refine m_callV d_m_attach_90 q_m_attach_109 s_m_holds v_m_holds rfl (t_m_holds ⟨by omega, by omega⟩) rfl rfl (Nat.le_of_ble_eq_true rfl) rfl rfl rfl ?_
                    rintro _ _ _ ⟨rfl, rfl, rfl⟩
                    refine m_if_ne (tgt := 98) d_m_attach_93 (by decide) (by first | assumption | exact hR _ _ (by decide) | (unfold R32; omega)) (fun z93 => ?_) (fun z93 => ?_)
                    · refine m_aload_n d_m_attach_98 rfl ?_
                      refine m_iload_n d_m_attach_99 rfl ?_
                      refine m_callV d_m_attach_100 q_m_attach_192 s_m_freeAddress v_m_freeAddress rfl (t_m_freeAddress hI (by omega) (by omega)) rfl rfl (Nat.le_of_ble_eq_true rfl) rfl rfl rfl ?_
                      rintro _ _ _ ⟨rfl, rfl, rfl⟩
                      refine m_istore d_m_attach_103 (by decide) ?_
                      refine m_aload_n d_m_attach_105 rfl ?_
                      refine mg_66 d_m_attach_106 rfl ?_
                      refine m_iload_n d_m_attach_109 rfl ?_
                      refine m_bipush d_m_attach_110 (by decide) ?_
                      refine m_iload_n d_m_attach_112 rfl ?_
                      refine m_imul d_m_attach_113 ?_
                      refine m_iload d_m_attach_114 rfl ?_
                      refine m_iadd d_m_attach_116 ?_
                      refine m_ast 20 rfl (by decide) rfl d_m_attach_117 (by omega) (by omega) ?_
                      refine m_iload d_m_attach_118 rfl ?_
                      exact m_iret rfl d_m_attach_120 (opQ.good (by unfold cd_attach; (repeat' split) <;> omega) (rfl) (rfl))
                    · exact absurd z93 (by decide)
                · exact absurd z73 (by decide)
def cd_detach (S : gS) (c : Int) : Int := if ¬ (0 ≤ c ∧ c < S 11 0) then 1 else if S 19 c ≠ 0 ∨ S 21 c = -1 then 2 else 0
def vl_detach (S : gS) (c : Int) : Int := S 21 c / 10
def st_detach (S : gS) (c : Int) : gS := sset S 21 c (-1)
theorem t_m_detach {g : xG} {x0 : Nat} {ad : Nat → Nat} {tt : Int} {S : gS} {c : Int} (hI : Inv S) (hc : R32 c) : mM g y_m_detach k_m_detach M_m_detach x0 ad [.int (iI c)] tt S (opQ S (cd_detach S c) (vl_detach S c) (st_detach S c)) := by
  refine mM.of rfl (by decide) rfl rfl rfl (by simp [Value.category]) (Nat.le_of_ble_eq_true rfl) rfl (fun h0 => ?_)
  obtain ⟨hR, hi1, hi2, hi3, hi4, hi5, hi6, hi7⟩ := id hI
  obtain ⟨him, hgr, hco, hck⟩ := id hi1
  have e1 := isin_s c (S 11 0)
  refine m_aload_n d_m_detach_0 rfl ?_
  refine m_iload_n d_m_detach_1 rfl ?_
  refine m_callV d_m_detach_2 q_m_detach_123 s_m_isContainer v_m_isContainer rfl (t_m_isContainer hR (by assumption)) rfl rfl (Nat.le_of_ble_eq_true rfl) rfl rfl rfl ?_
  rintro _ _ _ ⟨rfl, rfl, rfl⟩
  refine m_istore_n d_m_detach_5 (by decide) ?_
  refine m_aload_n d_m_detach_6 rfl ?_
  refine m_iload_n d_m_detach_7 rfl ?_
  refine m_if_ne (tgt := 15) d_m_detach_8 (by decide) (by first | assumption | exact hR _ _ (by decide) | (unfold R32; omega)) (fun z8 => ?_) (fun z8 => ?_)
  · refine m_aload_n d_m_detach_15 rfl ?_
    refine mg_60 d_m_detach_16 rfl ?_
    refine m_iload_n d_m_detach_19 rfl ?_
    refine m_ald 20 rfl (by decide) rfl d_m_detach_20 (by omega) (by omega) ?_
    refine m_if_ne (tgt := 34) d_m_detach_21 (by decide) (by first | assumption | exact hR _ _ (by decide) | (unfold R32; omega)) (fun z21 => ?_) (fun z21 => ?_)
    · refine m_iconst d_m_detach_34 ?_
      refine m_goto (tgt := 39) d_m_detach_35 (by decide) ?_
      refine m_callV d_m_detach_39 q_m_detach_109 s_m_holds v_m_holds rfl (t_m_holds ⟨by omega, by omega⟩) rfl rfl (Nat.le_of_ble_eq_true rfl) rfl rfl rfl ?_
      rintro _ _ _ ⟨rfl, rfl, rfl⟩
      refine m_if_ne (tgt := 47) d_m_detach_42 (by decide) (by first | assumption | exact hR _ _ (by decide) | (unfold R32; omega)) (fun z42 => ?_) (fun z42 => ?_)
      · exact absurd z42 (by decide)
      · refine m_iconst d_m_detach_45 ?_
        exact m_iret rfl d_m_detach_46 (opQ.bad (by unfold cd_detach; (repeat' split) <;> omega) (by decide))
    · refine m_aload_n d_m_detach_24 rfl ?_
      refine mg_66 d_m_detach_25 rfl ?_
      refine m_iload_n d_m_detach_28 rfl ?_
      refine m_ald 20 rfl (by decide) rfl d_m_detach_29 (by omega) (by omega) ?_
      refine m_iconst d_m_detach_30 ?_
      refine m_icmp_ne (tgt := 38) d_m_detach_31 (by decide) (by first | assumption | exact hR _ _ (by decide) | (unfold R32; omega)) (by first | assumption | exact hR _ _ (by decide) | (unfold R32; omega)) (fun z31 => ?_) (fun z31 => ?_)
      · refine m_iconst d_m_detach_38 ?_
        refine m_callV d_m_detach_39 q_m_detach_109 s_m_holds v_m_holds rfl (t_m_holds ⟨by omega, by omega⟩) rfl rfl (Nat.le_of_ble_eq_true rfl) rfl rfl rfl ?_
        rintro _ _ _ ⟨rfl, rfl, rfl⟩
        refine m_if_ne (tgt := 47) d_m_detach_42 (by decide) (by first | assumption | exact hR _ _ (by decide) | (unfold R32; omega)) (fun z42 => ?_) (fun z42 => ?_)
        · have e6 := hi4 c (by omega) (by omega)
          refine m_aload_n d_m_detach_47 rfl ?_
          refine mg_66 d_m_detach_48 rfl ?_
          refine m_iload_n d_m_detach_51 rfl ?_
          refine m_ald 20 rfl (by decide) rfl d_m_detach_52 (by omega) (by omega) ?_
          refine m_bipush d_m_detach_53 (by decide) ?_
          refine m_idivI d_m_detach_55 (by omega) (by first | assumption | exact hR _ _ (by decide) | (unfold R32; omega)) (by decide) (by first | assumption | exact hR _ _ (by decide) | (unfold R32; omega)) ?_
          refine m_istore_n d_m_detach_56 (by decide) ?_
          refine m_aload_n d_m_detach_57 rfl ?_
          refine mg_66 d_m_detach_58 rfl ?_
          refine m_iload_n d_m_detach_61 rfl ?_
          refine m_iconst d_m_detach_62 ?_
          refine m_ast 20 rfl (by decide) rfl d_m_detach_63 (by omega) (by omega) ?_
          refine m_iload_n d_m_detach_64 rfl ?_
          exact m_iret rfl d_m_detach_65 (opQ.good (by unfold cd_detach; (repeat' split) <;> omega) (rfl) (rfl))
        · exact absurd z42 (by decide)
      · refine m_iconst d_m_detach_34 ?_
        refine m_goto (tgt := 39) d_m_detach_35 (by decide) ?_
        refine m_callV d_m_detach_39 q_m_detach_109 s_m_holds v_m_holds rfl (t_m_holds ⟨by omega, by omega⟩) rfl rfl (Nat.le_of_ble_eq_true rfl) rfl rfl rfl ?_
        rintro _ _ _ ⟨rfl, rfl, rfl⟩
        refine m_if_ne (tgt := 47) d_m_detach_42 (by decide) (by first | assumption | exact hR _ _ (by decide) | (unfold R32; omega)) (fun z42 => ?_) (fun z42 => ?_)
        · exact absurd z42 (by decide)
        · refine m_iconst d_m_detach_45 ?_
          exact m_iret rfl d_m_detach_46 (opQ.bad (by unfold cd_detach; (repeat' split) <;> omega) (by decide))
  · refine m_iconst d_m_detach_11 ?_
    refine m_goto (tgt := 39) d_m_detach_12 (by decide) ?_
    refine m_callV d_m_detach_39 q_m_detach_109 s_m_holds v_m_holds rfl (t_m_holds ⟨by omega, by omega⟩) rfl rfl (Nat.le_of_ble_eq_true rfl) rfl rfl rfl ?_
    rintro _ _ _ ⟨rfl, rfl, rfl⟩
    refine m_if_ne (tgt := 47) d_m_detach_42 (by decide) (by first | assumption | exact hR _ _ (by decide) | (unfold R32; omega)) (fun z42 => ?_) (fun z42 => ?_)
    · exact absurd z42 (by decide)
    · refine m_iconst d_m_detach_45 ?_
      exact m_iret rfl d_m_detach_46 (opQ.bad (by unfold cd_detach; (repeat' split) <;> omega) (by decide))
def cd_connectHost (S : gS) (k : Int) : Int := if 0 ≤ k ∧ k < 32 then 0 else 1
def vl_connectHost (S : gS) (k : Int) : Int := if S 24 k ≠ -1 ∧ S 19 (S 24 k) = 0 then S 24 k else -1
def st_connectHost (S : gS) (k : Int) : gS := S
theorem t_m_connectHost {g : xG} {x0 : Nat} {ad : Nat → Nat} {tt : Int} {S : gS} {k : Int} (hI : Inv S) (hk : R32 k) : mM g y_m_connectHost k_m_connectHost M_m_connectHost x0 ad [.int (iI k)] tt S (opQ S (cd_connectHost S k) (vl_connectHost S k) (st_connectHost S k)) := by
  refine mM.of rfl (by decide) rfl rfl rfl (by simp [Value.category]) (Nat.le_of_ble_eq_true rfl) rfl (fun h0 => ?_)
  obtain ⟨hR, hi1, hi2, hi3, hi4, hi5, hi6, hi7⟩ := id hI
  obtain ⟨him, hgr, hco, hck⟩ := id hi1
  have e1 := isin_s k 32
  refine m_aload_n d_m_connectHost_0 rfl ?_
  refine m_iload_n d_m_connectHost_1 rfl ?_
  refine m_bipush d_m_connectHost_2 (by decide) ?_
  refine m_callS d_m_connectHost_4 q_m_connectHost_90 s_m_isIn (t_m_isIn g hk ⟨by omega, by omega⟩) rfl rfl (Nat.le_of_ble_eq_true rfl) rfl rfl rfl ?_
  rintro _ rfl
  refine m_if_eq (tgt := 14) d_m_connectHost_7 (by decide) (by first | assumption | exact hR _ _ (by decide) | (unfold R32; omega)) (fun z7 => ?_) (fun z7 => ?_)
  · refine m_iconst d_m_connectHost_14 ?_
    refine m_callV d_m_connectHost_15 q_m_connectHost_109 s_m_holds v_m_holds rfl (t_m_holds ⟨by omega, by omega⟩) rfl rfl (Nat.le_of_ble_eq_true rfl) rfl rfl rfl ?_
    rintro _ _ _ ⟨rfl, rfl, rfl⟩
    refine m_if_ne (tgt := 23) d_m_connectHost_18 (by decide) (by first | assumption | exact hR _ _ (by decide) | (unfold R32; omega)) (fun z18 => ?_) (fun z18 => ?_)
    · exact absurd z18 (by decide)
    · refine m_iconst d_m_connectHost_21 ?_
      exact m_iret rfl d_m_connectHost_22 (opQ.bad (by unfold cd_connectHost; (repeat' split) <;> omega) (by decide))
  · refine m_iconst d_m_connectHost_10 ?_
    refine m_goto (tgt := 15) d_m_connectHost_11 (by decide) ?_
    refine m_callV d_m_connectHost_15 q_m_connectHost_109 s_m_holds v_m_holds rfl (t_m_holds ⟨by omega, by omega⟩) rfl rfl (Nat.le_of_ble_eq_true rfl) rfl rfl rfl ?_
    rintro _ _ _ ⟨rfl, rfl, rfl⟩
    refine m_if_ne (tgt := 23) d_m_connectHost_18 (by decide) (by first | assumption | exact hR _ _ (by decide) | (unfold R32; omega)) (fun z18 => ?_) (fun z18 => ?_)
    · have e6 := hi6.2.2.2 k (by omega) (by omega)
      refine m_aload_n d_m_connectHost_23 rfl ?_
      refine mg_72 d_m_connectHost_24 rfl ?_
      refine m_iload_n d_m_connectHost_27 rfl ?_
      refine m_ald 32 rfl (by decide) rfl d_m_connectHost_28 (by omega) (by omega) ?_
      refine m_istore_n d_m_connectHost_29 (by decide) ?_
      refine m_iload_n d_m_connectHost_30 rfl ?_
      refine m_iconst d_m_connectHost_31 ?_
      refine m_icmp_eq (tgt := 48) d_m_connectHost_32 (by decide) (by first | assumption | exact hR _ _ (by decide) | (unfold R32; omega)) (by first | assumption | exact hR _ _ (by decide) | (unfold R32; omega)) (fun z32 => ?_) (fun z32 => ?_)
      · refine m_iconst d_m_connectHost_48 ?_
        exact m_iret rfl d_m_connectHost_49 (opQ.good (by unfold cd_connectHost; (repeat' split) <;> omega) (by unfold vl_connectHost; first | rw [if_pos (by omega)] | rw [if_neg (by omega)]) (rfl))
      · refine m_aload_n d_m_connectHost_35 rfl ?_
        refine mg_60 d_m_connectHost_36 rfl ?_
        refine m_iload_n d_m_connectHost_39 rfl ?_
        refine m_ald 20 rfl (by decide) rfl d_m_connectHost_40 (by omega) (by omega) ?_
        refine m_if_ne (tgt := 48) d_m_connectHost_41 (by decide) (by first | assumption | exact hR _ _ (by decide) | (unfold R32; omega)) (fun z41 => ?_) (fun z41 => ?_)
        · refine m_iconst d_m_connectHost_48 ?_
          exact m_iret rfl d_m_connectHost_49 (opQ.good (by unfold cd_connectHost; (repeat' split) <;> omega) (by unfold vl_connectHost; first | rw [if_pos (by omega)] | rw [if_neg (by omega)]) (rfl))
        · refine m_iload_n d_m_connectHost_44 rfl ?_
          refine m_goto (tgt := 49) d_m_connectHost_45 (by decide) ?_
          exact m_iret rfl d_m_connectHost_49 (opQ.good (by unfold cd_connectHost; (repeat' split) <;> omega) (by unfold vl_connectHost; first | rw [if_pos (by omega)] | rw [if_neg (by omega)]) (rfl))
    · exact absurd z18 (by decide)
def cnr (S : gS) (c a : Int) : Int := aat S (S 21 c / 10) a
def cd_connect (S : gS) (c a p : Int) : Int := if ¬ (0 ≤ c ∧ c < S 11 0 ∧ 0 ≤ p ∧ p < 16) then 1 else if ¬ (1 ≤ a ∧ a ≤ 6) then 2 else if S 19 c ≠ 0 ∨ S 21 c = -1 then 3 else 0
def vl_connect (S : gS) (c a p : Int) : Int := if cnr S c a ≠ -1 ∧ S 19 (cnr S c a) = 0 ∧ bit (S 18 (cnr S c a)) p = 1 then cnr S c a else -1
def st_connect (S : gS) (c a p : Int) : gS := S
theorem t_m_connect {g : xG} {x0 : Nat} {ad : Nat → Nat} {tt : Int} {S : gS} {c a p : Int} (hI : Inv S) (hc : R32 c) (ha : R32 a) (hp : R32 p) : mM g y_m_connect k_m_connect M_m_connect x0 ad [.int (iI c), .int (iI a), .int (iI p)] tt S (opQ S (cd_connect S c a p) (vl_connect S c a p) (st_connect S c a p)) := by
  refine mM.of rfl (by decide) rfl rfl rfl (by simp [Value.category]) (Nat.le_of_ble_eq_true rfl) rfl (fun h0 => ?_)
  obtain ⟨hR, hi1, hi2, hi3, hi4, hi5, hi6, hi7⟩ := id hI
  obtain ⟨him, hgr, hco, hck⟩ := id hi1
  have e1 := isin_s c (S 11 0)
  have e2 := isin_s p 16
  refine m_aload_n d_m_connect_0 rfl ?_
  refine m_iload_n d_m_connect_1 rfl ?_
  refine m_callV d_m_connect_2 q_m_connect_123 s_m_isContainer v_m_isContainer rfl (t_m_isContainer hR (by assumption)) rfl rfl (Nat.le_of_ble_eq_true rfl) rfl rfl rfl ?_
  rintro _ _ _ ⟨rfl, rfl, rfl⟩
  refine m_if_eq (tgt := 21) d_m_connect_5 (by decide) (by first | assumption | exact hR _ _ (by decide) | (unfold R32; omega)) (fun z5 => ?_) (fun z5 => ?_)
  · refine m_iconst d_m_connect_21 ?_
    refine m_istore d_m_connect_22 (by decide) ?_
    refine m_aload_n d_m_connect_24 rfl ?_
    refine m_iload d_m_connect_25 rfl ?_
    refine m_if_ne (tgt := 34) d_m_connect_27 (by decide) (by first | assumption | exact hR _ _ (by decide) | (unfold R32; omega)) (fun z27 => ?_) (fun z27 => ?_)
    · exact absurd z27 (by decide)
    · refine m_iconst d_m_connect_30 ?_
      refine m_goto (tgt := 73) d_m_connect_31 (by decide) ?_
      refine m_callV d_m_connect_73 q_m_connect_109 s_m_holds v_m_holds rfl (t_m_holds ⟨by omega, by omega⟩) rfl rfl (Nat.le_of_ble_eq_true rfl) rfl rfl rfl ?_
      rintro _ _ _ ⟨rfl, rfl, rfl⟩
      refine m_if_ne (tgt := 81) d_m_connect_76 (by decide) (by first | assumption | exact hR _ _ (by decide) | (unfold R32; omega)) (fun z76 => ?_) (fun z76 => ?_)
      · exact absurd z76 (by decide)
      · refine m_iconst d_m_connect_79 ?_
        exact m_iret rfl d_m_connect_80 (opQ.bad (by unfold cd_connect; (repeat' split) <;> omega) (by decide))
  · refine m_iload_n d_m_connect_8 rfl ?_
    refine m_bipush d_m_connect_9 (by decide) ?_
    refine m_callS d_m_connect_11 q_m_connect_90 s_m_isIn (t_m_isIn g hp ⟨by omega, by omega⟩) rfl rfl (Nat.le_of_ble_eq_true rfl) rfl rfl rfl ?_
    rintro _ rfl
    refine m_if_eq (tgt := 21) d_m_connect_14 (by decide) (by first | assumption | exact hR _ _ (by decide) | (unfold R32; omega)) (fun z14 => ?_) (fun z14 => ?_)
    · refine m_iconst d_m_connect_21 ?_
      refine m_istore d_m_connect_22 (by decide) ?_
      refine m_aload_n d_m_connect_24 rfl ?_
      refine m_iload d_m_connect_25 rfl ?_
      refine m_if_ne (tgt := 34) d_m_connect_27 (by decide) (by first | assumption | exact hR _ _ (by decide) | (unfold R32; omega)) (fun z27 => ?_) (fun z27 => ?_)
      · exact absurd z27 (by decide)
      · refine m_iconst d_m_connect_30 ?_
        refine m_goto (tgt := 73) d_m_connect_31 (by decide) ?_
        refine m_callV d_m_connect_73 q_m_connect_109 s_m_holds v_m_holds rfl (t_m_holds ⟨by omega, by omega⟩) rfl rfl (Nat.le_of_ble_eq_true rfl) rfl rfl rfl ?_
        rintro _ _ _ ⟨rfl, rfl, rfl⟩
        refine m_if_ne (tgt := 81) d_m_connect_76 (by decide) (by first | assumption | exact hR _ _ (by decide) | (unfold R32; omega)) (fun z76 => ?_) (fun z76 => ?_)
        · exact absurd z76 (by decide)
        · refine m_iconst d_m_connect_79 ?_
          exact m_iret rfl d_m_connect_80 (opQ.bad (by unfold cd_connect; (repeat' split) <;> omega) (by decide))
    · refine m_iconst d_m_connect_17 ?_
      refine m_goto (tgt := 22) d_m_connect_18 (by decide) ?_
      refine m_istore d_m_connect_22 (by decide) ?_
      refine m_aload_n d_m_connect_24 rfl ?_
      refine m_iload d_m_connect_25 rfl ?_
      refine m_if_ne (tgt := 34) d_m_connect_27 (by decide) (by first | assumption | exact hR _ _ (by decide) | (unfold R32; omega)) (fun z27 => ?_) (fun z27 => ?_)
      · refine m_iload_n d_m_connect_34 rfl ?_
        refine m_iconst d_m_connect_35 ?_
        refine m_icmp_lt (tgt := 45) d_m_connect_36 (by decide) (by first | assumption | exact hR _ _ (by decide) | (unfold R32; omega)) (by first | assumption | exact hR _ _ (by decide) | (unfold R32; omega)) (fun z36 => ?_) (fun z36 => ?_)
        · refine m_iconst d_m_connect_45 ?_
          refine m_goto (tgt := 73) d_m_connect_46 (by decide) ?_
          refine m_callV d_m_connect_73 q_m_connect_109 s_m_holds v_m_holds rfl (t_m_holds ⟨by omega, by omega⟩) rfl rfl (Nat.le_of_ble_eq_true rfl) rfl rfl rfl ?_
          rintro _ _ _ ⟨rfl, rfl, rfl⟩
          refine m_if_ne (tgt := 81) d_m_connect_76 (by decide) (by first | assumption | exact hR _ _ (by decide) | (unfold R32; omega)) (fun z76 => ?_) (fun z76 => ?_)
          · exact absurd z76 (by decide)
          · refine m_iconst d_m_connect_79 ?_
            exact m_iret rfl d_m_connect_80 (opQ.bad (by unfold cd_connect; (repeat' split) <;> omega) (by decide))
        · refine m_iload_n d_m_connect_39 rfl ?_
          refine m_bipush d_m_connect_40 (by decide) ?_
          refine m_icmp_le (tgt := 49) d_m_connect_42 (by decide) (by first | assumption | exact hR _ _ (by decide) | (unfold R32; omega)) (by first | assumption | exact hR _ _ (by decide) | (unfold R32; omega)) (fun z42 => ?_) (fun z42 => ?_)
          · refine m_aload_n d_m_connect_49 rfl ?_
            refine mg_60 d_m_connect_50 rfl ?_
            refine m_iload_n d_m_connect_53 rfl ?_
            refine m_ald 20 rfl (by decide) rfl d_m_connect_54 (by omega) (by omega) ?_
            refine m_if_ne (tgt := 68) d_m_connect_55 (by decide) (by first | assumption | exact hR _ _ (by decide) | (unfold R32; omega)) (fun z55 => ?_) (fun z55 => ?_)
            · refine m_iconst d_m_connect_68 ?_
              refine m_goto (tgt := 73) d_m_connect_69 (by decide) ?_
              refine m_callV d_m_connect_73 q_m_connect_109 s_m_holds v_m_holds rfl (t_m_holds ⟨by omega, by omega⟩) rfl rfl (Nat.le_of_ble_eq_true rfl) rfl rfl rfl ?_
              rintro _ _ _ ⟨rfl, rfl, rfl⟩
              refine m_if_ne (tgt := 81) d_m_connect_76 (by decide) (by first | assumption | exact hR _ _ (by decide) | (unfold R32; omega)) (fun z76 => ?_) (fun z76 => ?_)
              · exact absurd z76 (by decide)
              · refine m_iconst d_m_connect_79 ?_
                exact m_iret rfl d_m_connect_80 (opQ.bad (by unfold cd_connect; (repeat' split) <;> omega) (by decide))
            · refine m_aload_n d_m_connect_58 rfl ?_
              refine mg_66 d_m_connect_59 rfl ?_
              refine m_iload_n d_m_connect_62 rfl ?_
              refine m_ald 20 rfl (by decide) rfl d_m_connect_63 (by omega) (by omega) ?_
              refine m_iconst d_m_connect_64 ?_
              refine m_icmp_ne (tgt := 72) d_m_connect_65 (by decide) (by first | assumption | exact hR _ _ (by decide) | (unfold R32; omega)) (by first | assumption | exact hR _ _ (by decide) | (unfold R32; omega)) (fun z65 => ?_) (fun z65 => ?_)
              · refine m_iconst d_m_connect_72 ?_
                refine m_callV d_m_connect_73 q_m_connect_109 s_m_holds v_m_holds rfl (t_m_holds ⟨by omega, by omega⟩) rfl rfl (Nat.le_of_ble_eq_true rfl) rfl rfl rfl ?_
                rintro _ _ _ ⟨rfl, rfl, rfl⟩
                refine m_if_ne (tgt := 81) d_m_connect_76 (by decide) (by first | assumption | exact hR _ _ (by decide) | (unfold R32; omega)) (fun z76 => ?_) (fun z76 => ?_)
                · have e6 := hi4 c (by omega) (by omega)
                  refine m_aload_n d_m_connect_81 rfl ?_
                  refine m_aload_n d_m_connect_82 rfl ?_
                  refine mg_66 d_m_connect_83 rfl ?_
                  refine m_iload_n d_m_connect_86 rfl ?_
                  refine m_ald 20 rfl (by decide) rfl d_m_connect_87 (by omega) (by omega) ?_
                  refine m_bipush d_m_connect_88 (by decide) ?_
                  refine m_idivI d_m_connect_90 (by omega) (by first | assumption | exact hR _ _ (by decide) | (unfold R32; omega)) (by decide) (by first | assumption | exact hR _ _ (by decide) | (unfold R32; omega)) ?_
                  refine m_iload_n d_m_connect_91 rfl ?_
                  refine m_callV d_m_connect_92 q_m_connect_189 s_m_atAddress v_m_atAddress rfl (t_m_atAddress hI (by omega) (by omega) (by omega) (by omega)) rfl rfl (Nat.le_of_ble_eq_true rfl) rfl rfl rfl ?_
                  rintro _ _ _ ⟨rfl, rfl, rfl⟩
                  have e7 : -1 ≤ cnr S c a ∧ cnr S c a < S 11 0 := aat_b hi1 _ _
                  have e8 := bit_01 (S 18 (cnr S c a)) p
                  change mW g M_m_connect x0 ad h0 _ _ S _ _ (.int (iI (cnr S c a)) :: _)
                  refine m_istore d_m_connect_95 (by decide) ?_
                  refine m_iload d_m_connect_97 rfl ?_
                  refine m_iconst d_m_connect_99 ?_
                  refine m_icmp_eq (tgt := 128) d_m_connect_100 (by decide) (by first | assumption | exact hR _ _ (by decide) | (unfold R32; omega)) (by first | assumption | exact hR _ _ (by decide) | (unfold R32; omega)) (fun z100 => ?_) (fun z100 => ?_)
                  · refine m_iconst d_m_connect_128 ?_
                    exact m_iret rfl d_m_connect_129 (opQ.good (by unfold cd_connect; (repeat' split) <;> omega) (by unfold vl_connect; first | rw [if_pos (by omega)] | rw [if_neg (by omega)]) (rfl))
                  · refine m_aload_n d_m_connect_103 rfl ?_
                    refine mg_60 d_m_connect_104 rfl ?_
                    refine m_iload d_m_connect_107 rfl ?_
                    refine m_ald 20 rfl (by decide) rfl d_m_connect_109 (by omega) (by omega) ?_
                    refine m_if_ne (tgt := 128) d_m_connect_110 (by decide) (by first | assumption | exact hR _ _ (by decide) | (unfold R32; omega)) (fun z110 => ?_) (fun z110 => ?_)
                    · refine m_iconst d_m_connect_128 ?_
                      exact m_iret rfl d_m_connect_129 (opQ.good (by unfold cd_connect; (repeat' split) <;> omega) (by unfold vl_connect; first | rw [if_pos (by omega)] | rw [if_neg (by omega)]) (rfl))
                    · refine m_aload_n d_m_connect_113 rfl ?_
                      refine m_iload d_m_connect_114 rfl ?_
                      refine m_iload_n d_m_connect_116 rfl ?_
                      refine m_callV d_m_connect_117 q_m_connect_195 s_m_isListening v_m_isListening rfl (t_m_isListening hI (by omega) (by omega) (by omega) (by omega)) rfl rfl (Nat.le_of_ble_eq_true rfl) rfl rfl rfl ?_
                      rintro _ _ _ ⟨rfl, rfl, rfl⟩
                      refine m_if_eq (tgt := 128) d_m_connect_120 (by decide) (by first | assumption | exact hR _ _ (by decide) | (unfold R32; omega)) (fun z120 => ?_) (fun z120 => ?_)
                      · refine m_iconst d_m_connect_128 ?_
                        exact m_iret rfl d_m_connect_129 (opQ.good (by unfold cd_connect; (repeat' split) <;> omega) (by unfold vl_connect; first | rw [if_pos (by omega)] | rw [if_neg (by omega)]) (rfl))
                      · refine m_iload d_m_connect_123 rfl ?_
                        refine m_goto (tgt := 129) d_m_connect_125 (by decide) ?_
                        exact m_iret rfl d_m_connect_129 (opQ.good (by unfold cd_connect; (repeat' split) <;> omega) (by unfold vl_connect; first | rw [if_pos (by omega)] | rw [if_neg (by omega)]) (rfl))
                · exact absurd z76 (by decide)
              · refine m_iconst d_m_connect_68 ?_
                refine m_goto (tgt := 73) d_m_connect_69 (by decide) ?_
                refine m_callV d_m_connect_73 q_m_connect_109 s_m_holds v_m_holds rfl (t_m_holds ⟨by omega, by omega⟩) rfl rfl (Nat.le_of_ble_eq_true rfl) rfl rfl rfl ?_
                rintro _ _ _ ⟨rfl, rfl, rfl⟩
                refine m_if_ne (tgt := 81) d_m_connect_76 (by decide) (by first | assumption | exact hR _ _ (by decide) | (unfold R32; omega)) (fun z76 => ?_) (fun z76 => ?_)
                · exact absurd z76 (by decide)
                · refine m_iconst d_m_connect_79 ?_
                  exact m_iret rfl d_m_connect_80 (opQ.bad (by unfold cd_connect; (repeat' split) <;> omega) (by decide))
          · refine m_iconst d_m_connect_45 ?_
            refine m_goto (tgt := 73) d_m_connect_46 (by decide) ?_
            refine m_callV d_m_connect_73 q_m_connect_109 s_m_holds v_m_holds rfl (t_m_holds ⟨by omega, by omega⟩) rfl rfl (Nat.le_of_ble_eq_true rfl) rfl rfl rfl ?_
            rintro _ _ _ ⟨rfl, rfl, rfl⟩
            refine m_if_ne (tgt := 81) d_m_connect_76 (by decide) (by first | assumption | exact hR _ _ (by decide) | (unfold R32; omega)) (fun z76 => ?_) (fun z76 => ?_)
            · exact absurd z76 (by decide)
            · refine m_iconst d_m_connect_79 ?_
              exact m_iret rfl d_m_connect_80 (opQ.bad (by unfold cd_connect; (repeat' split) <;> omega) (by decide))
      · exact absurd z27 (by decide)
def bsN (x : Int) : Nat → Int
  | 0 => 0
  | n + 1 => bsN x n + bit x n
def cd_listen (S : gS) (c p : Int) : Int := if ¬ (0 ≤ c ∧ c < S 11 0 ∧ 0 ≤ p ∧ p < 16) then 1 else if S 19 c = 0 ∧ bit (S 18 c) p = 0 ∧ (4 ≤ p ∨ bit (S 17 c) 0 = 1) then 0 else 2
def vl_listen (S : gS) (c p : Int) : Int := bsN (bset (S 18 c) p) 16
def st_listen (S : gS) (c p : Int) : gS := sset S 18 c (bset (S 18 c) p)
theorem L_m_listen {g : xG} {x0 : Nat} {ad : Nat → Nat} {h0 : hp} {tt : Int} {S : gS} {c p : Int} {u3 u4 : Option Value} (hcd : cd_listen S c p = 0) (hc : 0 ≤ c) (hc2 : c < 20) (hx0 : 0 ≤ bset (S 18 c) p) (hx1 : bset (S 18 c) p < 2147483648) : ∀ (f9 n : Nat), n ≤ 16 → 16 < n + f9 → mW g M_m_listen x0 ad h0 (opQ S (cd_listen S c p) (vl_listen S c p) (st_listen S c p)) 0 (sset S 18 c (bset (S 18 c) p)) 111 (some (.ref x0) :: some (.int (iI c)) :: some (.int (iI p)) :: u3 :: u4 :: some (.int (iI (bsN (bset (S 18 c) p) n))) :: some (.int (iI (n : Int))) :: []) [] := by
  intro f9
  induction f9 with
  | zero => intros; omega
  | succ f9 ih =>
    intro n h1 h2
    refine m_iload d_m_listen_111 rfl ?_
    refine m_bipush d_m_listen_113 (by decide) ?_
    refine m_icmp_ge (tgt := 140) d_m_listen_115 (by decide) (by unfold R32; omega) (by unfold R32; omega) (fun z115 => ?_) (fun z115 => ?_)
    · refine m_iload d_m_listen_140 rfl ?_
      exact m_iret rfl d_m_listen_142 (opQ.good hcd (by rw [show n = 16 by omega]; rfl) rfl)
    · refine m_iload d_m_listen_118 rfl ?_
      refine m_aload_n d_m_listen_120 rfl ?_
      refine mg_57 d_m_listen_121 rfl ?_
      refine m_iload_n d_m_listen_124 rfl ?_
      refine m_aldv 25 rfl (by decide) rfl (bset (S 18 c) p) (sset_e S 18 c _) d_m_listen_125 (by omega) (by omega) ?_
      refine m_iload d_m_listen_126 rfl ?_
      refine m_ishrI d_m_listen_128 (by omega) (by omega) (by omega) (by omega) ?_
      refine m_iconst d_m_listen_129 ?_
      refine m_iand1 d_m_listen_130 (Int.ediv_nonneg (by omega) (Int.le_of_lt (Int.pow_pos (by omega)))) ?_
      refine m_iadd d_m_listen_131 ?_
      refine m_istore d_m_listen_132 (by decide) ?_
      refine m_iinc d_m_listen_134 rfl (by decide) ?_
      refine m_goto (tgt := 111) d_m_listen_137 (by decide) ?_
      have hs9 : bsN (bset (S 18 c) p) (n + 1) = bsN (bset (S 18 c) p) n + bit (bset (S 18 c) p) n := rfl
      have := ih (n + 1) (by omega) (by omega)
      rw [hs9, show ((n + 1 : Nat) : Int) = (n : Int) + 1 by omega] at this
      exact this
theorem bset_b {a k : Int} {n : Nat} (ha : 0 ≤ a) (hk : 0 ≤ k) (hn : k < n) (h2 : a < 2 ^ n) : 0 ≤ bset a k ∧ bset a k < 2 ^ n := by
  have hP : (0 : Int) < 2 ^ k.toNat := Int.pow_pos (by omega)
  have e : (2 : Int) ^ n = 2 * 2 ^ (n - k.toNat - 1) * 2 ^ k.toNat := by
    rw [show (2 : Int) * 2 ^ (n - k.toNat - 1) = 2 ^ (n - k.toNat - 1 + 1) from by rw [Int.pow_succ, Int.mul_comm], ← Int.pow_add]
    congr 1
    omega
  rcases bit_01 a k with hb | hb
  · unfold bset
    rw [hb]
    unfold bit at hb
    rw [e] at h2 ⊢
    generalize (2 : Int) ^ (n - k.toNat - 1) = m at h2 ⊢
    generalize (2 : Int) ^ k.toNat = P at hP hb h2 ⊢
    have q1 : a / P < 2 * m := Int.ediv_lt_of_lt_mul hP h2
    have q2 : a < (a / P + 1) * P := Int.lt_ediv_add_one_mul_self a hP
    generalize a / P = q at q1 q2 hb
    have q3 : (q + 2) * P ≤ 2 * m * P := Int.mul_le_mul_of_nonneg_right (by omega) (by omega)
    have q4 : (q + 2) * P = (q + 1) * P + P := by rw [show q + 2 = (q + 1) + 1 by omega, Int.add_mul (q + 1) 1 P, Int.one_mul]
    omega
  · unfold bset
    rw [hb]
    omega
theorem t_m_listen {g : xG} {x0 : Nat} {ad : Nat → Nat} {tt : Int} {S : gS} {c p : Int} (hI : Inv S) (hc : R32 c) (hp : R32 p) : mM g y_m_listen k_m_listen M_m_listen x0 ad [.int (iI c), .int (iI p)] tt S (opQ S (cd_listen S c p) (vl_listen S c p) (st_listen S c p)) := by
  refine mM.of rfl (by decide) rfl rfl rfl (by simp [Value.category]) (Nat.le_of_ble_eq_true rfl) rfl (fun h0 => ?_)
  obtain ⟨hR, hi1, hi2, hi3, hi4, hi5, hi6, hi7⟩ := id hI
  obtain ⟨him, hgr, hco, hck⟩ := id hi1
  have e1 := isin_s c (S 11 0)
  have e2 := isin_s p 16
  have e3 := bit_01 (S 18 c) p
  have e4 := bit_01 (S 17 c) 0
  refine m_aload_n d_m_listen_0 rfl ?_
  refine m_iload_n d_m_listen_1 rfl ?_
  refine m_callV d_m_listen_2 q_m_listen_123 s_m_isContainer v_m_isContainer rfl (t_m_isContainer hR (by assumption)) rfl rfl (Nat.le_of_ble_eq_true rfl) rfl rfl rfl ?_
  rintro _ _ _ ⟨rfl, rfl, rfl⟩
  refine m_if_eq (tgt := 21) d_m_listen_5 (by decide) (by first | assumption | exact hR _ _ (by decide) | (unfold R32; omega)) (fun z5 => ?_) (fun z5 => ?_)
  · refine m_iconst d_m_listen_21 ?_
    refine m_istore_n d_m_listen_22 (by decide) ?_
    refine m_iload_n d_m_listen_23 rfl ?_
    refine m_if_eq (tgt := 63) d_m_listen_24 (by decide) (by first | assumption | exact hR _ _ (by decide) | (unfold R32; omega)) (fun z24 => ?_) (fun z24 => ?_)
    · refine m_iconst d_m_listen_63 ?_
      refine m_istore d_m_listen_64 (by decide) ?_
      refine m_aload_n d_m_listen_66 rfl ?_
      refine m_iload_n d_m_listen_67 rfl ?_
      refine m_if_ne (tgt := 75) d_m_listen_68 (by decide) (by first | assumption | exact hR _ _ (by decide) | (unfold R32; omega)) (fun z68 => ?_) (fun z68 => ?_)
      · exact absurd z68 (by decide)
      · refine m_iconst d_m_listen_71 ?_
        refine m_goto (tgt := 85) d_m_listen_72 (by decide) ?_
        refine m_callV d_m_listen_85 q_m_listen_109 s_m_holds v_m_holds rfl (t_m_holds ⟨by omega, by omega⟩) rfl rfl (Nat.le_of_ble_eq_true rfl) rfl rfl rfl ?_
        rintro _ _ _ ⟨rfl, rfl, rfl⟩
        refine m_if_ne (tgt := 93) d_m_listen_88 (by decide) (by first | assumption | exact hR _ _ (by decide) | (unfold R32; omega)) (fun z88 => ?_) (fun z88 => ?_)
        · exact absurd z88 (by decide)
        · refine m_iconst d_m_listen_91 ?_
          exact m_iret rfl d_m_listen_92 (opQ.bad (by unfold cd_listen; (repeat' split) <;> omega) (by decide))
    · exact absurd z24 (by decide)
  · refine m_iload_n d_m_listen_8 rfl ?_
    refine m_bipush d_m_listen_9 (by decide) ?_
    refine m_callS d_m_listen_11 q_m_listen_90 s_m_isIn (t_m_isIn g hp ⟨by omega, by omega⟩) rfl rfl (Nat.le_of_ble_eq_true rfl) rfl rfl rfl ?_
    rintro _ rfl
    refine m_if_eq (tgt := 21) d_m_listen_14 (by decide) (by first | assumption | exact hR _ _ (by decide) | (unfold R32; omega)) (fun z14 => ?_) (fun z14 => ?_)
    · refine m_iconst d_m_listen_21 ?_
      refine m_istore_n d_m_listen_22 (by decide) ?_
      refine m_iload_n d_m_listen_23 rfl ?_
      refine m_if_eq (tgt := 63) d_m_listen_24 (by decide) (by first | assumption | exact hR _ _ (by decide) | (unfold R32; omega)) (fun z24 => ?_) (fun z24 => ?_)
      · refine m_iconst d_m_listen_63 ?_
        refine m_istore d_m_listen_64 (by decide) ?_
        refine m_aload_n d_m_listen_66 rfl ?_
        refine m_iload_n d_m_listen_67 rfl ?_
        refine m_if_ne (tgt := 75) d_m_listen_68 (by decide) (by first | assumption | exact hR _ _ (by decide) | (unfold R32; omega)) (fun z68 => ?_) (fun z68 => ?_)
        · exact absurd z68 (by decide)
        · refine m_iconst d_m_listen_71 ?_
          refine m_goto (tgt := 85) d_m_listen_72 (by decide) ?_
          refine m_callV d_m_listen_85 q_m_listen_109 s_m_holds v_m_holds rfl (t_m_holds ⟨by omega, by omega⟩) rfl rfl (Nat.le_of_ble_eq_true rfl) rfl rfl rfl ?_
          rintro _ _ _ ⟨rfl, rfl, rfl⟩
          refine m_if_ne (tgt := 93) d_m_listen_88 (by decide) (by first | assumption | exact hR _ _ (by decide) | (unfold R32; omega)) (fun z88 => ?_) (fun z88 => ?_)
          · exact absurd z88 (by decide)
          · refine m_iconst d_m_listen_91 ?_
            exact m_iret rfl d_m_listen_92 (opQ.bad (by unfold cd_listen; (repeat' split) <;> omega) (by decide))
      · exact absurd z24 (by decide)
    · refine m_iconst d_m_listen_17 ?_
      refine m_goto (tgt := 22) d_m_listen_18 (by decide) ?_
      refine m_istore_n d_m_listen_22 (by decide) ?_
      refine m_iload_n d_m_listen_23 rfl ?_
      refine m_if_eq (tgt := 63) d_m_listen_24 (by decide) (by first | assumption | exact hR _ _ (by decide) | (unfold R32; omega)) (fun z24 => ?_) (fun z24 => ?_)
      · exact absurd z24 (by decide)
      · refine m_aload_n d_m_listen_27 rfl ?_
        refine mg_60 d_m_listen_28 rfl ?_
        refine m_iload_n d_m_listen_31 rfl ?_
        refine m_ald 20 rfl (by decide) rfl d_m_listen_32 (by omega) (by omega) ?_
        refine m_if_ne (tgt := 63) d_m_listen_33 (by decide) (by first | assumption | exact hR _ _ (by decide) | (unfold R32; omega)) (fun z33 => ?_) (fun z33 => ?_)
        · refine m_iconst d_m_listen_63 ?_
          refine m_istore d_m_listen_64 (by decide) ?_
          refine m_aload_n d_m_listen_66 rfl ?_
          refine m_iload_n d_m_listen_67 rfl ?_
          refine m_if_ne (tgt := 75) d_m_listen_68 (by decide) (by first | assumption | exact hR _ _ (by decide) | (unfold R32; omega)) (fun z68 => ?_) (fun z68 => ?_)
          · refine m_iload d_m_listen_75 rfl ?_
            refine m_if_eq (tgt := 84) d_m_listen_77 (by decide) (by first | assumption | exact hR _ _ (by decide) | (unfold R32; omega)) (fun z77 => ?_) (fun z77 => ?_)
            · refine m_iconst d_m_listen_84 ?_
              refine m_callV d_m_listen_85 q_m_listen_109 s_m_holds v_m_holds rfl (t_m_holds ⟨by omega, by omega⟩) rfl rfl (Nat.le_of_ble_eq_true rfl) rfl rfl rfl ?_
              rintro _ _ _ ⟨rfl, rfl, rfl⟩
              refine m_if_ne (tgt := 93) d_m_listen_88 (by decide) (by first | assumption | exact hR _ _ (by decide) | (unfold R32; omega)) (fun z88 => ?_) (fun z88 => ?_)
              · exact absurd z88 (by decide)
              · refine m_iconst d_m_listen_91 ?_
                exact m_iret rfl d_m_listen_92 (opQ.bad (by unfold cd_listen; (repeat' split) <;> omega) (by decide))
            · exact absurd z77 (by decide)
          · exact absurd z68 (by decide)
        · refine m_aload_n d_m_listen_36 rfl ?_
          refine m_iload_n d_m_listen_37 rfl ?_
          refine m_iload_n d_m_listen_38 rfl ?_
          refine m_callV d_m_listen_39 q_m_listen_195 s_m_isListening v_m_isListening rfl (t_m_isListening hI (by omega) (by omega) (by omega) (by omega)) rfl rfl (Nat.le_of_ble_eq_true rfl) rfl rfl rfl ?_
          rintro _ _ _ ⟨rfl, rfl, rfl⟩
          refine m_if_ne (tgt := 63) d_m_listen_42 (by decide) (by first | assumption | exact hR _ _ (by decide) | (unfold R32; omega)) (fun z42 => ?_) (fun z42 => ?_)
          · refine m_iconst d_m_listen_63 ?_
            refine m_istore d_m_listen_64 (by decide) ?_
            refine m_aload_n d_m_listen_66 rfl ?_
            refine m_iload_n d_m_listen_67 rfl ?_
            refine m_if_ne (tgt := 75) d_m_listen_68 (by decide) (by first | assumption | exact hR _ _ (by decide) | (unfold R32; omega)) (fun z68 => ?_) (fun z68 => ?_)
            · refine m_iload d_m_listen_75 rfl ?_
              refine m_if_eq (tgt := 84) d_m_listen_77 (by decide) (by first | assumption | exact hR _ _ (by decide) | (unfold R32; omega)) (fun z77 => ?_) (fun z77 => ?_)
              · refine m_iconst d_m_listen_84 ?_
                refine m_callV d_m_listen_85 q_m_listen_109 s_m_holds v_m_holds rfl (t_m_holds ⟨by omega, by omega⟩) rfl rfl (Nat.le_of_ble_eq_true rfl) rfl rfl rfl ?_
                rintro _ _ _ ⟨rfl, rfl, rfl⟩
                refine m_if_ne (tgt := 93) d_m_listen_88 (by decide) (by first | assumption | exact hR _ _ (by decide) | (unfold R32; omega)) (fun z88 => ?_) (fun z88 => ?_)
                · exact absurd z88 (by decide)
                · refine m_iconst d_m_listen_91 ?_
                  exact m_iret rfl d_m_listen_92 (opQ.bad (by unfold cd_listen; (repeat' split) <;> omega) (by decide))
              · exact absurd z77 (by decide)
            · exact absurd z68 (by decide)
          · refine m_iload_n d_m_listen_45 rfl ?_
            refine m_iconst d_m_listen_46 ?_
            refine m_icmp_ge (tgt := 59) d_m_listen_47 (by decide) (by first | assumption | exact hR _ _ (by decide) | (unfold R32; omega)) (by first | assumption | exact hR _ _ (by decide) | (unfold R32; omega)) (fun z47 => ?_) (fun z47 => ?_)
            · refine m_iconst d_m_listen_59 ?_
              refine m_goto (tgt := 64) d_m_listen_60 (by decide) ?_
              refine m_istore d_m_listen_64 (by decide) ?_
              refine m_aload_n d_m_listen_66 rfl ?_
              refine m_iload_n d_m_listen_67 rfl ?_
              refine m_if_ne (tgt := 75) d_m_listen_68 (by decide) (by first | assumption | exact hR _ _ (by decide) | (unfold R32; omega)) (fun z68 => ?_) (fun z68 => ?_)
              · refine m_iload d_m_listen_75 rfl ?_
                refine m_if_eq (tgt := 84) d_m_listen_77 (by decide) (by first | assumption | exact hR _ _ (by decide) | (unfold R32; omega)) (fun z77 => ?_) (fun z77 => ?_)
                · exact absurd z77 (by decide)
                · refine m_iconst d_m_listen_80 ?_
                  refine m_goto (tgt := 85) d_m_listen_81 (by decide) ?_
                  refine m_callV d_m_listen_85 q_m_listen_109 s_m_holds v_m_holds rfl (t_m_holds ⟨by omega, by omega⟩) rfl rfl (Nat.le_of_ble_eq_true rfl) rfl rfl rfl ?_
                  rintro _ _ _ ⟨rfl, rfl, rfl⟩
                  refine m_if_ne (tgt := 93) d_m_listen_88 (by decide) (by first | assumption | exact hR _ _ (by decide) | (unfold R32; omega)) (fun z88 => ?_) (fun z88 => ?_)
                  · have e6 := hi3 c (Or.inl (by omega))
                    have e7 := bset_b (a := S 18 c) (k := p) (n := 16) (by omega) (by omega) (by omega) (by omega)
                    refine m_aload_n d_m_listen_93 rfl ?_
                    refine mg_57 d_m_listen_94 rfl ?_
                    refine m_iload_n d_m_listen_97 rfl ?_
                    refine m_dup2 d_m_listen_98 rfl rfl ?_
                    refine m_ald 25 rfl (by decide) rfl d_m_listen_99 (by omega) (by omega) ?_
                    refine m_iconst d_m_listen_100 ?_
                    refine m_iload_n d_m_listen_101 rfl ?_
                    refine m_ishl1 d_m_listen_102 (by omega) (by omega) ?_
                    refine m_iork d_m_listen_103 (by omega) ?_
                    refine m_ast 25 rfl (by decide) rfl d_m_listen_104 (by omega) (by omega) ?_
                    refine m_iconst d_m_listen_105 ?_
                    refine m_istore d_m_listen_106 (by decide) ?_
                    refine m_iconst d_m_listen_108 ?_
                    refine m_istore d_m_listen_109 (by decide) ?_
                    have hcd : cd_listen S c p = 0 := by unfold cd_listen; (repeat' split) <;> omega
                    exact L_m_listen (tt := 0) hcd (by omega) (by omega) e7.1 (by omega) 17 0 (by omega) (by omega)
                  · exact absurd z88 (by decide)
              · exact absurd z68 (by decide)
            · refine m_aload_n d_m_listen_50 rfl ?_
              refine m_iload_n d_m_listen_51 rfl ?_
              refine m_iconst d_m_listen_52 ?_
              refine m_callV d_m_listen_53 q_m_listen_173 s_m_isEffective v_m_isEffective rfl (t_m_isEffective hI (by omega) (by omega) (by omega) (by omega)) rfl rfl (Nat.le_of_ble_eq_true rfl) rfl rfl rfl ?_
              rintro _ _ _ ⟨rfl, rfl, rfl⟩
              refine m_if_eq (tgt := 63) d_m_listen_56 (by decide) (by first | assumption | exact hR _ _ (by decide) | (unfold R32; omega)) (fun z56 => ?_) (fun z56 => ?_)
              · refine m_iconst d_m_listen_63 ?_
                refine m_istore d_m_listen_64 (by decide) ?_
                refine m_aload_n d_m_listen_66 rfl ?_
                refine m_iload_n d_m_listen_67 rfl ?_
                refine m_if_ne (tgt := 75) d_m_listen_68 (by decide) (by first | assumption | exact hR _ _ (by decide) | (unfold R32; omega)) (fun z68 => ?_) (fun z68 => ?_)
                · refine m_iload d_m_listen_75 rfl ?_
                  refine m_if_eq (tgt := 84) d_m_listen_77 (by decide) (by first | assumption | exact hR _ _ (by decide) | (unfold R32; omega)) (fun z77 => ?_) (fun z77 => ?_)
                  · refine m_iconst d_m_listen_84 ?_
                    refine m_callV d_m_listen_85 q_m_listen_109 s_m_holds v_m_holds rfl (t_m_holds ⟨by omega, by omega⟩) rfl rfl (Nat.le_of_ble_eq_true rfl) rfl rfl rfl ?_
                    rintro _ _ _ ⟨rfl, rfl, rfl⟩
                    refine m_if_ne (tgt := 93) d_m_listen_88 (by decide) (by first | assumption | exact hR _ _ (by decide) | (unfold R32; omega)) (fun z88 => ?_) (fun z88 => ?_)
                    · exact absurd z88 (by decide)
                    · refine m_iconst d_m_listen_91 ?_
                      exact m_iret rfl d_m_listen_92 (opQ.bad (by unfold cd_listen; (repeat' split) <;> omega) (by decide))
                  · exact absurd z77 (by decide)
                · exact absurd z68 (by decide)
              · refine m_iconst d_m_listen_59 ?_
                refine m_goto (tgt := 64) d_m_listen_60 (by decide) ?_
                refine m_istore d_m_listen_64 (by decide) ?_
                refine m_aload_n d_m_listen_66 rfl ?_
                refine m_iload_n d_m_listen_67 rfl ?_
                refine m_if_ne (tgt := 75) d_m_listen_68 (by decide) (by first | assumption | exact hR _ _ (by decide) | (unfold R32; omega)) (fun z68 => ?_) (fun z68 => ?_)
                · refine m_iload d_m_listen_75 rfl ?_
                  refine m_if_eq (tgt := 84) d_m_listen_77 (by decide) (by first | assumption | exact hR _ _ (by decide) | (unfold R32; omega)) (fun z77 => ?_) (fun z77 => ?_)
                  · exact absurd z77 (by decide)
                  · refine m_iconst d_m_listen_80 ?_
                    refine m_goto (tgt := 85) d_m_listen_81 (by decide) ?_
                    refine m_callV d_m_listen_85 q_m_listen_109 s_m_holds v_m_holds rfl (t_m_holds ⟨by omega, by omega⟩) rfl rfl (Nat.le_of_ble_eq_true rfl) rfl rfl rfl ?_
                    rintro _ _ _ ⟨rfl, rfl, rfl⟩
                    refine m_if_ne (tgt := 93) d_m_listen_88 (by decide) (by first | assumption | exact hR _ _ (by decide) | (unfold R32; omega)) (fun z88 => ?_) (fun z88 => ?_)
                    · have e6 := hi3 c (Or.inl (by omega))
                      have e7 := bset_b (a := S 18 c) (k := p) (n := 16) (by omega) (by omega) (by omega) (by omega)
                      refine m_aload_n d_m_listen_93 rfl ?_
                      refine mg_57 d_m_listen_94 rfl ?_
                      refine m_iload_n d_m_listen_97 rfl ?_
                      refine m_dup2 d_m_listen_98 rfl rfl ?_
                      refine m_ald 25 rfl (by decide) rfl d_m_listen_99 (by omega) (by omega) ?_
                      refine m_iconst d_m_listen_100 ?_
                      refine m_iload_n d_m_listen_101 rfl ?_
                      refine m_ishl1 d_m_listen_102 (by omega) (by omega) ?_
                      refine m_iork d_m_listen_103 (by omega) ?_
                      refine m_ast 25 rfl (by decide) rfl d_m_listen_104 (by omega) (by omega) ?_
                      refine m_iconst d_m_listen_105 ?_
                      refine m_istore d_m_listen_106 (by decide) ?_
                      refine m_iconst d_m_listen_108 ?_
                      refine m_istore d_m_listen_109 (by decide) ?_
                      have hcd : cd_listen S c p = 0 := by unfold cd_listen; (repeat' split) <;> omega
                      exact L_m_listen (tt := 0) hcd (by omega) (by omega) e7.1 (by omega) 17 0 (by omega) (by omega)
                    · exact absurd z88 (by decide)
                · exact absurd z68 (by decide)
def pbN (S : gS) (c h : Int) : Nat → Int
  | 0 => 0
  | n + 1 => pbN S c h n + if sset S 24 h c 24 n = -1 then 0 else 1
def cd_publish (S : gS) (c p k : Int) : Int := if ¬ (0 ≤ c ∧ c < S 11 0 ∧ 0 ≤ p ∧ p < 16 ∧ 0 ≤ k ∧ k < 32) then 1 else if bit (S 18 c) p = 1 ∧ S 24 k = -1 then 0 else 2
def vl_publish (S : gS) (c _p k : Int) : Int := pbN S c k 32
def st_publish (S : gS) (c p k : Int) : gS := sset (sset S 24 k c) 25 k p
theorem L_m_publish {g : xG} {x0 : Nat} {ad : Nat → Nat} {h0 : hp} {tt : Int} {S : gS} {c p k : Int} {u4 : Option Value} (hcd : cd_publish S c p k = 0) (hR : hRp S) (hc : R32 c) : ∀ (f9 n : Nat), n ≤ 32 → 32 < n + f9 → mW g M_m_publish x0 ad h0 (opQ S (cd_publish S c p k) (vl_publish S c p k) (st_publish S c p k)) 0 (sset (sset S 24 k c) 25 k p) 95 (some (.ref x0) :: some (.int (iI c)) :: some (.int (iI p)) :: some (.int (iI k)) :: u4 :: some (.int (iI (pbN S c k n))) :: some (.int (iI (n : Int))) :: []) [] := by
  intro f9
  induction f9 with
  | zero => intros; omega
  | succ f9 ih =>
    intro n h1 h2
    refine m_iload d_m_publish_95 rfl ?_
    refine m_bipush d_m_publish_97 (by decide) ?_
    refine m_icmp_ge (tgt := 129) d_m_publish_99 (by decide) (by first | exact (hR.set (fun _ => hc)) _ _ (by decide) | (unfold R32; omega)) (by first | exact (hR.set (fun _ => hc)) _ _ (by decide) | (unfold R32; omega)) (fun z99 => ?_) (fun z99 => ?_)
    · refine m_iload d_m_publish_129 rfl ?_
      exact m_iret rfl d_m_publish_131 (opQ.good hcd (by rw [show n = 32 by omega]; rfl) rfl)
    · refine m_iload d_m_publish_102 rfl ?_
      refine m_aload_n d_m_publish_104 rfl ?_
      refine mg_72 d_m_publish_105 rfl ?_
      refine m_iload d_m_publish_108 rfl ?_
      refine m_aldv 32 rfl (by decide) rfl (sset S 24 k c 24 n) rfl d_m_publish_110 (by omega) (by omega) ?_
      refine m_iconst d_m_publish_111 ?_
      refine m_icmp_ne (tgt := 119) d_m_publish_112 (by decide) (by first | exact (hR.set (fun _ => hc)) _ _ (by decide) | (unfold R32; omega)) (by first | exact (hR.set (fun _ => hc)) _ _ (by decide) | (unfold R32; omega)) (fun z112 => ?_) (fun z112 => ?_)
      · refine m_iconst d_m_publish_119 ?_
        refine m_iadd d_m_publish_120 ?_
        refine m_istore d_m_publish_121 (by decide) ?_
        refine m_iinc d_m_publish_123 rfl (by decide) ?_
        refine m_goto (tgt := 95) d_m_publish_126 (by decide) ?_
        have hs9 : pbN S c k (n + 1) = pbN S c k n + (if sset S 24 k c 24 n = -1 then 0 else 1) := rfl
        first
          | (rw [if_pos z112] at hs9; have := ih (n + 1) (by omega) (by omega); rw [hs9, show ((n + 1 : Nat) : Int) = (n : Int) + 1 by omega] at this; exact this)
          | (rw [if_neg z112] at hs9; have := ih (n + 1) (by omega) (by omega); rw [hs9, show ((n + 1 : Nat) : Int) = (n : Int) + 1 by omega] at this; exact this)
      · refine m_iconst d_m_publish_115 ?_
        refine m_goto (tgt := 120) d_m_publish_116 (by decide) ?_
        refine m_iadd d_m_publish_120 ?_
        refine m_istore d_m_publish_121 (by decide) ?_
        refine m_iinc d_m_publish_123 rfl (by decide) ?_
        refine m_goto (tgt := 95) d_m_publish_126 (by decide) ?_
        have hs9 : pbN S c k (n + 1) = pbN S c k n + (if sset S 24 k c 24 n = -1 then 0 else 1) := rfl
        first
          | (rw [if_pos z112] at hs9; have := ih (n + 1) (by omega) (by omega); rw [hs9, show ((n + 1 : Nat) : Int) = (n : Int) + 1 by omega] at this; exact this)
          | (rw [if_neg z112] at hs9; have := ih (n + 1) (by omega) (by omega); rw [hs9, show ((n + 1 : Nat) : Int) = (n : Int) + 1 by omega] at this; exact this)
theorem t_m_publish {g : xG} {x0 : Nat} {ad : Nat → Nat} {tt : Int} {S : gS} {c p k : Int} (hI : Inv S) (hc : R32 c) (hp : R32 p) (hk : R32 k) : mM g y_m_publish k_m_publish M_m_publish x0 ad [.int (iI c), .int (iI p), .int (iI k)] tt S (opQ S (cd_publish S c p k) (vl_publish S c p k) (st_publish S c p k)) := by
  refine mM.of rfl (by decide) rfl rfl rfl (by simp [Value.category]) (Nat.le_of_ble_eq_true rfl) rfl (fun h0 => ?_)
  obtain ⟨hR, hi1, hi2, hi3, hi4, hi5, hi6, hi7⟩ := id hI
  obtain ⟨him, hgr, hco, hck⟩ := id hi1
  have e1 := isin_s c (S 11 0)
  have e2 := isin_s p 16
  have e5 := isin_s k 32
  have e3 := bit_01 (S 18 c) p
  refine m_aload_n d_m_publish_0 rfl ?_
  refine m_iload_n d_m_publish_1 rfl ?_
  refine m_callV d_m_publish_2 q_m_publish_123 s_m_isContainer v_m_isContainer rfl (t_m_isContainer hR (by assumption)) rfl rfl (Nat.le_of_ble_eq_true rfl) rfl rfl rfl ?_
  rintro _ _ _ ⟨rfl, rfl, rfl⟩
  refine m_if_eq (tgt := 30) d_m_publish_5 (by decide) (by first | assumption | exact hR _ _ (by decide) | (unfold R32; omega)) (fun z5 => ?_) (fun z5 => ?_)
  · refine m_iconst d_m_publish_30 ?_
    refine m_istore d_m_publish_31 (by decide) ?_
    refine m_aload_n d_m_publish_33 rfl ?_
    refine m_iload d_m_publish_34 rfl ?_
    refine m_if_ne (tgt := 43) d_m_publish_36 (by decide) (by first | assumption | exact hR _ _ (by decide) | (unfold R32; omega)) (fun z36 => ?_) (fun z36 => ?_)
    · exact absurd z36 (by decide)
    · refine m_iconst d_m_publish_39 ?_
      refine m_goto (tgt := 67) d_m_publish_40 (by decide) ?_
      refine m_callV d_m_publish_67 q_m_publish_109 s_m_holds v_m_holds rfl (t_m_holds ⟨by omega, by omega⟩) rfl rfl (Nat.le_of_ble_eq_true rfl) rfl rfl rfl ?_
      rintro _ _ _ ⟨rfl, rfl, rfl⟩
      refine m_if_ne (tgt := 75) d_m_publish_70 (by decide) (by first | assumption | exact hR _ _ (by decide) | (unfold R32; omega)) (fun z70 => ?_) (fun z70 => ?_)
      · exact absurd z70 (by decide)
      · refine m_iconst d_m_publish_73 ?_
        exact m_iret rfl d_m_publish_74 (opQ.bad (by unfold cd_publish; (repeat' split) <;> omega) (by decide))
  · refine m_iload_n d_m_publish_8 rfl ?_
    refine m_bipush d_m_publish_9 (by decide) ?_
    refine m_callS d_m_publish_11 q_m_publish_90 s_m_isIn (t_m_isIn g (by assumption) ⟨by omega, by omega⟩) rfl rfl (Nat.le_of_ble_eq_true rfl) rfl rfl rfl ?_
    rintro _ rfl
    refine m_if_eq (tgt := 30) d_m_publish_14 (by decide) (by first | assumption | exact hR _ _ (by decide) | (unfold R32; omega)) (fun z14 => ?_) (fun z14 => ?_)
    · refine m_iconst d_m_publish_30 ?_
      refine m_istore d_m_publish_31 (by decide) ?_
      refine m_aload_n d_m_publish_33 rfl ?_
      refine m_iload d_m_publish_34 rfl ?_
      refine m_if_ne (tgt := 43) d_m_publish_36 (by decide) (by first | assumption | exact hR _ _ (by decide) | (unfold R32; omega)) (fun z36 => ?_) (fun z36 => ?_)
      · exact absurd z36 (by decide)
      · refine m_iconst d_m_publish_39 ?_
        refine m_goto (tgt := 67) d_m_publish_40 (by decide) ?_
        refine m_callV d_m_publish_67 q_m_publish_109 s_m_holds v_m_holds rfl (t_m_holds ⟨by omega, by omega⟩) rfl rfl (Nat.le_of_ble_eq_true rfl) rfl rfl rfl ?_
        rintro _ _ _ ⟨rfl, rfl, rfl⟩
        refine m_if_ne (tgt := 75) d_m_publish_70 (by decide) (by first | assumption | exact hR _ _ (by decide) | (unfold R32; omega)) (fun z70 => ?_) (fun z70 => ?_)
        · exact absurd z70 (by decide)
        · refine m_iconst d_m_publish_73 ?_
          exact m_iret rfl d_m_publish_74 (opQ.bad (by unfold cd_publish; (repeat' split) <;> omega) (by decide))
    · refine m_iload_n d_m_publish_17 rfl ?_
      refine m_bipush d_m_publish_18 (by decide) ?_
      refine m_callS d_m_publish_20 q_m_publish_90 s_m_isIn (t_m_isIn g (by assumption) ⟨by omega, by omega⟩) rfl rfl (Nat.le_of_ble_eq_true rfl) rfl rfl rfl ?_
      rintro _ rfl
      refine m_if_eq (tgt := 30) d_m_publish_23 (by decide) (by first | assumption | exact hR _ _ (by decide) | (unfold R32; omega)) (fun z23 => ?_) (fun z23 => ?_)
      · refine m_iconst d_m_publish_30 ?_
        refine m_istore d_m_publish_31 (by decide) ?_
        refine m_aload_n d_m_publish_33 rfl ?_
        refine m_iload d_m_publish_34 rfl ?_
        refine m_if_ne (tgt := 43) d_m_publish_36 (by decide) (by first | assumption | exact hR _ _ (by decide) | (unfold R32; omega)) (fun z36 => ?_) (fun z36 => ?_)
        · exact absurd z36 (by decide)
        · refine m_iconst d_m_publish_39 ?_
          refine m_goto (tgt := 67) d_m_publish_40 (by decide) ?_
          refine m_callV d_m_publish_67 q_m_publish_109 s_m_holds v_m_holds rfl (t_m_holds ⟨by omega, by omega⟩) rfl rfl (Nat.le_of_ble_eq_true rfl) rfl rfl rfl ?_
          rintro _ _ _ ⟨rfl, rfl, rfl⟩
          refine m_if_ne (tgt := 75) d_m_publish_70 (by decide) (by first | assumption | exact hR _ _ (by decide) | (unfold R32; omega)) (fun z70 => ?_) (fun z70 => ?_)
          · exact absurd z70 (by decide)
          · refine m_iconst d_m_publish_73 ?_
            exact m_iret rfl d_m_publish_74 (opQ.bad (by unfold cd_publish; (repeat' split) <;> omega) (by decide))
      · refine m_iconst d_m_publish_26 ?_
        refine m_goto (tgt := 31) d_m_publish_27 (by decide) ?_
        refine m_istore d_m_publish_31 (by decide) ?_
        refine m_aload_n d_m_publish_33 rfl ?_
        refine m_iload d_m_publish_34 rfl ?_
        refine m_if_ne (tgt := 43) d_m_publish_36 (by decide) (by first | assumption | exact hR _ _ (by decide) | (unfold R32; omega)) (fun z36 => ?_) (fun z36 => ?_)
        · refine m_aload_n d_m_publish_43 rfl ?_
          refine m_iload_n d_m_publish_44 rfl ?_
          refine m_iload_n d_m_publish_45 rfl ?_
          refine m_callV d_m_publish_46 q_m_publish_195 s_m_isListening v_m_isListening rfl (t_m_isListening hI (by omega) (by omega) (by omega) (by omega)) rfl rfl (Nat.le_of_ble_eq_true rfl) rfl rfl rfl ?_
          rintro _ _ _ ⟨rfl, rfl, rfl⟩
          refine m_if_eq (tgt := 66) d_m_publish_49 (by decide) (by first | assumption | exact hR _ _ (by decide) | (unfold R32; omega)) (fun z49 => ?_) (fun z49 => ?_)
          · refine m_iconst d_m_publish_66 ?_
            refine m_callV d_m_publish_67 q_m_publish_109 s_m_holds v_m_holds rfl (t_m_holds ⟨by omega, by omega⟩) rfl rfl (Nat.le_of_ble_eq_true rfl) rfl rfl rfl ?_
            rintro _ _ _ ⟨rfl, rfl, rfl⟩
            refine m_if_ne (tgt := 75) d_m_publish_70 (by decide) (by first | assumption | exact hR _ _ (by decide) | (unfold R32; omega)) (fun z70 => ?_) (fun z70 => ?_)
            · exact absurd z70 (by decide)
            · refine m_iconst d_m_publish_73 ?_
              exact m_iret rfl d_m_publish_74 (opQ.bad (by unfold cd_publish; (repeat' split) <;> omega) (by decide))
          · refine m_aload_n d_m_publish_52 rfl ?_
            refine mg_72 d_m_publish_53 rfl ?_
            refine m_iload_n d_m_publish_56 rfl ?_
            refine m_ald 32 rfl (by decide) rfl d_m_publish_57 (by omega) (by omega) ?_
            refine m_iconst d_m_publish_58 ?_
            refine m_icmp_ne (tgt := 66) d_m_publish_59 (by decide) (by first | assumption | exact hR _ _ (by decide) | (unfold R32; omega)) (by first | assumption | exact hR _ _ (by decide) | (unfold R32; omega)) (fun z59 => ?_) (fun z59 => ?_)
            · refine m_iconst d_m_publish_66 ?_
              refine m_callV d_m_publish_67 q_m_publish_109 s_m_holds v_m_holds rfl (t_m_holds ⟨by omega, by omega⟩) rfl rfl (Nat.le_of_ble_eq_true rfl) rfl rfl rfl ?_
              rintro _ _ _ ⟨rfl, rfl, rfl⟩
              refine m_if_ne (tgt := 75) d_m_publish_70 (by decide) (by first | assumption | exact hR _ _ (by decide) | (unfold R32; omega)) (fun z70 => ?_) (fun z70 => ?_)
              · exact absurd z70 (by decide)
              · refine m_iconst d_m_publish_73 ?_
                exact m_iret rfl d_m_publish_74 (opQ.bad (by unfold cd_publish; (repeat' split) <;> omega) (by decide))
            · refine m_iconst d_m_publish_62 ?_
              refine m_goto (tgt := 67) d_m_publish_63 (by decide) ?_
              refine m_callV d_m_publish_67 q_m_publish_109 s_m_holds v_m_holds rfl (t_m_holds ⟨by omega, by omega⟩) rfl rfl (Nat.le_of_ble_eq_true rfl) rfl rfl rfl ?_
              rintro _ _ _ ⟨rfl, rfl, rfl⟩
              refine m_if_ne (tgt := 75) d_m_publish_70 (by decide) (by first | assumption | exact hR _ _ (by decide) | (unfold R32; omega)) (fun z70 => ?_) (fun z70 => ?_)
              · refine m_aload_n d_m_publish_75 rfl ?_
                refine mg_72 d_m_publish_76 rfl ?_
                refine m_iload_n d_m_publish_79 rfl ?_
                refine m_iload_n d_m_publish_80 rfl ?_
                refine m_ast 32 rfl (by decide) rfl d_m_publish_81 (by omega) (by omega) ?_
                refine m_aload_n d_m_publish_82 rfl ?_
                refine mg_75 d_m_publish_83 rfl ?_
                refine m_iload_n d_m_publish_86 rfl ?_
                refine m_iload_n d_m_publish_87 rfl ?_
                refine m_ast 32 rfl (by decide) rfl d_m_publish_88 (by omega) (by omega) ?_
                refine m_iconst d_m_publish_89 ?_
                refine m_istore d_m_publish_90 (by decide) ?_
                refine m_iconst d_m_publish_92 ?_
                refine m_istore d_m_publish_93 (by decide) ?_
                have hcd : cd_publish S c p k = 0 := by unfold cd_publish; (repeat' split) <;> omega
                exact L_m_publish (tt := 0) hcd hR hc 33 0 (by omega) (by omega)
              · exact absurd z70 (by decide)
        · exact absurd z36 (by decide)
