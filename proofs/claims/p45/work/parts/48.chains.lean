/-- no group is over its limit of processes -/
def ExT (S : gS) : Prop := ∀ p, 0 ≤ p → p < S 6 0 → prcI S p ≤ S 9 p
/-- what the row of layers with top l shows of file f -/
def see6 (S : gS) (l f : Int) : Int := if l < 10 then see S l f else lyr S l f (see S (S 12 (l - 10)) f)
theorem see6_c (S : gS) {c : Int} (f : Int) (h0 : 0 ≤ c) : see6 S (10 + c) f = csee S c f := by
  unfold see6 csee
  rw [if_neg (by omega), show 10 + c - 10 = c by omega]
theorem see6_i (S : gS) {i : Int} (f : Int) (h0 : i < 10) : see6 S i f = see S i f := if_pos h0
theorem see6_s {S : gS} (hI : Inv S) {l : Int} (f : Int) (h : lvl S l) : see6 S l f = lyr S l f (see6 S (blw S l) f) := by
  have h1 := hI.2.1
  unfold Inv1 at h1
  have hd := h.dn hI
  have hb : blw S l < 10 := by omega
  rw [see6_i S f hb]
  rcases h with ⟨a, b⟩ | ⟨a, b⟩
  · rw [see6_i S f (by omega), see_s hI.2.2.1 f a b]
    unfold blw
    rw [if_pos (by omega)]
  · unfold see6 blw
    rw [if_neg (by omega), if_neg (by omega)]
theorem see6_b {S : gS} (hI : Inv S) (l f : Int) : 0 ≤ see6 S l f ∧ see6 S l f ≤ 999 := by
  have h6 := hI.2.2.2.2.2.2.1
  unfold see6
  split
  · exact see_b h6 l f
  · have := see_b h6 (S 12 (l - 10)) f
    exact lyr_b h6 this.1 this.2
theorem lyr_stop {S : gS} {l f r q : Int} (h : S 1 (32 * l + f) ≠ 0 ∨ bit (S 2 l) (f / 4) = 1) : lyr S l f r = lyr S l f q := by
  unfold lyr obit
  (repeat' split) <;> first | rfl | omega
theorem lyr_go {S : gS} {l f r : Int} (h : S 1 (32 * l + f) = 0) (h2 : ¬ bit (S 2 l) (f / 4) = 1) : lyr S l f r = r := by
  unfold lyr obit
  rw [if_pos h, if_neg h2]
theorem L_g_isWithin {g : xG} {K : hp} {ad : cA} {S : gS} {QX : qKE} {rc rs : Nat} {b : Int} {x : Nat} (h2 : Inv2 S) (h1 : Inv1 S) (hG : ∀ p, 0 ≤ p → p < S 6 0 → S 53 p = 1) (hb0 : 0 ≤ b) (hb1 : b < S 6 0) : ∀ (n : Nat) (p : Int), p < n → -1 ≤ p → p < S 6 0 → cW g M_g_isWithin K (rd ad S (.int (iI (bel S p b)))) QX rc rs ad S 2 [some (.ref x), some (.ref (ad 3 b)), some (rfo ad 3 p)] [] := by
  intro n
  induction n with
  | zero =>
    intro p q0 q1 q2
    have hz : p = -1 := by omega
    subst hz
    refine c_aload_nN d_g_isWithin_2 rfl ?_
    refine c_ifnullN (tgt := 21) d_g_isWithin_3 (by decide) ?_
    refine c_iconst d_g_isWithin_21 ?_
    exact c_zret rfl (by omega) d_g_isWithin_22 (⟨by rw [bel_m1 hb0], rfl, rfl⟩)
  | succ n ih =>
    intro p q0 q1 q2
    by_cases hz : p = -1
    · subst hz
      refine c_aload_nN d_g_isWithin_2 rfl ?_
      refine c_ifnullN (tgt := 21) d_g_isWithin_3 (by decide) ?_
      refine c_iconst d_g_isWithin_21 ?_
      exact c_zret rfl (by omega) d_g_isWithin_22 (⟨by rw [bel_m1 hb0], rfl, rfl⟩)
    · rw [rfo_ref hz]
      have hp := h2.pa h1 p (by omega) q2
      refine c_aload_n d_g_isWithin_2 rfl ?_
      refine c_ifnull d_g_isWithin_3 ?_
      refine c_aload_n d_g_isWithin_6 rfl ?_
      refine c_aload_n d_g_isWithin_7 rfl ?_
      refine c_acmp_neK (by decide) (hG p (by omega) q2) (hG b hb0 hb1) (tgt := 13) d_g_isWithin_8 (by decide) (fun z8 => ?_) (fun z8 => ?_)
      · refine c_aload_n d_g_isWithin_13 rfl ?_
        refine cg_g_7_3 (hG p (by omega) q2) d_g_isWithin_14 rfl ?_
        refine c_astore_nR d_g_isWithin_17 (by decide) ?_
        refine c_goto (tgt := 2) d_g_isWithin_18 (by decide) ?_
        rw [bel_s h2 h1 hb0 (by omega) q2 z8]
        exact ih (S 7 p) (by omega) hp.1 (by omega)
      · refine c_iconst d_g_isWithin_11 ?_
        exact c_zret rfl (by omega) d_g_isWithin_12 (⟨by rw [z8, bel_eq], rfl, rfl⟩)
theorem t_g_isWithin {g : xG} {K : hp} {ad : cA} {S : gS} {QX : qKE} {a b : Int} (h2 : Inv2 S) (h1 : Inv1 S) (hG : ∀ p, 0 ≤ p → p < S 6 0 → S 53 p = 1) (ha0 : 0 ≤ a) (ha1 : a < S 6 0) (hb0 : 0 ≤ b) (hb1 : b < S 6 0) : cM g y_g_isWithin k_g_isWithin M_g_isWithin K [.ref (ad 3 a), .ref (ad 3 b)] ad S (rd ad S (.int (iI (bel S a b)))) QX := by
  refine cM.of rfl (by decide) rfl rfl rfl (by simp [Value.category]) (Nat.le_of_ble_eq_true rfl) rfl ?_
  refine c_aload_n d_g_isWithin_0 rfl ?_
  refine c_astore_n d_g_isWithin_1 (by decide) ?_
  have e := L_g_isWithin (QX := QX) (g := g) (K := K) (ad := ad) (rc := M_g_isWithin.2.2.2.2.2.2.cells) (rs := M_g_isWithin.2.2.2.2.2.2.slots) (x := ad 3 a) h2 h1 hG hb0 hb1 (a + 1).toNat a (by omega) (by omega) ha1
  rw [show rfo ad 3 a = .ref (ad 3 a) from rfo_ref (by omega)] at e
  exact e
theorem L_g_hasRoom {g : xG} {K : hp} {ad : cA} {S : gS} {QX : qKE} {rc rs : Nat} {u m : Int} {x : Nat} (hI : Inv S) (h2 : Inv2 S) (h1 : Inv1 S) (hG : ∀ p, 0 ≤ p → p < S 6 0 → S 53 p = 1) (hX : ExM S) (hu0 : 0 ≤ u) (hu1 : u ≤ 10000) (hm0 : 0 ≤ m) (hm1 : m ≤ 10000) : ∀ (n : Nat) (p : Int) (v4 v5 : Option Value), p < n → -1 ≤ p → p < S 6 0 → cW g M_g_hasRoom K (rd ad S (.int (iI (if tm S p u m = -1 then 1 else 0)))) QX rc rs ad S 2 [some (.ref x), some (.int (iI u)), some (.int (iI m)), some (rfo ad 3 p), v4, v5] [] := by
  intro n
  induction n with
  | zero =>
    intro p v4 v5 q0 q1 q2
    have hz : p = -1 := by omega
    subst hz
    refine c_aload_nN d_g_hasRoom_2 rfl ?_
    refine c_ifnullN (tgt := 66) d_g_hasRoom_3 (by decide) ?_
    refine c_iconst d_g_hasRoom_66 ?_
    exact c_zret rfl (by omega) d_g_hasRoom_67 (⟨by rw [tm_m1]; rfl, rfl, rfl⟩)
  | succ n ih =>
    intro p v4 v5 q0 q1 q2
    by_cases hz : p = -1
    · subst hz
      refine c_aload_nN d_g_hasRoom_2 rfl ?_
      refine c_ifnullN (tgt := 66) d_g_hasRoom_3 (by decide) ?_
      refine c_iconst d_g_hasRoom_66 ?_
      exact c_zret rfl (by omega) d_g_hasRoom_67 (⟨by rw [tm_m1]; rfl, rfl, rfl⟩)
    · rw [rfo_ref hz]
      have hp := h2.pa h1 p (by omega) q2
      have hM := hX p (by omega) q2
      have hmb := memI_b hI p
      have hpb := prcI_b hI p
      have hl5 := hI.2.2.2.2.2.1.1 p (by omega) q2
      refine c_aload_n d_g_hasRoom_2 rfl ?_
      refine c_ifnull d_g_hasRoom_3 ?_
      refine c_aload_n d_g_hasRoom_6 rfl ?_
      refine cg_g_23_3 (hG p (by omega) q2) d_g_hasRoom_7 rfl ?_
      refine c_iload_n d_g_hasRoom_10 rfl ?_
      refine c_iadd d_g_hasRoom_11 ?_
      refine c_aload_n d_g_hasRoom_12 rfl ?_
      refine cg_g_13_3 (hG p (by omega) q2) d_g_hasRoom_13 rfl ?_
      refine c_icmp_gt (tgt := 23) d_g_hasRoom_16 (by decide) (by first | assumption | (unfold R32; omega)) (by first | assumption | (unfold R32; omega)) (fun z16 => ?_) (fun z16 => ?_)
      · refine c_iconst d_g_hasRoom_23 ?_
        refine c_istore d_g_hasRoom_24 (by decide) ?_
        refine c_aload_n d_g_hasRoom_26 rfl ?_
        refine cg_g_26_3 (hG p (by omega) q2) d_g_hasRoom_27 rfl ?_
        refine c_iload_n d_g_hasRoom_30 rfl ?_
        refine c_iadd d_g_hasRoom_31 ?_
        refine c_aload_n d_g_hasRoom_32 rfl ?_
        refine cg_g_17_3 (hG p (by omega) q2) d_g_hasRoom_33 rfl ?_
        refine c_icmp_gt (tgt := 43) d_g_hasRoom_36 (by decide) (by first | assumption | (unfold R32; omega)) (by first | assumption | (unfold R32; omega)) (fun z36 => ?_) (fun z36 => ?_)
        · refine c_iconst d_g_hasRoom_43 ?_
          refine c_istore d_g_hasRoom_44 (by decide) ?_
          refine c_iload d_g_hasRoom_46 rfl ?_
          refine c_if_eq (tgt := 56) d_g_hasRoom_48 (by decide) (by first | assumption | (unfold R32; omega)) (fun z48 => ?_) (fun z48 => ?_)
          · refine c_iconst d_g_hasRoom_56 ?_
            exact c_zret rfl (by omega) d_g_hasRoom_57 (⟨by rw [show tm S p u m = p from (tm_s h2 h1 u m (by omega) q2).trans (if_pos (by omega)), if_neg hz], rfl, rfl⟩)
          · exact absurd z48 (by decide)
        · refine c_iconst d_g_hasRoom_39 ?_
          refine c_goto (tgt := 44) d_g_hasRoom_40 (by decide) ?_
          refine c_istore d_g_hasRoom_44 (by decide) ?_
          refine c_iload d_g_hasRoom_46 rfl ?_
          refine c_if_eq (tgt := 56) d_g_hasRoom_48 (by decide) (by first | assumption | (unfold R32; omega)) (fun z48 => ?_) (fun z48 => ?_)
          · refine c_iconst d_g_hasRoom_56 ?_
            exact c_zret rfl (by omega) d_g_hasRoom_57 (⟨by rw [show tm S p u m = p from (tm_s h2 h1 u m (by omega) q2).trans (if_pos (by omega)), if_neg hz], rfl, rfl⟩)
          · exact absurd z48 (by decide)
      · refine c_iconst d_g_hasRoom_19 ?_
        refine c_goto (tgt := 24) d_g_hasRoom_20 (by decide) ?_
        refine c_istore d_g_hasRoom_24 (by decide) ?_
        refine c_aload_n d_g_hasRoom_26 rfl ?_
        refine cg_g_26_3 (hG p (by omega) q2) d_g_hasRoom_27 rfl ?_
        refine c_iload_n d_g_hasRoom_30 rfl ?_
        refine c_iadd d_g_hasRoom_31 ?_
        refine c_aload_n d_g_hasRoom_32 rfl ?_
        refine cg_g_17_3 (hG p (by omega) q2) d_g_hasRoom_33 rfl ?_
        refine c_icmp_gt (tgt := 43) d_g_hasRoom_36 (by decide) (by first | assumption | (unfold R32; omega)) (by first | assumption | (unfold R32; omega)) (fun z36 => ?_) (fun z36 => ?_)
        · refine c_iconst d_g_hasRoom_43 ?_
          refine c_istore d_g_hasRoom_44 (by decide) ?_
          refine c_iload d_g_hasRoom_46 rfl ?_
          refine c_if_eq (tgt := 56) d_g_hasRoom_48 (by decide) (by first | assumption | (unfold R32; omega)) (fun z48 => ?_) (fun z48 => ?_)
          · exact absurd z48 (by decide)
          · refine c_iload d_g_hasRoom_51 rfl ?_
            refine c_if_ne (tgt := 58) d_g_hasRoom_53 (by decide) (by first | assumption | (unfold R32; omega)) (fun z53 => ?_) (fun z53 => ?_)
            · exact absurd z53 (by decide)
            · refine c_iconst d_g_hasRoom_56 ?_
              exact c_zret rfl (by omega) d_g_hasRoom_57 (⟨by rw [show tm S p u m = p from (tm_s h2 h1 u m (by omega) q2).trans (if_pos (by omega)), if_neg hz], rfl, rfl⟩)
        · refine c_iconst d_g_hasRoom_39 ?_
          refine c_goto (tgt := 44) d_g_hasRoom_40 (by decide) ?_
          refine c_istore d_g_hasRoom_44 (by decide) ?_
          refine c_iload d_g_hasRoom_46 rfl ?_
          refine c_if_eq (tgt := 56) d_g_hasRoom_48 (by decide) (by first | assumption | (unfold R32; omega)) (fun z48 => ?_) (fun z48 => ?_)
          · exact absurd z48 (by decide)
          · refine c_iload d_g_hasRoom_51 rfl ?_
            refine c_if_ne (tgt := 58) d_g_hasRoom_53 (by decide) (by first | assumption | (unfold R32; omega)) (fun z53 => ?_) (fun z53 => ?_)
            · refine c_aload_n d_g_hasRoom_58 rfl ?_
              refine cg_g_7_3 (hG p (by omega) q2) d_g_hasRoom_59 rfl ?_
              refine c_astore_nR d_g_hasRoom_62 (by decide) ?_
              refine c_goto (tgt := 2) d_g_hasRoom_63 (by decide) ?_
              rw [show tm S p u m = tm S (S 7 p) u m from by rw [tm_s h2 h1 u m (by omega) q2, if_neg (by omega)]]
              exact ih (S 7 p) _ _ (by omega) hp.1 (by omega)
            · exact absurd z53 (by decide)
theorem t_g_hasRoom {g : xG} {K : hp} {ad : cA} {S : gS} {QX : qKE} {a u m : Int} (hI : Inv S) (h2 : Inv2 S) (h1 : Inv1 S) (hG : ∀ p, 0 ≤ p → p < S 6 0 → S 53 p = 1) (hX : ExM S) (ha0 : 0 ≤ a) (ha1 : a < S 6 0) (hu0 : 0 ≤ u) (hu1 : u ≤ 10000) (hm0 : 0 ≤ m) (hm1 : m ≤ 10000) : cM g y_g_hasRoom k_g_hasRoom M_g_hasRoom K [.ref (ad 3 a), .int (iI u), .int (iI m)] ad S (rd ad S (.int (iI (if tm S a u m = -1 then 1 else 0)))) QX := by
  refine cM.of rfl (by decide) rfl rfl rfl (by simp [Value.category]) (Nat.le_of_ble_eq_true rfl) rfl ?_
  refine c_aload_n d_g_hasRoom_0 rfl ?_
  refine c_astore_n d_g_hasRoom_1 (by decide) ?_
  have e := L_g_hasRoom (QX := QX) (g := g) (K := K) (ad := ad) (rc := M_g_hasRoom.2.2.2.2.2.2.cells) (rs := M_g_hasRoom.2.2.2.2.2.2.slots) (x := ad 3 a) hI h2 h1 hG hX hu0 hu1 hm0 hm1 (a + 1).toNat a none none (by omega) (by omega) ha1
  rw [show rfo ad 3 a = .ref (ad 3 a) from rfo_ref (by omega)] at e
  exact e
theorem L_g_firstWithoutMemory {g : xG} {K : hp} {ad : cA} {S : gS} {QX : qKE} {rc rs : Nat} {u : Int} {x : Nat} (hI : Inv S) (h2 : Inv2 S) (h1 : Inv1 S) (hG : ∀ p, 0 ≤ p → p < S 6 0 → S 53 p = 1) (hX : ExM S) (hxt : ExT S) (hu0 : 0 ≤ u) (hu1 : u ≤ 10000) : ∀ (n : Nat) (p : Int), p < n → -1 ≤ p → p < S 6 0 → cW g M_g_firstWithoutMemory K (rd ad S (rfo ad 3 (tm S p u 0))) QX rc rs ad S 2 [some (.ref x), some (.int (iI u)), some (rfo ad 3 p)] [] := by
  intro n
  induction n with
  | zero =>
    intro p q0 q1 q2
    have hz : p = -1 := by omega
    subst hz
    refine c_aload_nN d_g_firstWithoutMemory_2 rfl ?_
    refine c_ifnullN (tgt := 29) d_g_firstWithoutMemory_3 (by decide) ?_
    refine c_null d_g_firstWithoutMemory_29 ?_
    exact c_aret rfl (Or.inl ⟨_, rfl⟩) (Or.inl rfl) d_g_firstWithoutMemory_30 (⟨by rw [tm_m1]; rfl, rfl, rfl⟩)
  | succ n ih =>
    intro p q0 q1 q2
    by_cases hz : p = -1
    · subst hz
      refine c_aload_nN d_g_firstWithoutMemory_2 rfl ?_
      refine c_ifnullN (tgt := 29) d_g_firstWithoutMemory_3 (by decide) ?_
      refine c_null d_g_firstWithoutMemory_29 ?_
      exact c_aret rfl (Or.inl ⟨_, rfl⟩) (Or.inl rfl) d_g_firstWithoutMemory_30 (⟨by rw [tm_m1]; rfl, rfl, rfl⟩)
    · rw [rfo_ref hz]
      have hp := h2.pa h1 p (by omega) q2
      have hM := hX p (by omega) q2
      have hmb := memI_b hI p
      have hpb := prcI_b hI p
      have hl5 := hI.2.2.2.2.2.1.1 p (by omega) q2
      have hT := hxt p (by omega) q2
      refine c_aload_n d_g_firstWithoutMemory_2 rfl ?_
      refine c_ifnull d_g_firstWithoutMemory_3 ?_
      refine c_aload_n d_g_firstWithoutMemory_6 rfl ?_
      refine cg_g_23_3 (hG p (by omega) q2) d_g_firstWithoutMemory_7 rfl ?_
      refine c_iload_n d_g_firstWithoutMemory_10 rfl ?_
      refine c_iadd d_g_firstWithoutMemory_11 ?_
      refine c_aload_n d_g_firstWithoutMemory_12 rfl ?_
      refine cg_g_13_3 (hG p (by omega) q2) d_g_firstWithoutMemory_13 rfl ?_
      refine c_icmp_le (tgt := 21) d_g_firstWithoutMemory_16 (by decide) (by first | assumption | (unfold R32; omega)) (by first | assumption | (unfold R32; omega)) (fun z16 => ?_) (fun z16 => ?_)
      · refine c_aload_n d_g_firstWithoutMemory_21 rfl ?_
        refine cg_g_7_3 (hG p (by omega) q2) d_g_firstWithoutMemory_22 rfl ?_
        refine c_astore_nR d_g_firstWithoutMemory_25 (by decide) ?_
        refine c_goto (tgt := 2) d_g_firstWithoutMemory_26 (by decide) ?_
        have e := ih (S 7 p) (by omega) hp.1 (by omega)
        rw [show tm S p u 0 = tm S (S 7 p) u 0 from by rw [tm_s h2 h1 u 0 (by omega) q2, if_neg (by omega)]]
        exact e
      · refine c_aload_n d_g_firstWithoutMemory_19 rfl ?_
        exact c_aret rfl (Or.inl ⟨_, rfl⟩) (Or.inr ⟨_, rfl⟩) d_g_firstWithoutMemory_20 (⟨by rw [tm_s h2 h1 u 0 (by omega) q2, if_pos (by omega), rfo_ref hz], rfl, rfl⟩)
theorem t_g_firstWithoutMemory {g : xG} {K : hp} {ad : cA} {S : gS} {QX : qKE} {a u : Int} (hI : Inv S) (h2 : Inv2 S) (h1 : Inv1 S) (hG : ∀ p, 0 ≤ p → p < S 6 0 → S 53 p = 1) (hX : ExM S) (hxt : ExT S) (ha0 : 0 ≤ a) (ha1 : a < S 6 0) (hu0 : 0 ≤ u) (hu1 : u ≤ 10000) : cM g y_g_firstWithoutMemory k_g_firstWithoutMemory M_g_firstWithoutMemory K [.ref (ad 3 a), .int (iI u)] ad S (rd ad S (rfo ad 3 (tm S a u 0))) QX := by
  refine cM.of rfl (by decide) rfl rfl rfl (by simp [Value.category]) (Nat.le_of_ble_eq_true rfl) rfl ?_
  refine c_aload_n d_g_firstWithoutMemory_0 rfl ?_
  refine c_astore_n d_g_firstWithoutMemory_1 (by decide) ?_
  have e := L_g_firstWithoutMemory (QX := QX) (g := g) (K := K) (ad := ad) (rc := M_g_firstWithoutMemory.2.2.2.2.2.2.cells) (rs := M_g_firstWithoutMemory.2.2.2.2.2.2.slots) (x := ad 3 a) hI h2 h1 hG hX hxt hu0 hu1 (a + 1).toNat a (by omega) (by omega) ha1
  rw [show rfo ad 3 a = .ref (ad 3 a) from rfo_ref (by omega)] at e
  exact e
theorem blw_lt {S : gS} (hI : Inv S) {l : Int} (h : lvl S l) : blw S l < l := by
  obtain ⟨hR, h1, h2, h3, -⟩ := hI
  unfold Inv1 at h1
  unfold blw
  rcases h with ⟨a, b⟩ | ⟨a, b⟩
  · rw [if_pos (by omega)]
    exact (h2.1 l a b).2
  · rw [if_neg (by omega)]
    have := (h3 _ b).1
    omega
theorem L_l_fileSeen {g : xG} {K : hp} {ad : cA} {S : gS} {QX : qKE} {rc rs : Nat} {f : Int} {x : Nat} (hI : Inv S) (hE : Ext S) (hI6 : Inv6 S) (h0 : 0 ≤ f) (h1 : f < 32) : ∀ (n : Nat) (p : Int), p < n → -1 ≤ p → (p = -1 ∨ lvl S p) → cW g M_l_fileSeen K (rd ad S (.int (iI (see6 S p f)))) QX rc rs ad S 2 [some (.ref x), some (.int (iI f)), some (rfo ad 6 p)] [] := by
  intro n
  induction n with
  | zero =>
    intro p q0 q1 q2
    have hz : p = -1 := by omega
    subst hz
    refine c_aload_nN d_l_fileSeen_2 rfl ?_
    refine c_ifnullN (tgt := 38) d_l_fileSeen_3 (by decide) ?_
    refine c_iconst d_l_fileSeen_38 ?_
    exact c_iret rfl d_l_fileSeen_39 (⟨by rw [see6_i S f (by omega), see_m1], rfl, rfl⟩)
  | succ n ih =>
    intro p q0 q1 q2
    by_cases hz : p = -1
    · subst hz
      refine c_aload_nN d_l_fileSeen_2 rfl ?_
      refine c_ifnullN (tgt := 38) d_l_fileSeen_3 (by decide) ?_
      refine c_iconst d_l_fileSeen_38 ?_
      exact c_iret rfl d_l_fileSeen_39 (⟨by rw [see6_i S f (by omega), see_m1], rfl, rfl⟩)
    · rw [rfo_ref hz]
      have hv : lvl S p := q2.resolve_left hz
      have hd := hv.dn hI
      have hc6 := hI6.1 (32 * p + f)
      have hb6 := bit_01 (S 2 p) (f / 4)
      have hi1 := hI.2.1
      unfold Inv1 at hi1
      have hbp : blw S p < p := blw_lt hI hv
      refine c_aload_n d_l_fileSeen_2 rfl ?_
      refine c_ifnull d_l_fileSeen_3 ?_
      refine c_aload_n d_l_fileSeen_6 rfl ?_
      refine cg_l_9_5 (hE.y hv) d_l_fileSeen_7 rfl ?_
      refine c_iload_n d_l_fileSeen_10 rfl ?_
      refine c_fald (hE.f hv) d_l_fileSeen_11 (by omega) (by omega) ?_
      refine c_if_ne (tgt := 23) d_l_fileSeen_12 (by decide) (by first | assumption | (unfold R32; omega)) (fun z12 => ?_) (fun z12 => ?_)
      · refine c_aload_n d_l_fileSeen_23 rfl ?_
        refine c_iconst d_l_fileSeen_24 ?_
        refine c_iload_n d_l_fileSeen_25 rfl ?_
        refine c_callV (r := (RX4, TX4, 4)) d_l_fileSeen_26 q_l_fileSeen_45 s_l_laidOver v_l_laidOver (t_l_laidOver_c (hE.y hv) (hE.f hv) hI6 h0 h1) (fun _ z => ⟨_, z.at 6 (by decide) (hE.y hv)⟩) rfl rfl rfl rfl (Nat.le_of_ble_eq_true rfl) rfl rfl rfl (fun _ _ _ z => z) ?_
        rintro _ _ _ ⟨rfl, rfl, rfl⟩
        exact c_iret rfl d_l_fileSeen_29 (⟨by rw [see6_s hI f hv]; exact congrArg (fun z => some (Value.int (iI z))) (lyr_stop (by omega)), rfl, rfl⟩)
      · refine c_aload_n d_l_fileSeen_15 rfl ?_
        refine c_iload_n d_l_fileSeen_16 rfl ?_
        refine c_callV (r := (RX4, TX4, 4)) d_l_fileSeen_17 q_l_fileSeen_41 s_l_hidesBelow v_l_hidesBelow (t_l_hidesBelow_c (hE.y hv) (hI6.2.1 p).1 h0 h1) (fun _ z => ⟨_, z.at 6 (by decide) (hE.y hv)⟩) rfl rfl rfl rfl (Nat.le_of_ble_eq_true rfl) rfl rfl rfl (fun _ _ _ z => z) ?_
        rintro _ _ _ ⟨rfl, rfl, rfl⟩
        refine c_if_eq (tgt := 30) d_l_fileSeen_20 (by decide) (by first | assumption | (unfold R32; omega)) (fun z20 => ?_) (fun z20 => ?_)
        · refine c_aload_n d_l_fileSeen_30 rfl ?_
          refine cg_l_15_5 (hE.y hv) d_l_fileSeen_31 rfl ?_
          refine c_astore_nR d_l_fileSeen_34 (by decide) ?_
          refine c_goto (tgt := 2) d_l_fileSeen_35 (by decide) ?_
          have e := ih (blw S p) (by omega) (by omega) (hd.elim Or.inl (fun z => Or.inr z.2.2))
          rw [show see6 S p f = see6 S (blw S p) f from by rw [see6_s hI f hv]; exact lyr_go (by omega) (by omega)]
          exact e
        · refine c_aload_n d_l_fileSeen_23 rfl ?_
          refine c_iconst d_l_fileSeen_24 ?_
          refine c_iload_n d_l_fileSeen_25 rfl ?_
          refine c_callV (r := (RX4, TX4, 4)) d_l_fileSeen_26 q_l_fileSeen_45 s_l_laidOver v_l_laidOver (t_l_laidOver_c (hE.y hv) (hE.f hv) hI6 h0 h1) (fun _ z => ⟨_, z.at 6 (by decide) (hE.y hv)⟩) rfl rfl rfl rfl (Nat.le_of_ble_eq_true rfl) rfl rfl rfl (fun _ _ _ z => z) ?_
          rintro _ _ _ ⟨rfl, rfl, rfl⟩
          exact c_iret rfl d_l_fileSeen_29 (⟨by rw [see6_s hI f hv]; exact congrArg (fun z => some (Value.int (iI z))) (lyr_stop (by omega)), rfl, rfl⟩)
theorem t_l_fileSeen {g : xG} {K : hp} {ad : cA} {S : gS} {QX : qKE} {l f : Int} (hI : Inv S) (hE : Ext S) (hI6 : Inv6 S) (h0 : 0 ≤ f) (h1 : f < 32) (hv : lvl S l) : cM g y_l_fileSeen k_l_fileSeen M_l_fileSeen K [.ref (ad 6 l), .int (iI f)] ad S (rd ad S (.int (iI (see6 S l f)))) QX := by
  refine cM.of rfl (by decide) rfl rfl rfl (by simp [Value.category]) (Nat.le_of_ble_eq_true rfl) rfl ?_
  have hl0 : 0 ≤ l := by unfold lvl at hv; omega
  refine c_aload_n d_l_fileSeen_0 rfl ?_
  refine c_astore_n d_l_fileSeen_1 (by decide) ?_
  have e := L_l_fileSeen (QX := QX) (g := g) (K := K) (ad := ad) (rc := M_l_fileSeen.2.2.2.2.2.2.cells) (rs := M_l_fileSeen.2.2.2.2.2.2.slots) (x := ad 6 l) hI hE hI6 h0 h1 (l + 1).toNat l (by omega) (by omega) (Or.inr hv)
  rw [show rfo ad 6 l = .ref (ad 6 l) from rfo_ref (by omega)] at e
  exact e
