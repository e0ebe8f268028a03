theorem bset_b16 {a k : Int} (h0 : 0 ≤ a) (h1 : a ≤ 65535) (hk0 : 0 ≤ k) (hk1 : k < 16) : 0 ≤ bset a k ∧ bset a k ≤ 65535 := by
  have := bset_b (n := 16) h0 hk0 (by omega) (show a < 2 ^ 16 by omega)
  omega
theorem L_l_filesSeenIn {g : xG} {K : hp} {ad : cA} {S : gS} {QX : qKE} {rc rs : Nat} {l d : Int} (hI : Inv S) (hE : Ext S) (hv : lvl S l) (hl : l < 10) (hd0 : 0 ≤ d) (hd1 : d < 8) : ∀ (f9 n : Nat), n ≤ 4 → 4 < n + f9 → cW g M_l_filesSeenIn K (rd ad S (.int (iI (clN S l d 4)))) QX rc rs ad S 4 [some (.ref (ad 6 l)), some (.int (iI d)), some (.int (iI (clN S l d n))), some (.int (iI (n : Int)))] [] := by
  intro f9
  induction f9 with
  | zero => intros; omega
  | succ f9 ih =>
    intro n q1 q2
    have hI6 := hI.2.2.2.2.2.2.1
    have hsb := see_b hI6 l (4 * d + n)
    refine c_iload_n d_l_filesSeenIn_4 rfl ?_
    refine c_iconst d_l_filesSeenIn_5 ?_
    refine c_icmp_ge (tgt := 35) d_l_filesSeenIn_6 (by decide) (by first | assumption | exact hR _ _ (by decide) | (unfold R32; omega)) (by first | assumption | exact hR _ _ (by decide) | (unfold R32; omega)) (fun z6 => ?_) (fun z6 => ?_)
    · refine c_iload_n d_l_filesSeenIn_35 rfl ?_
      exact c_iret rfl d_l_filesSeenIn_36 (⟨by rw [show n = 4 by omega], rfl, rfl⟩)
    · refine c_iload_n d_l_filesSeenIn_9 rfl ?_
      refine c_aload_n d_l_filesSeenIn_10 rfl ?_
      refine c_iload_n d_l_filesSeenIn_11 rfl ?_
      refine c_iconst d_l_filesSeenIn_12 ?_
      refine c_imul d_l_filesSeenIn_13 ?_
      refine c_iload_n d_l_filesSeenIn_14 rfl ?_
      refine c_iadd d_l_filesSeenIn_15 ?_
      rw [show d * 4 + (n : Int) = 4 * d + n by omega]
      refine c_callV (r := (RX4, TX4, 4)) d_l_filesSeenIn_16 q_l_filesSeenIn_49 s_l_fileSeen v_l_fileSeen (t_l_fileSeen hI hE hI6 (f := 4 * d + n) (by omega) (by omega) hv) (fun _ z => ⟨_, z.at 6 (by decide) (hE.y hv)⟩) rfl rfl rfl rfl (Nat.le_of_ble_eq_true rfl) rfl rfl rfl (fun _ _ _ z => z) ?_
      rintro _ _ _ ⟨rfl, rfl, rfl⟩
      rw [see6_i S _ hl]
      refine c_if_ne (tgt := 26) d_l_filesSeenIn_19 (by decide) (by first | assumption | exact hR _ _ (by decide) | (unfold R32; omega)) (fun z19 => ?_) (fun z19 => ?_)
      · refine c_iconst d_l_filesSeenIn_26 ?_
        refine c_iadd d_l_filesSeenIn_27 ?_
        refine c_istore_n d_l_filesSeenIn_28 (by decide) ?_
        refine c_iinc d_l_filesSeenIn_29 rfl (by decide) ?_
        refine c_goto (tgt := 4) d_l_filesSeenIn_32 (by decide) ?_
        have e := ih (n + 1) (by omega) (by omega)
        first
        | (rw [show clN S l d (n + 1) = clN S l d n + 1 from by show clN S l d n + (if 0 < see S l (4 * d + n) then (1 : Int) else 0) = _; rw [if_pos (by omega)]] at e; exact e)
        | (rw [show clN S l d (n + 1) = clN S l d n + 0 from by show clN S l d n + (if 0 < see S l (4 * d + n) then (1 : Int) else 0) = _; rw [if_neg (by omega)]] at e; exact e)
      · refine c_iconst d_l_filesSeenIn_22 ?_
        refine c_goto (tgt := 27) d_l_filesSeenIn_23 (by decide) ?_
        refine c_iadd d_l_filesSeenIn_27 ?_
        refine c_istore_n d_l_filesSeenIn_28 (by decide) ?_
        refine c_iinc d_l_filesSeenIn_29 rfl (by decide) ?_
        refine c_goto (tgt := 4) d_l_filesSeenIn_32 (by decide) ?_
        have e := ih (n + 1) (by omega) (by omega)
        first
        | (rw [show clN S l d (n + 1) = clN S l d n + 1 from by show clN S l d n + (if 0 < see S l (4 * d + n) then (1 : Int) else 0) = _; rw [if_pos (by omega)]] at e; exact e)
        | (rw [show clN S l d (n + 1) = clN S l d n + 0 from by show clN S l d n + (if 0 < see S l (4 * d + n) then (1 : Int) else 0) = _; rw [if_neg (by omega)]] at e; exact e)
theorem t_l_filesSeenIn {g : xG} {K : hp} {ad : cA} {S : gS} {QX : qKE} {l d : Int} (hI : Inv S) (hE : Ext S) (hv : lvl S l) (hl : l < 10) (hd0 : 0 ≤ d) (hd1 : d < 8) : cM g y_l_filesSeenIn k_l_filesSeenIn M_l_filesSeenIn K [.ref (ad 6 l), .int (iI d)] ad S (rd ad S (.int (iI (clN S l d 4)))) QX := by
  refine cM.of rfl (by decide) rfl rfl rfl (by simp [Value.category]) (Nat.le_of_ble_eq_true rfl) rfl ?_
  refine c_iconst d_l_filesSeenIn_0 ?_
  refine c_istore_n d_l_filesSeenIn_1 (by decide) ?_
  refine c_iconst d_l_filesSeenIn_2 ?_
  refine c_istore_n d_l_filesSeenIn_3 (by decide) ?_
  exact L_l_filesSeenIn hI hE hv hl hd0 hd1 5 0 (by omega) (by omega)
theorem L_l_makeOpaque {g : xG} {K : hp} {ad : cA} {S : gS} {QX : qKE} {rc rs : Nat} {l d : Int} (hly : S 56 l = 1) (hf : S 57 l = 1) (hd0 : 0 ≤ d) (hd1 : d < 8) : ∀ (f9 : Nat) (n : Int), 0 ≤ n → n ≤ 4 → 4 < n + f9 → cW g M_l_makeOpaque K (fun v9 ad9 S9 => v9 = none ∧ ad = ad9 ∧ S9 = zz S l d 4) QX rc rs ad (zz S l d n) 14 [some (.ref (ad 6 l)), some (.int (iI d)), some (.int (iI n))] [] := by
  intro f9
  induction f9 with
  | zero => intros; omega
  | succ f9 ih =>
    intro n q0 q1 q2
    have hf' : zz S l d n 57 l = 1 := (if_neg (fun z => absurd z.1 (by decide))).trans hf
    have hly' : zz S l d n 56 l = 1 := (if_neg (fun z => absurd z.1 (by decide))).trans hly
    refine c_iload_n d_l_makeOpaque_14 rfl ?_
    refine c_iconst d_l_makeOpaque_15 ?_
    refine c_icmp_ge (tgt := 36) d_l_makeOpaque_16 (by decide) (by first | assumption | exact hR _ _ (by decide) | (unfold R32; omega)) (by first | assumption | exact hR _ _ (by decide) | (unfold R32; omega)) (fun z16 => ?_) (fun z16 => ?_)
    · exact c_vret rfl d_l_makeOpaque_36 (⟨rfl, rfl, by rw [show n = 4 by omega]⟩)
    · refine c_aload_n d_l_makeOpaque_19 rfl ?_
      refine cg_l_9_5 hly' d_l_makeOpaque_20 rfl ?_
      refine c_iload_n d_l_makeOpaque_23 rfl ?_
      refine c_iconst d_l_makeOpaque_24 ?_
      refine c_imul d_l_makeOpaque_25 ?_
      refine c_iload_n d_l_makeOpaque_26 rfl ?_
      refine c_iadd d_l_makeOpaque_27 ?_
      rw [show d * 4 + n = 4 * d + n by omega]
      refine c_iconst d_l_makeOpaque_28 ?_
      refine c_fast hf' d_l_makeOpaque_29 (by omega) (by omega) ?_
      refine c_iinc d_l_makeOpaque_30 rfl (by decide) ?_
      refine c_goto (tgt := 14) d_l_makeOpaque_33 (by decide) ?_
      rw [zz_s S q0]
      exact ih (n + 1) (by omega) (by omega) (by omega)
theorem t_l_makeOpaque {g : xG} {K : hp} {ad : cA} {S : gS} {QX : qKE} {l d : Int} (hly : S 56 l = 1) (hf : S 57 l = 1) (hd0 : 0 ≤ d) (hd1 : d < 8) (h2 : 0 ≤ S 2 l) : cM g y_l_makeOpaque k_l_makeOpaque M_l_makeOpaque K [.ref (ad 6 l), .int (iI d)] ad S (fun v9 ad9 S9 => v9 = none ∧ ad = ad9 ∧ S9 = zz (sset S 2 l (bset (S 2 l) d)) l d 4) QX := by
  refine cM.of rfl (by decide) rfl rfl rfl (by simp [Value.category]) (Nat.le_of_ble_eq_true rfl) rfl ?_
  refine c_aload_n d_l_makeOpaque_0 rfl ?_
  refine c_dup d_l_makeOpaque_1 rfl ?_
  refine cg_l_32_5 hly d_l_makeOpaque_2 rfl ?_
  refine c_iconst d_l_makeOpaque_5 ?_
  refine c_iload_n d_l_makeOpaque_6 rfl ?_
  refine c_ishl1 d_l_makeOpaque_7 (by omega) (by omega) ?_
  refine c_iork d_l_makeOpaque_8 (by omega) ?_
  refine cp_l_32_5 hly d_l_makeOpaque_9 rfl ?_
  refine c_iconst d_l_makeOpaque_12 ?_
  refine c_istore_n d_l_makeOpaque_13 (by decide) ?_
  have e := L_l_makeOpaque (g := g) (K := K) (ad := ad) (QX := QX) (S := sset S 2 l (bset (S 2 l) d)) (l := l) (rc := M_l_makeOpaque.2.2.2.2.2.2.cells) (rs := M_l_makeOpaque.2.2.2.2.2.2.slots) hly hf hd0 hd1 5 0 (by omega) (by omega) (by omega)
  rw [zz_0] at e
  exact e
theorem L_l_countEntries {g : xG} {K : hp} {ad : cA} {S : gS} {QX : qKE} {rc rs : Nat} {l o : Int} (hR : hRp S) (hly : S 56 l = 1) (hf : S 57 l = 1) : ∀ (f9 n : Nat), n ≤ 32 → 32 < n + f9 → cW g M_l_countEntries K (rd ad S (.int (iI (enC S l 32 + o)))) QX rc rs ad S 10 [some (.ref (ad 6 l)), some (.int (iI (enC S l n + o))), some (.int (iI (n : Int)))] [] := by
  intro f9
  induction f9 with
  | zero => intros; omega
  | succ f9 ih =>
    intro n q1 q2
    refine c_iload_n d_l_countEntries_10 rfl ?_
    refine c_bipush d_l_countEntries_11 (by decide) ?_
    refine c_icmp_ge (tgt := 39) d_l_countEntries_13 (by decide) (by first | assumption | exact hR _ _ (by decide) | (unfold R32; omega)) (by first | assumption | exact hR _ _ (by decide) | (unfold R32; omega)) (fun z13 => ?_) (fun z13 => ?_)
    · refine c_iload_n d_l_countEntries_39 rfl ?_
      exact c_iret rfl d_l_countEntries_40 (⟨by rw [show n = 32 by omega], rfl, rfl⟩)
    · refine c_iload_n d_l_countEntries_16 rfl ?_
      refine c_aload_n d_l_countEntries_17 rfl ?_
      refine cg_l_9_5 hly d_l_countEntries_18 rfl ?_
      refine c_iload_n d_l_countEntries_21 rfl ?_
      refine c_fald hf d_l_countEntries_22 (by omega) (by omega) ?_
      refine c_if_ne (tgt := 30) d_l_countEntries_23 (by decide) (by first | assumption | exact hR _ _ (by decide) | (unfold R32; omega)) (fun z23 => ?_) (fun z23 => ?_)
      · refine c_iconst d_l_countEntries_30 ?_
        refine c_iadd d_l_countEntries_31 ?_
        refine c_istore_n d_l_countEntries_32 (by decide) ?_
        refine c_iinc d_l_countEntries_33 rfl (by decide) ?_
        refine c_goto (tgt := 10) d_l_countEntries_36 (by decide) ?_
        have e := ih (n + 1) (by omega) (by omega)
        first
        | (rw [show enC S l (n + 1) + o = enC S l n + o + 1 from by show enC S l n + (if S 1 (32 * l + n) = 0 then (0 : Int) else 1) + o = _; rw [if_neg (by omega)]; omega] at e; exact e)
        | (rw [show enC S l (n + 1) + o = enC S l n + o + 0 from by show enC S l n + (if S 1 (32 * l + n) = 0 then (0 : Int) else 1) + o = _; rw [if_pos (by omega)]; omega] at e; exact e)
      · refine c_iconst d_l_countEntries_26 ?_
        refine c_goto (tgt := 31) d_l_countEntries_27 (by decide) ?_
        refine c_iadd d_l_countEntries_31 ?_
        refine c_istore_n d_l_countEntries_32 (by decide) ?_
        refine c_iinc d_l_countEntries_33 rfl (by decide) ?_
        refine c_goto (tgt := 10) d_l_countEntries_36 (by decide) ?_
        have e := ih (n + 1) (by omega) (by omega)
        first
        | (rw [show enC S l (n + 1) + o = enC S l n + o + 1 from by show enC S l n + (if S 1 (32 * l + n) = 0 then (0 : Int) else 1) + o = _; rw [if_neg (by omega)]; omega] at e; exact e)
        | (rw [show enC S l (n + 1) + o = enC S l n + o + 0 from by show enC S l n + (if S 1 (32 * l + n) = 0 then (0 : Int) else 1) + o = _; rw [if_pos (by omega)]; omega] at e; exact e)
theorem t_l_countEntries {g : xG} {K : hp} {ad : cA} {S : gS} {QX : qKE} {l : Int} (hI : Inv S) (hly : S 56 l = 1) (hf : S 57 l = 1) : cM g y_l_countEntries k_l_countEntries M_l_countEntries K [.ref (ad 6 l)] ad S (rd ad S (.int (iI (enC S l 32 + enO S l 8)))) QX := by
  refine cM.of rfl (by decide) rfl rfl rfl (by simp [Value.category]) (Nat.le_of_ble_eq_true rfl) rfl ?_
  have h2 := hI.2.2.2.2.2.2.1.2.1 l
  refine c_aload_n d_l_countEntries_0 rfl ?_
  refine cg_l_32_5 hly d_l_countEntries_1 rfl ?_
  refine c_callS d_l_countEntries_4 q_l_countEntries_35 s_in_bitCount (t_in_bitCount_c (by omega) (by omega)) rfl rfl (Nat.le_of_ble_eq_true rfl) rfl rfl rfl (fun _ _ _ z => z) ?_
  rintro _ _ _ ⟨rfl, rfl, rfl⟩
  refine c_istore_n d_l_countEntries_7 (by decide) ?_
  refine c_iconst d_l_countEntries_8 ?_
  refine c_istore_n d_l_countEntries_9 (by decide) ?_
  have e := L_l_countEntries (g := g) (K := K) (ad := ad) (QX := QX) (rc := M_l_countEntries.2.2.2.2.2.2.cells) (rs := M_l_countEntries.2.2.2.2.2.2.slots) (o := enO S l 8) hI.1 hly hf 33 0 (by omega) (by omega)
  rw [show enC S l 0 + enO S l 8 = bsN (S 2 l) 16 from by rw [enO_bs, bsN_8 h2.1 (by omega)]; show (0 : Int) + _ = _; omega] at e
  exact e
/-- the layer at height w of the row with top l -/
def atI (S : gS) (l w : Int) : Int := if l < 10 then ancN S (lay S l - w).toNat l else if w = lay S (S 12 (l - 10)) + 1 then l else ancN S (lay S (S 12 (l - 10)) - w).toNat (S 12 (l - 10))
theorem atI_ly (S : gS) {c h : Int} (hc : 0 ≤ c) : atI S (10 + c) (h + 1) = lyA S c h := by
  unfold atI lyA
  rw [if_neg (by omega), show 10 + c - 10 = c by omega]
  by_cases q : h = lay S (S 12 c)
  · rw [if_pos (by omega), if_pos q]
  · rw [if_neg (by omega), if_neg q, show lay S (S 12 c) - (h + 1) = lay S (S 12 c) - 1 - h by omega]
theorem L_l_atHeight {g : xG} {K : hp} {ad : cA} {S : gS} {QX : qKE} {rc rs : Nat} {w : Int} {x : Nat} (hI : Inv S) (hE : Ext S) (hw : 1 ≤ w) : ∀ (n : Nat) (p : Int), 0 ≤ p → p < S 3 0 → lay S p = w + n → cW g M_l_atHeight K (rd ad S (.ref (ad 6 (ancN S n p)))) QX rc rs ad S 2 [some (.ref x), some (.int (iI w)), some (rfo ad 6 p)] [] := by
  intro n
  induction n with
  | zero =>
    intro p q0 q1 q2
    have h36 := hE.2.2.2.1.1 p q0 q1
    have hlb := lay_le hI.2.2.1 (k := p) (by omega) q1
    have hi1 := hI.2.1
    unfold Inv1 at hi1
    rw [rfo_ref (by omega)]
    refine c_aload_n d_l_atHeight_2 rfl ?_
    refine c_ifnull d_l_atHeight_3 ?_
    refine c_aload_n d_l_atHeight_6 rfl ?_
    refine cg_l_19_5 (hE.y (lvl.i q0 q1)) d_l_atHeight_7 rfl ?_
    refine c_iload_n d_l_atHeight_10 rfl ?_
    refine c_icmp_eq (tgt := 22) d_l_atHeight_11 (by decide) (by first | assumption | exact hI.1 _ _ (by decide) | (unfold R32; omega)) (by first | assumption | exact hI.1 _ _ (by decide) | (unfold R32; omega)) (fun z11 => ?_) (fun z11 => ?_)
    · refine c_aload_n d_l_atHeight_22 rfl ?_
      exact c_aret rfl (Or.inl ⟨_, rfl⟩) (Or.inr ⟨_, rfl⟩) d_l_atHeight_23 (⟨rfl, rfl, rfl⟩)
    · exfalso; omega
  | succ n ih =>
    intro p q0 q1 q2
    have h36 := hE.2.2.2.1.1 p q0 q1
    have hlb := lay_le hI.2.2.1 (k := p) (by omega) q1
    have hi1 := hI.2.1
    unfold Inv1 at hi1
    have hls := lay_s hI.2.2.1 q0 q1
    have h4 := hI.2.2.1.1 p q0 q1
    have hb : blw S p = S 4 p := if_pos (by omega)
    have h4n : S 4 p ≠ -1 := fun e => by
      rw [e, lay_m1] at hls
      omega
    rw [rfo_ref (by omega)]
    refine c_aload_n d_l_atHeight_2 rfl ?_
    refine c_ifnull d_l_atHeight_3 ?_
    refine c_aload_n d_l_atHeight_6 rfl ?_
    refine cg_l_19_5 (hE.y (lvl.i q0 q1)) d_l_atHeight_7 rfl ?_
    refine c_iload_n d_l_atHeight_10 rfl ?_
    refine c_icmp_eq (tgt := 22) d_l_atHeight_11 (by decide) (by first | assumption | exact hI.1 _ _ (by decide) | (unfold R32; omega)) (by first | assumption | exact hI.1 _ _ (by decide) | (unfold R32; omega)) (fun z11 => ?_) (fun z11 => ?_)
    · exfalso; omega
    · refine c_aload_n d_l_atHeight_14 rfl ?_
      refine cg_l_15_5 (hE.y (lvl.i q0 q1)) d_l_atHeight_15 rfl ?_
      refine c_astore_nR d_l_atHeight_18 (by decide) ?_
      refine c_goto (tgt := 2) d_l_atHeight_19 (by decide) ?_
      rw [hb]
      exact ih (S 4 p) (by omega) (by omega) (by omega)
theorem t_l_atHeight {g : xG} {K : hp} {ad : cA} {S : gS} {QX : qKE} {l w : Int} (hI : Inv S) (hE : Ext S) (hv : lvl S l) (hw : 1 ≤ w) (hw1 : w ≤ S 36 l) : cM g y_l_atHeight k_l_atHeight M_l_atHeight K [.ref (ad 6 l), .int (iI w)] ad S (rd ad S (.ref (ad 6 (atI S l w)))) QX := by
  refine cM.of rfl (by decide) rfl rfl rfl (by simp [Value.category]) (Nat.le_of_ble_eq_true rfl) rfl ?_
  obtain ⟨hR, hI1, hI2, hI3, hI4, hI5, hI6, hI7⟩ := id hI
  unfold Inv1 at hI1
  have h0 := hE.h
  have hL1 := hE.l (n := 1) (by decide) (by decide)
  have hL2 := hE.l (n := 2) (by decide) (by decide)
  have hL3 := hE.l (n := 3) (by decide) (by decide)
  have hL4 := hE.l (n := 4) (by decide) (by decide)
  have hL5 := hE.l (n := 5) (by decide) (by decide)
  have hO := hE.o
  have hRm := hE.r
  refine c_aload_n d_l_atHeight_0 rfl ?_
  refine c_astore_n d_l_atHeight_1 (by decide) ?_
  by_cases hl : l < 10
  · have hv' : 0 ≤ l ∧ l < S 3 0 := hv.elim id (fun z => by omega)
    have h36 := hE.2.2.2.1.1 l hv'.1 hv'.2
    have e := L_l_atHeight (QX := QX) (g := g) (K := K) (ad := ad) (rc := M_l_atHeight.2.2.2.2.2.2.cells) (rs := M_l_atHeight.2.2.2.2.2.2.slots) (x := ad 6 l) hI hE hw (lay S l - w).toNat l hv'.1 hv'.2 (by omega)
    rw [show rfo ad 6 l = .ref (ad 6 l) from rfo_ref (by omega)] at e
    unfold atI
    rw [if_pos hl]
    exact e
  · have hv' := hv.resolve_left (fun z => by omega)
    have h36 := hE.2.2.2.1.2 (l - 10) hv'.2
    rw [show 10 + (l - 10) = l by omega] at h36
    have hk := (hI3 _ hv'.2).1
    have hlk := lay_le hI2 (k := S 12 (l - 10)) (by omega) hk.2
    have hb : blw S l = S 12 (l - 10) := if_neg hl
    refine c_aload_n d_l_atHeight_2 rfl ?_
    refine c_ifnull d_l_atHeight_3 ?_
    refine c_aload_n d_l_atHeight_6 rfl ?_
    refine cg_l_19_5 (hE.y hv) d_l_atHeight_7 rfl ?_
    refine c_iload_n d_l_atHeight_10 rfl ?_
    refine c_icmp_eq (tgt := 22) d_l_atHeight_11 (by decide) (by first | assumption | exact hR _ _ (by decide) | (unfold R32; omega)) (by first | assumption | exact hR _ _ (by decide) | (unfold R32; omega)) (fun z11 => ?_) (fun z11 => ?_)
    · refine c_aload_n d_l_atHeight_22 rfl ?_
      exact c_aret rfl (Or.inl ⟨_, rfl⟩) (Or.inr ⟨_, rfl⟩) d_l_atHeight_23 (⟨by unfold atI; rw [if_neg hl, if_pos (by omega)], rfl, rfl⟩)
    · refine c_aload_n d_l_atHeight_14 rfl ?_
      refine cg_l_15_5 (hE.y hv) d_l_atHeight_15 rfl ?_
      refine c_astore_nR d_l_atHeight_18 (by decide) ?_
      refine c_goto (tgt := 2) d_l_atHeight_19 (by decide) ?_
      rw [hb]
      have e := L_l_atHeight (QX := QX) (g := g) (K := K) (ad := ad) (rc := M_l_atHeight.2.2.2.2.2.2.cells) (rs := M_l_atHeight.2.2.2.2.2.2.slots) (x := ad 6 l) hI hE hw (lay S (S 12 (l - 10)) - w).toNat (S 12 (l - 10)) hk.1 hk.2 (by omega)
      unfold atI
      rw [if_neg hl, if_neg (by omega)]
      exact e
theorem L_l_fileBuiltUp {g : xG} {K : hp} {ad : cA} {S : gS} {QX : qKE} {rc rs : Nat} {c f : Int} (hI : Inv S) (hE : Ext S) (hc0 : 0 ≤ c) (hc1 : c < S 11 0) (h0 : 0 ≤ f) (h1 : f < 32) : ∀ (f9 : Nat) (h : Int) (v4 : Option Value), 0 ≤ h → h ≤ lay S (S 12 c) + 1 → lay S (S 12 c) + 1 < h + f9 → cW g M_l_fileBuiltUp K (rd ad S (.int (iI (csee S c f)))) QX rc rs ad S 4 [some (.ref (ad 6 (10 + c))), some (.int (iI f)), some (.int (iI (pln S c f h))), some (.int (iI (h + 1))), v4] [] := by
  intro f9
  induction f9 with
  | zero => intros; omega
  | succ f9 ih =>
    intro h v4 q0 q1 q2
    have hI6 := hI.2.2.2.2.2.2.1
    have hi1 := hI.2.1
    unfold Inv1 at hi1
    have hk := (hI.2.2.2.1 c (Or.inl ⟨hc0, hc1⟩)).1
    have hlk := lay_le hI.2.2.1 (k := S 12 c) (by omega) hk.2
    have hv := lvl.k (S := S) hc0 hc1
    have h36 := hE.2.2.2.1.2 c (Or.inl ⟨hc0, hc1⟩)
    have hps := fun a => pln_s (f := f) hI (h := h) hc0 hk q0 a
    refine c_iload_n d_l_fileBuiltUp_4 rfl ?_
    refine c_aload_n d_l_fileBuiltUp_5 rfl ?_
    refine cg_l_19_5 (hE.y hv) d_l_fileBuiltUp_6 rfl ?_
    refine c_icmp_gt (tgt := 42) d_l_fileBuiltUp_9 (by decide) (by first | assumption | exact hI.1 _ _ (by decide) | (unfold R32; omega)) (by first | assumption | exact hI.1 _ _ (by decide) | (unfold R32; omega)) (fun z9 => ?_) (fun z9 => ?_)
    · refine c_iload_n d_l_fileBuiltUp_42 rfl ?_
      exact c_iret rfl d_l_fileBuiltUp_43 (⟨by rw [show pln S c f h = csee S c f from if_pos (by omega)], rfl, rfl⟩)
    · refine c_aload_n d_l_fileBuiltUp_12 rfl ?_
      refine c_iload_n d_l_fileBuiltUp_13 rfl ?_
      refine c_callV (r := (RX4, TX4, 4)) d_l_fileBuiltUp_14 q_l_fileBuiltUp_52 s_l_atHeight v_l_atHeight (t_l_atHeight hI hE hv (by omega) (by omega)) (fun _ z => ⟨_, z.at 6 (by decide) (hE.y hv)⟩) rfl rfl rfl rfl (Nat.le_of_ble_eq_true rfl) rfl rfl rfl (fun _ _ _ z => z) ?_
      rintro _ _ _ ⟨rfl, rfl, rfl⟩
      rw [atI_ly S hc0]
      have hps1 := hps (by omega)
      have hva : lvl S (lyA S c h) := by
        rcases hps1.2.2 with q | q
        · rw [q]; exact hv
        · exact lvl.i hps1.2.1 q
      refine c_astore d_l_fileBuiltUp_17 (by decide) ?_
      refine c_aload d_l_fileBuiltUp_19 rfl ?_
      refine c_ifnonnull (tgt := 28) d_l_fileBuiltUp_21 (by decide) ?_
      refine c_aload d_l_fileBuiltUp_28 rfl ?_
      refine c_iload_n d_l_fileBuiltUp_30 rfl ?_
      refine c_iload_n d_l_fileBuiltUp_31 rfl ?_
      refine c_callV (r := (RX4, TX4, 4)) d_l_fileBuiltUp_32 q_l_fileBuiltUp_45 s_l_laidOver v_l_laidOver (t_l_laidOver_c (hE.y hva) (hE.f hva) hI6 h0 h1) (fun _ z => ⟨_, z.at 6 (by decide) (hE.y hva)⟩) rfl rfl rfl rfl (Nat.le_of_ble_eq_true rfl) rfl rfl rfl (fun _ _ _ z => z) ?_
      rintro _ _ _ ⟨rfl, rfl, rfl⟩
      refine c_istore_n d_l_fileBuiltUp_35 (by decide) ?_
      refine c_iinc d_l_fileBuiltUp_36 rfl (by decide) ?_
      refine c_goto (tgt := 4) d_l_fileBuiltUp_39 (by decide) ?_
      rw [← hps1.1]
      exact ih (h + 1) _ (by omega) (by omega) (by omega)
theorem t_l_fileBuiltUp {g : xG} {K : hp} {ad : cA} {S : gS} {QX : qKE} {c f : Int} (hI : Inv S) (hE : Ext S) (hc0 : 0 ≤ c) (hc1 : c < S 11 0) (h0 : 0 ≤ f) (h1 : f < 32) : cM g y_l_fileBuiltUp k_l_fileBuiltUp M_l_fileBuiltUp K [.ref (ad 6 (10 + c)), .int (iI f)] ad S (rd ad S (.int (iI (csee S c f)))) QX := by
  refine cM.of rfl (by decide) rfl rfl rfl (by simp [Value.category]) (Nat.le_of_ble_eq_true rfl) rfl ?_
  have hln := lay_nn S (S 12 c)
  have hk := (hI.2.2.2.1 c (Or.inl ⟨hc0, hc1⟩)).1
  have hal := anc_lay hI (lay S (S 12 c)).toNat (S 12 c) hk.1 hk.2 (by omega)
  have hm1 := lay_0 hI hal.1 hal.2.1 (by omega)
  refine c_iconst d_l_fileBuiltUp_0 ?_
  refine c_istore_n d_l_fileBuiltUp_1 (by decide) ?_
  refine c_iconst d_l_fileBuiltUp_2 ?_
  refine c_istore_n d_l_fileBuiltUp_3 (by decide) ?_
  have e := L_l_fileBuiltUp (g := g) (K := K) (ad := ad) (QX := QX) (rc := M_l_fileBuiltUp.2.2.2.2.2.2.cells) (rs := M_l_fileBuiltUp.2.2.2.2.2.2.slots) hI hE hc0 hc1 h0 h1 (lay S (S 12 c) + 2).toNat 0 none (by omega) (by omega) (by omega)
  rw [show pln S c f 0 = 0 from by unfold pln; rw [if_neg (by omega), show lay S (S 12 c) - 0 = lay S (S 12 c) by omega, hm1]; rfl] at e
  exact e
theorem zz_2 (S : gS) (i d v : Int) : zz (sset S 2 i v) i d 4 = sset (zz S i d 4) 2 i v := by
  funext a q
  show (if a = 1 ∧ 32 * i + 4 * d ≤ q ∧ q < 32 * i + 4 * d + 4 then 0 else (if a = 2 ∧ q = i then v else S a q)) = (if a = 2 ∧ q = i then v else (if a = 1 ∧ 32 * i + 4 * d ≤ q ∧ q < 32 * i + 4 * d + 4 then 0 else S a q))
  (repeat' split) <;> first | rfl | omega
theorem zz_r (S : gS) (i d : Int) {k : Nat} (hk : k ≠ 1) : zz S i d 4 k = S k := by
  funext j
  exact if_neg (fun z => hk z.1)
theorem t_h_clear {g : xG} {K : hp} {ad : cA} {S : gS} {i d : Int} (hI : Inv S) (hE : Ext S) (hi : R32 i) (hd : R32 d) : cM g y_h_clear k_h_clear M_h_clear K [.ref (ad 0 0), .int (iI i), .int (iI d)] ad S (opC (cd_clear S i d) (vl_clear S i d) (st_clear S i d)) (opX [eIO, eIS] ad S (cd_clear S i d)) := by
  refine cM.of rfl (by decide) rfl rfl rfl (by simp [Value.category]) (Nat.le_of_ble_eq_true rfl) rfl ?_
  obtain ⟨hR, hI1, hI2, hI3, hI4, hI5, hI6, hI7⟩ := id hI
  unfold Inv1 at hI1
  have h0 := hE.h
  have hL1 := hE.l (n := 1) (by decide) (by decide)
  have hL2 := hE.l (n := 2) (by decide) (by decide)
  have hL3 := hE.l (n := 3) (by decide) (by decide)
  have hL4 := hE.l (n := 4) (by decide) (by decide)
  have hL5 := hE.l (n := 5) (by decide) (by decide)
  have hO := hE.o
  have hRm := hE.r
  refine c_aload_n d_h_clear_0 rfl ?_
  refine c_iload_n d_h_clear_1 rfl ?_
  refine c_callV (r := (RX6, TX6, 7)) d_h_clear_2 q_h_clear_47 s_h_imageAt v_h_imageAt (t_h_imageAt hI hE hi (fun q => ⟨rfl, rfl, 0, rfl, (by unfold cd_clear; (repeat' split) <;> omega)⟩)) (fun _ z => ⟨_, z.at 0 (by decide) h0⟩) rfl rfl rfl rfl (Nat.le_of_ble_eq_true rfl) rfl rfl rfl (fun _ _ _ z => z) ?_
  rintro _ _ _ ⟨rfl, rfl, rfl, hi0, hi1⟩
  refine c_astore_n d_h_clear_5 (by decide) ?_
  refine c_iload_n d_h_clear_6 rfl ?_
  refine c_if_lt (tgt := 16) d_h_clear_7 (by decide) (by first | assumption | exact hR _ _ (by decide) | (unfold R32; omega)) (fun z7 => ?_) (fun z7 => ?_)
  · exact fun h hc => tht_1 rfl sr_98 d_h_clear_16 d_h_clear_19 d_h_clear_20 d_h_clear_22 d_h_clear_25 rfl (by decide) (by decide) (by decide) (by decide) ⟨ad, S, ⟨rfl, rfl, 0, rfl, (by unfold cd_clear; (repeat' split) <;> omega)⟩, hc⟩
  · refine c_iload_n d_h_clear_10 rfl ?_
    refine c_bipush d_h_clear_11 (by decide) ?_
    refine c_icmp_lt (tgt := 26) d_h_clear_13 (by decide) (by first | assumption | exact hR _ _ (by decide) | (unfold R32; omega)) (by first | assumption | exact hR _ _ (by decide) | (unfold R32; omega)) (fun z13 => ?_) (fun z13 => ?_)
    · refine c_aload_n d_h_clear_26 rfl ?_
      refine c_callS d_h_clear_27 q_h_clear_75 s_h_requireOpen (t_h_requireOpen_c (hE.i hi0 hi1) (hI6.2.2.1 i) (fun q => ⟨rfl, rfl, 1, rfl, (by unfold cd_clear; (repeat' split) <;> omega)⟩)) rfl rfl (Nat.le_of_ble_eq_true rfl) rfl rfl rfl (fun _ _ _ z => z) ?_
      rintro _ _ _ ⟨rfl, rfl, rfl, ho⟩
      refine c_aload_n d_h_clear_30 rfl ?_
      refine cg_h_79_4 (hE.i hi0 hi1) d_h_clear_31 rfl ?_
      refine c_iload_n d_h_clear_34 rfl ?_
      refine c_callV (r := (RX4, TX4, 4)) d_h_clear_35 q_h_clear_103 s_l_filesSeenIn v_l_filesSeenIn (t_l_filesSeenIn hI hE (lvl.i hi0 hi1) (by omega) (by omega) (by omega)) (fun _ z => ⟨_, z.at 6 (by decide) (hE.y (lvl.i hi0 hi1))⟩) rfl rfl rfl rfl (Nat.le_of_ble_eq_true rfl) rfl rfl rfl (fun _ _ _ z => z) ?_
      rintro _ _ _ ⟨rfl, rfl, rfl⟩
      refine c_istore d_h_clear_38 (by decide) ?_
      refine c_aload_n d_h_clear_40 rfl ?_
      refine cg_h_79_4 (hE.i hi0 hi1) d_h_clear_41 rfl ?_
      refine c_iload_n d_h_clear_44 rfl ?_
      refine c_callV (r := (RX4, TX4, 4)) d_h_clear_45 q_h_clear_106 s_l_makeOpaque v_l_makeOpaque (t_l_makeOpaque (hE.y (lvl.i hi0 hi1)) (hE.f (lvl.i hi0 hi1)) (by omega) (by omega) (hI6.2.1 i).1) (fun _ z => ⟨_, z.at 6 (by decide) (hE.y (lvl.i hi0 hi1))⟩) rfl rfl rfl rfl (Nat.le_of_ble_eq_true rfl) rfl rfl rfl (fun _ _ _ z => z) ?_
      rintro _ _ _ ⟨rfl, rfl, rfl⟩
      refine c_iload d_h_clear_48 rfl ?_
      exact c_iret rfl d_h_clear_50 (opC.good (by unfold cd_clear; (repeat' split) <;> omega) rfl (zz_2 S i d _) ((Ext.set (r := 2) hE rfl (fun z => absurd z (by decide))).c (fun k hk => zz_r _ i d (fun e => by subst e; revert hk; decide)) (fun k j hk => by rw [zz_r _ i d (by omega)]; exact (hE.2.2.2.2.2.set (fun z => absurd z (by decide))) k j hk)))
    · exact fun h hc => tht_1 rfl sr_98 d_h_clear_16 d_h_clear_19 d_h_clear_20 d_h_clear_22 d_h_clear_25 rfl (by decide) (by decide) (by decide) (by decide) ⟨ad, S, ⟨rfl, rfl, 0, rfl, (by unfold cd_clear; (repeat' split) <;> omega)⟩, hc⟩
theorem t_h_entries {g : xG} {K : hp} {ad : cA} {S : gS} {i l : Int} (hI : Inv S) (hE : Ext S) (hi : R32 i) (hl : R32 l) : cM g y_h_entries k_h_entries M_h_entries K [.ref (ad 0 0), .int (iI i), .int (iI l)] ad S (opR ad S (cd_entries S i l) (vl_entries S i l)) (opX [eIO] ad S (cd_entries S i l)) := by
  refine cM.of rfl (by decide) rfl rfl rfl (by simp [Value.category]) (Nat.le_of_ble_eq_true rfl) rfl ?_
  obtain ⟨hR, hI1, hI2, hI3, hI4, hI5, hI6, hI7⟩ := id hI
  unfold Inv1 at hI1
  have h0 := hE.h
  have hL1 := hE.l (n := 1) (by decide) (by decide)
  have hL2 := hE.l (n := 2) (by decide) (by decide)
  have hL3 := hE.l (n := 3) (by decide) (by decide)
  have hL4 := hE.l (n := 4) (by decide) (by decide)
  have hL5 := hE.l (n := 5) (by decide) (by decide)
  have hO := hE.o
  have hRm := hE.r
  refine c_aload_n d_h_entries_0 rfl ?_
  refine c_iload_n d_h_entries_1 rfl ?_
  refine c_callV (r := (RX6, TX6, 7)) d_h_entries_2 q_h_entries_47 s_h_imageAt v_h_imageAt (t_h_imageAt hI hE hi (fun q => ⟨rfl, rfl, 0, rfl, (by unfold cd_entries; (repeat' split) <;> omega)⟩)) (fun _ z => ⟨_, z.at 0 (by decide) h0⟩) rfl rfl rfl rfl (Nat.le_of_ble_eq_true rfl) rfl rfl rfl (fun _ _ _ z => z) ?_
  rintro _ _ _ ⟨rfl, rfl, rfl, hi0, hi1⟩
  have h36 := hE.2.2.2.1.1 i hi0 hi1
  refine cg_h_79_4 (hE.i hi0 hi1) d_h_entries_5 rfl ?_
  refine c_astore_n d_h_entries_8 (by decide) ?_
  refine c_iload_n d_h_entries_9 rfl ?_
  refine c_if_lt (tgt := 21) d_h_entries_10 (by decide) (by first | assumption | exact hR _ _ (by decide) | (unfold R32; omega)) (fun z10 => ?_) (fun z10 => ?_)
  · exact fun h hc => tht_1 rfl sr_117 d_h_entries_21 d_h_entries_24 d_h_entries_25 d_h_entries_27 d_h_entries_30 rfl (by decide) (by decide) (by decide) (by decide) ⟨ad, S, ⟨rfl, rfl, 0, rfl, (by have h36 := hE.2.2.2.1.1 i hi0 hi1; unfold cd_entries; (repeat' split) <;> omega)⟩, hc⟩
  · refine c_iload_n d_h_entries_13 rfl ?_
    refine c_aload_n d_h_entries_14 rfl ?_
    refine cg_h_113_5 (hE.y (lvl.i hi0 hi1)) d_h_entries_15 rfl ?_
    refine c_icmp_lt (tgt := 31) d_h_entries_18 (by decide) (by first | assumption | exact hR _ _ (by decide) | (unfold R32; omega)) (by first | assumption | exact hR _ _ (by decide) | (unfold R32; omega)) (fun z18 => ?_) (fun z18 => ?_)
    · refine c_aload_n d_h_entries_31 rfl ?_
      refine c_iload_n d_h_entries_32 rfl ?_
      refine c_iconst d_h_entries_33 ?_
      refine c_iadd d_h_entries_34 ?_
      refine c_callV (r := (RX4, TX4, 4)) d_h_entries_35 q_h_entries_119 s_l_atHeight v_l_atHeight (t_l_atHeight hI hE (lvl.i hi0 hi1) (by omega) (by omega)) (fun _ z => ⟨_, z.at 6 (by decide) (hE.y (lvl.i hi0 hi1))⟩) rfl rfl rfl rfl (Nat.le_of_ble_eq_true rfl) rfl rfl rfl (fun _ _ _ z => z) ?_
      rintro _ _ _ ⟨rfl, rfl, rfl⟩
      rw [show atI S i (l + 1) = enA S i l from by unfold atI enA; rw [if_pos (by omega), show lay S i - (l + 1) = lay S i - 1 - l by omega]]
      have hal := anc_lay hI (lay S i - 1 - l).toNat i hi0 hi1 (by omega)
      have hva : lvl S (enA S i l) := lvl.i (by
        by_cases z : enA S i l = -1
        · unfold enA at z; rw [z, lay_m1] at hal; omega
        · unfold enA at z ⊢; omega) hal.2.1
      refine c_astore d_h_entries_38 (by decide) ?_
      refine c_aload d_h_entries_40 rfl ?_
      refine c_ifnonnull (tgt := 49) d_h_entries_42 (by decide) ?_
      refine c_aload d_h_entries_49 rfl ?_
      refine c_callV (r := (RX4, TX4, 4)) d_h_entries_51 q_h_entries_123 s_l_countEntries v_l_countEntries (t_l_countEntries hI (hE.y hva) (hE.f hva)) (fun _ z => ⟨_, z.at 6 (by decide) (hE.y hva)⟩) rfl rfl rfl rfl (Nat.le_of_ble_eq_true rfl) rfl rfl rfl (fun _ _ _ z => z) ?_
      rintro _ _ _ ⟨rfl, rfl, rfl⟩
      exact c_iret rfl d_h_entries_54 (opR.good (by have h36 := hE.2.2.2.1.1 i hi0 hi1; unfold cd_entries; (repeat' split) <;> omega) rfl rfl hE)
    · exact fun h hc => tht_1 rfl sr_117 d_h_entries_21 d_h_entries_24 d_h_entries_25 d_h_entries_27 d_h_entries_30 rfl (by decide) (by decide) (by decide) (by decide) ⟨ad, S, ⟨rfl, rfl, 0, rfl, (by have h36 := hE.2.2.2.1.1 i hi0 hi1; unfold cd_entries; (repeat' split) <;> omega)⟩, hc⟩
theorem t_h_plainFileOf {g : xG} {K : hp} {ad : cA} {S : gS} {c f : Int} (hI : Inv S) (hE : Ext S) (hc : R32 c) (hf : R32 f) : cM g y_h_plainFileOf k_h_plainFileOf M_h_plainFileOf K [.ref (ad 0 0), .int (iI c), .int (iI f)] ad S (opR ad S (cd_plainFileOf S c f) (vl_plainFileOf S c f)) (opX [eIO] ad S (cd_plainFileOf S c f)) := by
  refine cM.of rfl (by decide) rfl rfl rfl (by simp [Value.category]) (Nat.le_of_ble_eq_true rfl) rfl ?_
  obtain ⟨hR, hI1, hI2, hI3, hI4, hI5, hI6, hI7⟩ := id hI
  unfold Inv1 at hI1
  have h0 := hE.h
  have hL1 := hE.l (n := 1) (by decide) (by decide)
  have hL2 := hE.l (n := 2) (by decide) (by decide)
  have hL3 := hE.l (n := 3) (by decide) (by decide)
  have hL4 := hE.l (n := 4) (by decide) (by decide)
  have hL5 := hE.l (n := 5) (by decide) (by decide)
  have hO := hE.o
  have hRm := hE.r
  refine c_aload_n d_h_plainFileOf_0 rfl ?_
  refine c_iload_n d_h_plainFileOf_1 rfl ?_
  refine c_callV (r := (RX6, TX6, 7)) d_h_plainFileOf_2 q_h_plainFileOf_127 s_h_containerAt v_h_containerAt (t_h_containerAt hI hE hc (fun q => ⟨rfl, rfl, 0, rfl, (by unfold cd_plainFileOf; (repeat' split) <;> omega)⟩)) (fun _ z => ⟨_, z.at 0 (by decide) h0⟩) rfl rfl rfl rfl (Nat.le_of_ble_eq_true rfl) rfl rfl rfl (fun _ _ _ z => z) ?_
  rintro _ _ _ ⟨rfl, rfl, rfl, hc0, hc1⟩
  refine c_astore_n d_h_plainFileOf_5 (by decide) ?_
  refine c_iload_n d_h_plainFileOf_6 rfl ?_
  refine c_callS d_h_plainFileOf_7 q_h_plainFileOf_67 s_h_requireFile (t_h_requireFile_c hf (fun q => ⟨rfl, rfl, 0, rfl, (by unfold cd_plainFileOf; (repeat' split) <;> omega)⟩)) rfl rfl (Nat.le_of_ble_eq_true rfl) rfl rfl rfl (fun _ _ _ z => z) ?_
  rintro _ _ _ ⟨rfl, rfl, rfl, hf0, hf1⟩
  refine c_aload_n d_h_plainFileOf_10 rfl ?_
  refine cg_h_131_2 (hE.k hc0 hc1) d_h_plainFileOf_11 rfl ?_
  refine c_iload_n d_h_plainFileOf_14 rfl ?_
  refine c_callV (r := (RX4, TX4, 4)) d_h_plainFileOf_15 q_h_plainFileOf_237 s_l_fileBuiltUp v_l_fileBuiltUp (t_l_fileBuiltUp hI hE hc0 hc1 hf0 hf1) (fun _ z => ⟨_, z.at 6 (by decide) (hE.y (lvl.k hc0 hc1))⟩) rfl rfl rfl rfl (Nat.le_of_ble_eq_true rfl) rfl rfl rfl (fun _ _ _ z => z) ?_
  rintro _ _ _ ⟨rfl, rfl, rfl⟩
  exact c_iret rfl d_h_plainFileOf_18 (opR.good (by unfold cd_plainFileOf; (repeat' split) <;> omega) (rfl) rfl (hE))
theorem t_h_listen {g : xG} {K : hp} {ad : cA} {S : gS} {c p : Int} (hI : Inv S) (hE : Ext S) (hc : R32 c) (hp : R32 p) : cM g y_h_listen k_h_listen M_h_listen K [.ref (ad 0 0), .int (iI c), .int (iI p)] ad S (opC (cd_listen S c p) (vl_listen S c p) (st_listen S c p)) (opX [eIO, eIS] ad S (cd_listen S c p)) := by
  refine cM.of rfl (by decide) rfl rfl rfl (by simp [Value.category]) (Nat.le_of_ble_eq_true rfl) rfl ?_
  obtain ⟨hR, hI1, hI2, hI3, hI4, hI5, hI6, hI7⟩ := id hI
  unfold Inv1 at hI1
  have h0 := hE.h
  have hL1 := hE.l (n := 1) (by decide) (by decide)
  have hL2 := hE.l (n := 2) (by decide) (by decide)
  have hL3 := hE.l (n := 3) (by decide) (by decide)
  have hL4 := hE.l (n := 4) (by decide) (by decide)
  have hL5 := hE.l (n := 5) (by decide) (by decide)
  have hO := hE.o
  have hRm := hE.r
  refine c_aload_n d_h_listen_0 rfl ?_
  refine c_iload_n d_h_listen_1 rfl ?_
  refine c_callV (r := (RX6, TX6, 7)) d_h_listen_2 q_h_listen_127 s_h_containerAt v_h_containerAt (t_h_containerAt hI hE hc (fun q => ⟨rfl, rfl, 0, rfl, (by unfold cd_listen; have hb01 := bit_01 (S 17 c) 0; have hb02 := bit_01 (S 18 c) p; (repeat' split) <;> omega)⟩)) (fun _ z => ⟨_, z.at 0 (by decide) h0⟩) rfl rfl rfl rfl (Nat.le_of_ble_eq_true rfl) rfl rfl rfl (fun _ _ _ z => z) ?_
  rintro _ _ _ ⟨rfl, rfl, rfl, hc0, hc1⟩
  have h18 := (hI3 c (Or.inl ⟨hc0, hc1⟩)).2.2.2.2.2
  have hb02 := bit_01 (S 18 c) p
  refine c_astore_n d_h_listen_5 (by decide) ?_
  refine c_iload_n d_h_listen_6 rfl ?_
  refine c_callS d_h_listen_7 q_h_listen_274 s_h_requirePort (t_h_requirePort_c hp (fun q => ⟨rfl, rfl, 0, rfl, (by unfold cd_listen; have hb01 := bit_01 (S 17 c) 0; have hb02 := bit_01 (S 18 c) p; (repeat' split) <;> omega)⟩)) rfl rfl (Nat.le_of_ble_eq_true rfl) rfl rfl rfl (fun _ _ _ z => z) ?_
  rintro _ _ _ ⟨rfl, rfl, rfl, hp0, hp1⟩
  have hbs := bset_b16 (a := S 18 c) (k := p) h18.2.1 h18.2.2 hp0 hp1
  refine c_aload_n d_h_listen_10 rfl ?_
  refine c_callS d_h_listen_11 q_h_listen_203 s_h_requireRunning (t_h_requireRunning_c (hE.k hc0 hc1) (hR 19 c (by decide)) (fun q => ⟨rfl, rfl, 1, rfl, (by unfold cd_listen; have hb01 := bit_01 (S 17 c) 0; have hb02 := bit_01 (S 18 c) p; (repeat' split) <;> omega)⟩)) rfl rfl (Nat.le_of_ble_eq_true rfl) rfl rfl rfl (fun _ _ _ z => z) ?_
  rintro _ _ _ ⟨rfl, rfl, rfl, hs0⟩
  refine c_aload_n d_h_listen_14 rfl ?_
  refine c_iload_n d_h_listen_15 rfl ?_
  refine c_callV (r := (RX1, TX1, 13)) d_h_listen_16 q_h_listen_277 s_c_listensOn v_c_listensOn (t_c_listensOn_c (hE.k hc0 hc1) h18.2.1 hp0 (by omega)) (fun _ z => ⟨_, z.at 4 (by decide) (hE.k hc0 hc1)⟩) rfl rfl rfl rfl (Nat.le_of_ble_eq_true rfl) rfl rfl rfl (fun _ _ _ z => z) ?_
  rintro _ _ _ ⟨rfl, rfl, rfl⟩
  refine c_if_eq (tgt := 33) d_h_listen_19 (by decide) (by first | assumption | exact hR _ _ (by decide) | (unfold R32; omega)) (fun z19 => ?_) (fun z19 => ?_)
  · refine c_iload_n d_h_listen_33 rfl ?_
    refine c_iconst d_h_listen_34 ?_
    refine c_icmp_ge (tgt := 43) d_h_listen_35 (by decide) (by first | assumption | exact hR _ _ (by decide) | (unfold R32; omega)) (by first | assumption | exact hR _ _ (by decide) | (unfold R32; omega)) (fun z35 => ?_) (fun z35 => ?_)
    · refine c_aload_n d_h_listen_43 rfl ?_
      refine c_dup d_h_listen_44 rfl ?_
      refine cg_h_283_2 (hE.k hc0 hc1) d_h_listen_45 rfl ?_
      refine c_iconst d_h_listen_48 ?_
      refine c_iload_n d_h_listen_49 rfl ?_
      refine c_ishl1 d_h_listen_50 (by omega) (by omega) ?_
      refine c_iork d_h_listen_51 (by omega) ?_
      refine cp_h_283_2 (hE.k hc0 hc1) d_h_listen_52 rfl ?_
      refine c_aload_n d_h_listen_55 rfl ?_
      refine cg_h_283_2 (hE.k hc0 hc1) d_h_listen_56 rfl ?_
      refine c_callS d_h_listen_59 q_h_listen_286 s_in_bitCount (t_in_bitCount_c (x := sset S 18 c (bset (S 18 c) p) 18 c) (by rw [sset_e]; exact hbs.1) (by rw [sset_e]; omega)) rfl rfl (Nat.le_of_ble_eq_true rfl) rfl rfl rfl (fun _ _ _ z => z) ?_
      rintro _ _ _ ⟨rfl, rfl, rfl⟩
      exact c_iret rfl d_h_listen_62 (opC.good (by unfold cd_listen; have hb01 := bit_01 (S 17 c) 0; have hb02 := bit_01 (S 18 c) p; (repeat' split) <;> omega) (by rw [sset_e]; rfl) rfl (hE.set rfl (fun z => absurd z (by decide))))
    · refine c_aload_n d_h_listen_38 rfl ?_
      refine c_iconst d_h_listen_39 ?_
      refine c_callS d_h_listen_40 q_h_listen_245 s_h_requireEffective (t_h_requireEffective_c (hE.k hc0 hc1) h18.1.1 (by omega) (by omega) (fun q => ⟨rfl, rfl, 1, rfl, (by unfold cd_listen; have hb01 := bit_01 (S 17 c) 0; have hb02 := bit_01 (S 18 c) p; (repeat' split) <;> omega)⟩)) rfl rfl (Nat.le_of_ble_eq_true rfl) rfl rfl rfl (fun _ _ _ z => z) ?_
      rintro _ _ _ ⟨rfl, rfl, rfl, he0⟩
      refine c_aload_n d_h_listen_43 rfl ?_
      refine c_dup d_h_listen_44 rfl ?_
      refine cg_h_283_2 (hE.k hc0 hc1) d_h_listen_45 rfl ?_
      refine c_iconst d_h_listen_48 ?_
      refine c_iload_n d_h_listen_49 rfl ?_
      refine c_ishl1 d_h_listen_50 (by omega) (by omega) ?_
      refine c_iork d_h_listen_51 (by omega) ?_
      refine cp_h_283_2 (hE.k hc0 hc1) d_h_listen_52 rfl ?_
      refine c_aload_n d_h_listen_55 rfl ?_
      refine cg_h_283_2 (hE.k hc0 hc1) d_h_listen_56 rfl ?_
      refine c_callS d_h_listen_59 q_h_listen_286 s_in_bitCount (t_in_bitCount_c (x := sset S 18 c (bset (S 18 c) p) 18 c) (by rw [sset_e]; exact hbs.1) (by rw [sset_e]; omega)) rfl rfl (Nat.le_of_ble_eq_true rfl) rfl rfl rfl (fun _ _ _ z => z) ?_
      rintro _ _ _ ⟨rfl, rfl, rfl⟩
      exact c_iret rfl d_h_listen_62 (opC.good (by unfold cd_listen; have hb01 := bit_01 (S 17 c) 0; have hb02 := bit_01 (S 18 c) p; (repeat' split) <;> omega) (by rw [sset_e]; rfl) rfl (hE.set rfl (fun z => absurd z (by decide))))
  · exact fun h hc => thw_3 rfl sr_281 d_h_listen_22 d_h_listen_25 d_h_listen_26 d_h_listen_29 d_h_listen_32 rfl (by decide) (by decide) (by decide) (by decide) ⟨ad, S, ⟨rfl, rfl, 1, rfl, (by unfold cd_listen; (repeat' split) <;> omega)⟩, hc⟩
theorem t_h_containers {g : xG} {K : hp} {ad : cA} {S : gS} {QX : qKE} (hE : Ext S) : cM g y_h_containers k_h_containers M_h_containers K [.ref (ad 0 0)] ad S (rd ad S (.int (iI (S 11 0)))) QX := by
  refine cM.of rfl (by decide) rfl rfl rfl (by simp [Value.category]) (Nat.le_of_ble_eq_true rfl) rfl ?_
  have h0 := hE.h
  have hL3 := hE.l (n := 3) (by decide) (by decide)
  refine c_aload_n d_h_containers_0 rfl ?_
  refine cg_h_19_6 h0 d_h_containers_1 rfl ?_
  refine c_lsize3 hL3 d_h_containers_4 q_h_containers_147 (Nat.le_of_ble_eq_true rfl) rfl ?_
  exact c_iret rfl d_h_containers_7 (⟨rfl, rfl, rfl⟩)
