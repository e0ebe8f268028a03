theorem t_h_requireOpen_c {g : xG} {K : hp} {ad : cA} {S : gS} {QX : qKE} {a : Int} (hl : S 52 a = 1) (hb : S 5 a = 0 ∨ S 5 a = 1) (hX : ¬ (S 5 a = 0) → QX eIS ad S) : cM g y_h_requireOpen k_h_requireOpen M_h_requireOpen K [.ref (ad 2 a)] ad S (fun v9 ad9 S9 => v9 = none ∧ ad = ad9 ∧ S = S9 ∧ (S 5 a = 0)) QX := cM.ofr (fun h hc => t_h_requireOpen  hb (hc.at 2 (by decide) hl) (fun q => ⟨ad, S, hX q, hc⟩))
theorem t_h_requireRunning_c {g : xG} {K : hp} {ad : cA} {S : gS} {QX : qKE} {a : Int} (hl : S 54 a = 1) (hs : R32 (S 19 a)) (hX : ¬ (S 19 a = 0) → QX eIS ad S) : cM g y_h_requireRunning k_h_requireRunning M_h_requireRunning K [.ref (ad 4 a)] ad S (fun v9 ad9 S9 => v9 = none ∧ ad = ad9 ∧ S = S9 ∧ (S 19 a = 0)) QX := cM.ofr (fun h hc => t_h_requireRunning (v4 := .null) hs (hc.at 4 (by decide) hl) (fun q => ⟨ad, S, hX q, hc⟩))
theorem t_h_requireAttached_c {g : xG} {K : hp} {ad : cA} {S : gS} {QX : qKE} {a : Int} (hl : S 54 a = 1) (hs : R32 (S 33 a)) (hX : ¬ (S 33 a ≠ -1) → QX eIS ad S) : cM g y_h_requireAttached k_h_requireAttached M_h_requireAttached K [.ref (ad 4 a)] ad S (fun v9 ad9 S9 => v9 = none ∧ ad = ad9 ∧ S = S9 ∧ (S 33 a ≠ -1)) QX := cM.ofr (fun h hc => t_h_requireAttached (v11 := .null) hs (hc.at 4 (by decide) hl) (fun q => ⟨ad, S, hX q, hc⟩))
theorem t_h_requireEffective_c {g : xG} {K : hp} {ad : cA} {S : gS} {QX : qKE} {a p : Int} (hl : S 54 a = 1) (hs : 0 ≤ S 17 a) (h0 : 0 ≤ p) (h1 : p < 31) (hX : ¬ (bit (S 17 a) p = 1) → QX eIS ad S) : cM g y_h_requireEffective k_h_requireEffective M_h_requireEffective K [.ref (ad 4 a), .int (iI p)] ad S (fun v9 ad9 S9 => v9 = none ∧ ad = ad9 ∧ S = S9 ∧ (bit (S 17 a) p = 1)) QX := cM.ofr (fun h hc => t_h_requireEffective (v9 := .null) hs h0 h1 (hc.at 4 (by decide) hl) (fun q => ⟨ad, S, hX q, hc⟩))
theorem t_h_requireMayChange_c {g : xG} {K : hp} {ad : cA} {S : gS} {QX : qKE} {a f : Int} (hl : S 54 a = 1) (hs : R32 (S 19 a)) (he : 0 ≤ S 17 a) (hf : R32 f) (hX : ¬ (S 19 a = 0 ∧ (f < 4 → bit (S 17 a) 1 = 1)) → QX eIS ad S) : cM g y_h_requireMayChange k_h_requireMayChange M_h_requireMayChange K [.ref (ad 4 a), .int (iI f)] ad S (fun v9 ad9 S9 => v9 = none ∧ ad = ad9 ∧ S = S9 ∧ (S 19 a = 0 ∧ (f < 4 → bit (S 17 a) 1 = 1))) QX := cM.ofr (fun h hc => t_h_requireMayChange (v4 := .null) (v9 := .null) hs he hf (hc.at 4 (by decide) hl) (fun q => ⟨ad, S, hX q, hc⟩))
theorem t_h_requireFile_c {g : xG} {K : hp} {ad : cA} {S : gS} {QX : qKE} {a : Int} (ha : R32 a) (hX : ¬ (0 ≤ a ∧ a < 32) → QX eIO ad S) : cM g y_h_requireFile k_h_requireFile M_h_requireFile K [.int (iI a)] ad S (fun v9 ad9 S9 => v9 = none ∧ ad = ad9 ∧ S = S9 ∧ (0 ≤ a ∧ a < 32)) QX := cM.ofr (fun h hc => t_h_requireFile ha (fun q => ⟨ad, S, hX q, hc⟩))
theorem t_h_requireCapability_c {g : xG} {K : hp} {ad : cA} {S : gS} {QX : qKE} {a : Int} (ha : R32 a) (hX : ¬ (0 ≤ a ∧ a < 4) → QX eIO ad S) : cM g y_h_requireCapability k_h_requireCapability M_h_requireCapability K [.int (iI a)] ad S (fun v9 ad9 S9 => v9 = none ∧ ad = ad9 ∧ S = S9 ∧ (0 ≤ a ∧ a < 4)) QX := cM.ofr (fun h hc => t_h_requireCapability ha (fun q => ⟨ad, S, hX q, hc⟩))
theorem t_h_requirePort_c {g : xG} {K : hp} {ad : cA} {S : gS} {QX : qKE} {a : Int} (ha : R32 a) (hX : ¬ (0 ≤ a ∧ a < 16) → QX eIO ad S) : cM g y_h_requirePort k_h_requirePort M_h_requirePort K [.int (iI a)] ad S (fun v9 ad9 S9 => v9 = none ∧ ad = ad9 ∧ S = S9 ∧ (0 ≤ a ∧ a < 16)) QX := cM.ofr (fun h hc => t_h_requirePort ha (fun q => ⟨ad, S, hX q, hc⟩))
theorem t_h_requireHostPort_c {g : xG} {K : hp} {ad : cA} {S : gS} {QX : qKE} {a : Int} (ha : R32 a) (hX : ¬ (0 ≤ a ∧ a < 32) → QX eIO ad S) : cM g y_h_requireHostPort k_h_requireHostPort M_h_requireHostPort K [.int (iI a)] ad S (fun v9 ad9 S9 => v9 = none ∧ ad = ad9 ∧ S = S9 ∧ (0 ≤ a ∧ a < 32)) QX := cM.ofr (fun h hc => t_h_requireHostPort ha (fun q => ⟨ad, S, hX q, hc⟩))
theorem t_h_requireWithin_c {g : xG} {K : hp} {ad : cA} {S : gS} {QX : qKE} {a b : Int} (ha : R32 a) (hb : R32 b) (hX : ¬ (1 ≤ a ∧ a ≤ b) → QX eIA ad S) : cM g y_h_requireWithin k_h_requireWithin M_h_requireWithin K [.int (iI a), .int (iI b)] ad S (fun v9 ad9 S9 => v9 = none ∧ ad = ad9 ∧ S = S9 ∧ (1 ≤ a ∧ a ≤ b)) QX := cM.ofr (fun h hc => t_h_requireWithin ha hb (fun q => ⟨ad, S, hX q, hc⟩))
theorem t_c_listensOn_c {g : xG} {K : hp} {ad : cA} {S : gS} {QX : qKE} {a p : Int} (hl : S 54 a = 1) (hs : 0 ≤ S 18 a) (h0 : 0 ≤ p) (h1 : p < 31) : cM g y_c_listensOn k_c_listensOn M_c_listensOn K [.ref (ad 4 a), .int (iI p)] ad S (rd ad S (.int (iI (bit (S 18 a) p)))) QX := cM.ofx (fun h hc => t_c_listensOn (v10 := .null) (hc.at 4 (by decide) hl) hs h0 h1)
theorem t_l_hidesBelow_c {g : xG} {K : hp} {ad : cA} {S : gS} {QX : qKE} {l f : Int} (hl : S 56 l = 1) (hs : 0 ≤ S 2 l) (h0 : 0 ≤ f) (h1 : f < 32) : cM g y_l_hidesBelow k_l_hidesBelow M_l_hidesBelow K [.ref (ad 6 l), .int (iI f)] ad S (rd ad S (.int (iI (bit (S 2 l) (f / 4))))) QX := cM.ofx (fun h hc => t_l_hidesBelow (hc.at 6 (by decide) hl) hs h0 h1)
theorem t_l_laidOver_c {g : xG} {K : hp} {ad : cA} {S : gS} {QX : qKE} {l f b : Int} (hl : S 56 l = 1) (hf : S 57 l = 1) (hI6 : Inv6 S) (h0 : 0 ≤ f) (h1 : f < 32) : cM g y_l_laidOver k_l_laidOver M_l_laidOver K [.ref (ad 6 l), .int (iI b), .int (iI f)] ad S (rd ad S (.int (iI (lyr S l f b)))) QX := by
  have e : (if flF S l f = 0 then (if bit (S 2 l) (f / 4) = 1 then 0 else b) else if flF S l f = -1 then 0 else flF S l f) = lyr S l f b := by
    have q := hI6.1 (32 * l + f)
    rw [show flF S l f = S 1 (32 * l + f) from if_pos ⟨h0, h1⟩]
    unfold lyr obit
    (repeat' split) <;> omega
  rw [← e]
  exact cM.ofx (fun h hc => t_l_laidOver (hc.at 6 (by decide) hl) (hI6.2.1 l).1 h0 h1 (hc.at 7 (by decide) hf) (fun j => by
    have q := hI6.1 (32 * l + j)
    unfold flF R32
    split <;> omega))
theorem t_h_imageAt {g : xG} {K : hp} {ad : cA} {S : gS} {QX : qKE} {a : Int} (hI : Inv S) (hE : Ext S) (ha : R32 a) (hX : ¬ (0 ≤ a ∧ a < S 3 0) → QX eIO ad S) : cM g y_h_imageAt k_h_imageAt M_h_imageAt K [.ref (ad 0 0), .int (iI a)] ad S (fun v9 ad9 S9 => v9 = some (.ref (ad 2 a)) ∧ ad = ad9 ∧ S = S9 ∧ (0 ≤ a ∧ a < S 3 0)) QX := by
  refine cM.of rfl (by decide) rfl rfl rfl (by simp [Value.category]) (Nat.le_of_ble_eq_true rfl) rfl ?_
  obtain ⟨hR, hI1, hI2, hI3, hI4, hI5, hI6, hI7⟩ := id hI
  unfold Inv1 at hI1
  have h0 := hE.h
  have hL1 := hE.l (n := 1) (by decide) (by decide)
  have hL2 := hE.l (n := 2) (by decide) (by decide)
  have hL3 := hE.l (n := 3) (by decide) (by decide)
  have hL4 := hE.l (n := 4) (by decide) (by decide)
  have hL5 := hE.l (n := 5) (by decide) (by decide)
  have hO := hE.o
  have hRm := hE.r
  refine c_iload_n d_h_imageAt_0 rfl ?_
  refine c_if_lt (tgt := 15) d_h_imageAt_1 (by decide) (by first | assumption | exact hR _ _ (by decide) | (unfold R32; omega)) (fun z1 => ?_) (fun z1 => ?_)
  · exact fun h hc => thw_1 rfl sr_325 d_h_imageAt_15 d_h_imageAt_18 d_h_imageAt_19 d_h_imageAt_22 d_h_imageAt_25 rfl (by decide) (by decide) (by decide) (by decide) ⟨ad, S, hX (by omega), hc⟩
  · refine c_iload_n d_h_imageAt_4 rfl ?_
    refine c_aload_n d_h_imageAt_5 rfl ?_
    refine cg_h_12_6 h0 d_h_imageAt_6 rfl ?_
    refine c_lsize1 hL1 d_h_imageAt_9 q_h_imageAt_147 (Nat.le_of_ble_eq_true rfl) rfl ?_
    refine c_icmp_lt (tgt := 26) d_h_imageAt_12 (by decide) (by first | assumption | exact hR _ _ (by decide) | (unfold R32; omega)) (by first | assumption | exact hR _ _ (by decide) | (unfold R32; omega)) (fun z12 => ?_) (fun z12 => ?_)
    · refine c_aload_n d_h_imageAt_26 rfl ?_
      refine cg_h_12_6 h0 d_h_imageAt_27 rfl ?_
      refine c_iload_n d_h_imageAt_30 rfl ?_
      refine c_lget1 hL1 (hE.i (by omega) (by omega)) (by omega) (by omega) d_h_imageAt_31 d_h_imageAt_34 q_h_imageAt_226 (Nat.le_of_ble_eq_true rfl) rfl rfl ?_
      exact c_aret rfl (Or.inl ⟨_, rfl⟩) (Or.inr ⟨_, rfl⟩) d_h_imageAt_37 (⟨rfl, rfl, rfl, by omega, by omega⟩)
    · exact fun h hc => thw_1 rfl sr_325 d_h_imageAt_15 d_h_imageAt_18 d_h_imageAt_19 d_h_imageAt_22 d_h_imageAt_25 rfl (by decide) (by decide) (by decide) (by decide) ⟨ad, S, hX (by omega), hc⟩
theorem t_h_groupAt {g : xG} {K : hp} {ad : cA} {S : gS} {QX : qKE} {a : Int} (hI : Inv S) (hE : Ext S) (ha : R32 a) (hX : ¬ (0 ≤ a ∧ a < S 6 0) → QX eIO ad S) : cM g y_h_groupAt k_h_groupAt M_h_groupAt K [.ref (ad 0 0), .int (iI a)] ad S (fun v9 ad9 S9 => v9 = some (.ref (ad 3 a)) ∧ ad = ad9 ∧ S = S9 ∧ (0 ≤ a ∧ a < S 6 0)) QX := by
  refine cM.of rfl (by decide) rfl rfl rfl (by simp [Value.category]) (Nat.le_of_ble_eq_true rfl) rfl ?_
  obtain ⟨hR, hI1, hI2, hI3, hI4, hI5, hI6, hI7⟩ := id hI
  unfold Inv1 at hI1
  have h0 := hE.h
  have hL1 := hE.l (n := 1) (by decide) (by decide)
  have hL2 := hE.l (n := 2) (by decide) (by decide)
  have hL3 := hE.l (n := 3) (by decide) (by decide)
  have hL4 := hE.l (n := 4) (by decide) (by decide)
  have hL5 := hE.l (n := 5) (by decide) (by decide)
  have hO := hE.o
  have hRm := hE.r
  refine c_iload_n d_h_groupAt_0 rfl ?_
  refine c_if_lt (tgt := 15) d_h_groupAt_1 (by decide) (by first | assumption | exact hR _ _ (by decide) | (unfold R32; omega)) (fun z1 => ?_) (fun z1 => ?_)
  · exact fun h hc => thw_1 rfl sr_327 d_h_groupAt_15 d_h_groupAt_18 d_h_groupAt_19 d_h_groupAt_22 d_h_groupAt_25 rfl (by decide) (by decide) (by decide) (by decide) ⟨ad, S, hX (by omega), hc⟩
  · refine c_iload_n d_h_groupAt_4 rfl ?_
    refine c_aload_n d_h_groupAt_5 rfl ?_
    refine cg_h_16_6 h0 d_h_groupAt_6 rfl ?_
    refine c_lsize2 hL2 d_h_groupAt_9 q_h_groupAt_147 (Nat.le_of_ble_eq_true rfl) rfl ?_
    refine c_icmp_lt (tgt := 26) d_h_groupAt_12 (by decide) (by first | assumption | exact hR _ _ (by decide) | (unfold R32; omega)) (by first | assumption | exact hR _ _ (by decide) | (unfold R32; omega)) (fun z12 => ?_) (fun z12 => ?_)
    · refine c_aload_n d_h_groupAt_26 rfl ?_
      refine cg_h_16_6 h0 d_h_groupAt_27 rfl ?_
      refine c_iload_n d_h_groupAt_30 rfl ?_
      refine c_lget2 hL2 (hE.p (by omega) (by omega)) (by omega) (by omega) d_h_groupAt_31 d_h_groupAt_34 q_h_groupAt_226 (Nat.le_of_ble_eq_true rfl) rfl rfl ?_
      exact c_aret rfl (Or.inl ⟨_, rfl⟩) (Or.inr ⟨_, rfl⟩) d_h_groupAt_37 (⟨rfl, rfl, rfl, by omega, by omega⟩)
    · exact fun h hc => thw_1 rfl sr_327 d_h_groupAt_15 d_h_groupAt_18 d_h_groupAt_19 d_h_groupAt_22 d_h_groupAt_25 rfl (by decide) (by decide) (by decide) (by decide) ⟨ad, S, hX (by omega), hc⟩
theorem t_h_containerAt {g : xG} {K : hp} {ad : cA} {S : gS} {QX : qKE} {a : Int} (hI : Inv S) (hE : Ext S) (ha : R32 a) (hX : ¬ (0 ≤ a ∧ a < S 11 0) → QX eIO ad S) : cM g y_h_containerAt k_h_containerAt M_h_containerAt K [.ref (ad 0 0), .int (iI a)] ad S (fun v9 ad9 S9 => v9 = some (.ref (ad 4 a)) ∧ ad = ad9 ∧ S = S9 ∧ (0 ≤ a ∧ a < S 11 0)) QX := by
  refine cM.of rfl (by decide) rfl rfl rfl (by simp [Value.category]) (Nat.le_of_ble_eq_true rfl) rfl ?_
  obtain ⟨hR, hI1, hI2, hI3, hI4, hI5, hI6, hI7⟩ := id hI
  unfold Inv1 at hI1
  have h0 := hE.h
  have hL1 := hE.l (n := 1) (by decide) (by decide)
  have hL2 := hE.l (n := 2) (by decide) (by decide)
  have hL3 := hE.l (n := 3) (by decide) (by decide)
  have hL4 := hE.l (n := 4) (by decide) (by decide)
  have hL5 := hE.l (n := 5) (by decide) (by decide)
  have hO := hE.o
  have hRm := hE.r
  refine c_iload_n d_h_containerAt_0 rfl ?_
  refine c_if_lt (tgt := 15) d_h_containerAt_1 (by decide) (by first | assumption | exact hR _ _ (by decide) | (unfold R32; omega)) (fun z1 => ?_) (fun z1 => ?_)
  · exact fun h hc => thw_1 rfl sr_329 d_h_containerAt_15 d_h_containerAt_18 d_h_containerAt_19 d_h_containerAt_22 d_h_containerAt_25 rfl (by decide) (by decide) (by decide) (by decide) ⟨ad, S, hX (by omega), hc⟩
  · refine c_iload_n d_h_containerAt_4 rfl ?_
    refine c_aload_n d_h_containerAt_5 rfl ?_
    refine cg_h_19_6 h0 d_h_containerAt_6 rfl ?_
    refine c_lsize3 hL3 d_h_containerAt_9 q_h_containerAt_147 (Nat.le_of_ble_eq_true rfl) rfl ?_
    refine c_icmp_lt (tgt := 26) d_h_containerAt_12 (by decide) (by first | assumption | exact hR _ _ (by decide) | (unfold R32; omega)) (by first | assumption | exact hR _ _ (by decide) | (unfold R32; omega)) (fun z12 => ?_) (fun z12 => ?_)
    · refine c_aload_n d_h_containerAt_26 rfl ?_
      refine cg_h_19_6 h0 d_h_containerAt_27 rfl ?_
      refine c_iload_n d_h_containerAt_30 rfl ?_
      refine c_lget3 hL3 (hE.k (by omega) (by omega)) (by omega) (by omega) d_h_containerAt_31 d_h_containerAt_34 q_h_containerAt_226 (Nat.le_of_ble_eq_true rfl) rfl rfl ?_
      exact c_aret rfl (Or.inl ⟨_, rfl⟩) (Or.inr ⟨_, rfl⟩) d_h_containerAt_37 (⟨rfl, rfl, rfl, by omega, by omega⟩)
    · exact fun h hc => thw_1 rfl sr_329 d_h_containerAt_15 d_h_containerAt_18 d_h_containerAt_19 d_h_containerAt_22 d_h_containerAt_25 rfl (by decide) (by decide) (by decide) (by decide) ⟨ad, S, hX (by omega), hc⟩
theorem t_h_runningAt {g : xG} {K : hp} {ad : cA} {S : gS} {QX : qKE} {a : Int} (hI : Inv S) (hE : Ext S) (ha : R32 a) (hX : ¬ (0 ≤ a ∧ a < S 11 0) → QX eIO ad S) (hX2 : 0 ≤ a → a < S 11 0 → S 19 a ≠ 0 → QX eIS ad S) : cM g y_h_runningAt k_h_runningAt M_h_runningAt K [.ref (ad 0 0), .int (iI a)] ad S (fun v9 ad9 S9 => v9 = some (.ref (ad 4 a)) ∧ ad = ad9 ∧ S = S9 ∧ (0 ≤ a ∧ a < S 11 0) ∧ S 19 a = 0) QX := by
  refine cM.of rfl (by decide) rfl rfl rfl (by simp [Value.category]) (Nat.le_of_ble_eq_true rfl) rfl ?_
  obtain ⟨hR, hI1, hI2, hI3, hI4, hI5, hI6, hI7⟩ := id hI
  unfold Inv1 at hI1
  have h0 := hE.h
  have hL1 := hE.l (n := 1) (by decide) (by decide)
  have hL2 := hE.l (n := 2) (by decide) (by decide)
  have hL3 := hE.l (n := 3) (by decide) (by decide)
  have hL4 := hE.l (n := 4) (by decide) (by decide)
  have hL5 := hE.l (n := 5) (by decide) (by decide)
  have hO := hE.o
  have hRm := hE.r
  refine c_aload_n d_h_runningAt_0 rfl ?_
  refine c_iload_n d_h_runningAt_1 rfl ?_
  refine c_callV (r := (RX6, TX6, 7)) d_h_runningAt_2 q_h_runningAt_127 s_h_containerAt v_h_containerAt (t_h_containerAt hI hE ha hX) (fun _ z => ⟨_, z.at 0 (by decide) h0⟩) rfl rfl rfl rfl (Nat.le_of_ble_eq_true rfl) rfl rfl rfl (fun _ _ _ z => z) ?_
  rintro _ _ _ ⟨rfl, rfl, rfl, ha0, ha1⟩
  refine c_astore_n d_h_runningAt_5 (by decide) ?_
  refine c_aload_n d_h_runningAt_6 rfl ?_
  refine c_callS d_h_runningAt_7 q_h_runningAt_203 s_h_requireRunning (t_h_requireRunning_c (hE.k ha0 ha1) (hR 19 a (by decide)) (hX2 ha0 ha1)) rfl rfl (Nat.le_of_ble_eq_true rfl) rfl rfl rfl (fun _ _ _ z => z) ?_
  rintro _ _ _ ⟨rfl, rfl, rfl, hs0⟩
  refine c_aload_n d_h_runningAt_10 rfl ?_
  exact c_aret rfl (Or.inl ⟨_, rfl⟩) (Or.inr ⟨_, rfl⟩) d_h_runningAt_11 (⟨rfl, rfl, rfl, ⟨ha0, ha1⟩, hs0⟩)
theorem t_h_pausedAt {g : xG} {K : hp} {ad : cA} {S : gS} {QX : qKE} {a : Int} (hI : Inv S) (hE : Ext S) (ha : R32 a) (hX : ¬ (0 ≤ a ∧ a < S 11 0) → QX eIO ad S) (hX2 : 0 ≤ a → a < S 11 0 → S 19 a ≠ 1 → QX eIS ad S) : cM g y_h_pausedAt k_h_pausedAt M_h_pausedAt K [.ref (ad 0 0), .int (iI a)] ad S (fun v9 ad9 S9 => v9 = some (.ref (ad 4 a)) ∧ ad = ad9 ∧ S = S9 ∧ (0 ≤ a ∧ a < S 11 0) ∧ S 19 a = 1) QX := by
  refine cM.of rfl (by decide) rfl rfl rfl (by simp [Value.category]) (Nat.le_of_ble_eq_true rfl) rfl ?_
  obtain ⟨hR, hI1, hI2, hI3, hI4, hI5, hI6, hI7⟩ := id hI
  unfold Inv1 at hI1
  have h0 := hE.h
  have hL1 := hE.l (n := 1) (by decide) (by decide)
  have hL2 := hE.l (n := 2) (by decide) (by decide)
  have hL3 := hE.l (n := 3) (by decide) (by decide)
  have hL4 := hE.l (n := 4) (by decide) (by decide)
  have hL5 := hE.l (n := 5) (by decide) (by decide)
  have hO := hE.o
  have hRm := hE.r
  refine c_aload_n d_h_pausedAt_0 rfl ?_
  refine c_iload_n d_h_pausedAt_1 rfl ?_
  refine c_callV (r := (RX6, TX6, 7)) d_h_pausedAt_2 q_h_pausedAt_127 s_h_containerAt v_h_containerAt (t_h_containerAt hI hE ha hX) (fun _ z => ⟨_, z.at 0 (by decide) h0⟩) rfl rfl rfl rfl (Nat.le_of_ble_eq_true rfl) rfl rfl rfl (fun _ _ _ z => z) ?_
  rintro _ _ _ ⟨rfl, rfl, rfl, ha0, ha1⟩
  refine c_astore_n d_h_pausedAt_5 (by decide) ?_
  refine c_aload_n d_h_pausedAt_6 rfl ?_
  refine cg_h_191_2 (hE.k ha0 ha1) d_h_pausedAt_7 rfl ?_
  refine c_iconst d_h_pausedAt_10 ?_
  refine c_icmp_eq (tgt := 25) d_h_pausedAt_11 (by decide) (by first | assumption | exact hR _ _ (by decide) | (unfold R32; omega)) (by first | assumption | exact hR _ _ (by decide) | (unfold R32; omega)) (fun z11 => ?_) (fun z11 => ?_)
  · refine c_aload_n d_h_pausedAt_25 rfl ?_
    exact c_aret rfl (Or.inl ⟨_, rfl⟩) (Or.inr ⟨_, rfl⟩) d_h_pausedAt_26 (⟨rfl, rfl, rfl, ⟨ha0, ha1⟩, z11⟩)
  · exact fun h hc => thw_3 rfl sr_331 d_h_pausedAt_14 d_h_pausedAt_17 d_h_pausedAt_18 d_h_pausedAt_21 d_h_pausedAt_24 rfl (by decide) (by decide) (by decide) (by decide) ⟨ad, S, hX2 ha0 ha1 z11, hc⟩
