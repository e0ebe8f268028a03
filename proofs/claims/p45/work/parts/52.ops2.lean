/-- what else holds of the reference's state between calls -/
def InvX (S : gS) : Prop := ExT S ∧ (∀ c d, 0 ≤ c → c < S 11 0 → 0 ≤ d → d < S 11 0 → c ≠ d → S 21 c ≠ -1 → S 21 c ≠ S 21 d) ∧ (∀ c, 0 ≤ c → c < S 11 0 → S 19 c ≠ 2 → 1 ≤ S 15 c) ∧ ∀ k, 0 ≤ k → k < S 23 0 → 1 ≤ S 15 (20 + k)
theorem sset_id (S : gS) (r : Nat) (i : Int) : sset S r i (S r i) = S := by
  funext a j
  unfold sset
  split
  · rename_i q
    rw [q.1, q.2]
  · rfl
theorem chg_r {S : gS} {c m n : Int} {k : Nat} (h14 : k ≠ 14) (h15 : k ≠ 15) (h30 : k ≠ 30) (h31 : k ≠ 31) : chg S c m n k = S k := by
  unfold chg
  rw [chS_r h30 h31, sset_n _ _ _ h15, sset_n _ _ _ h14]
theorem chg_agr (S : gS) (c m n : Int) : agr (chg S c m n) (sset (sset S 14 c (S 14 c + m)) 15 c (S 15 c + n)) := fun k hk => chS_r (by omega) (by omega)
theorem chg_agrm (S : gS) (c m : Int) : agr (chg S c m 0) (sset S 14 c (S 14 c + m)) := by
  have h := chg_agr S c m 0
  have e : sset (sset S 14 c (S 14 c + m)) 15 c (S 15 c + 0) = sset S 14 c (S 14 c + m) := by
    rw [Int.add_zero]
    exact sset_id (sset S 14 c (S 14 c + m)) 15 c
  rw [e] at h
  exact h
theorem chg_agrn (S : gS) (c n : Int) : agr (chg S c 0 n) (sset S 15 c (S 15 c + n)) := by
  have h := chg_agr S c 0 n
  rw [Int.add_zero, sset_id] at h
  exact h
theorem chg_ext {S : gS} (hI : Inv S) (hE : Ext S) {c m n : Int} (hc0 : 0 ≤ c) (hc1 : c < S 11 0) (hm0 : -20000 ≤ m) (hm1 : m ≤ 20000) (hn0 : -20000 ≤ n) (hn1 : n ≤ 20000) : Ext (chg S c m n) := by
  obtain ⟨hr, h1, h2, h3, h4, h5, h6, h7⟩ := id hI
  have q4 := h4 c hc0 hc1
  have r : ∀ k, (k != 14 && k != 15 && k != 30 && k != 31) = true → chg S c m n k = S k := fun k hk => by
    simp only [Bool.and_eq_true, bne_iff_ne] at hk
    exact chg_r hk.1.1.1 hk.1.1.2 hk.1.2 hk.2
  exact ⟨hE.1.c (r 3 rfl) (r 6 rfl) (r 11 rfl) (r 23 rfl) (fun q a b => chg_r (by omega) (by omega) (by omega) (by omega)), ExM_chg hI hE.2.1 hc0 hc1, hE.2.2.1.c (r 11 rfl) (r 21 rfl) (r 33 rfl) (r 34 rfl), hE.2.2.2.1.c (r 3 rfl) (r 4 rfl) (r 11 rfl) (r 12 rfl) (r 23 rfl) (r 36 rfl), hE.2.2.2.2.1.c (r 6 rfl) (r 32 rfl), ExR_chg hI hE.2.1 hE.2.2.2.2.2 q4.2.1.1 q4.2.1.2 hm0 hm1 hn0 hn1⟩
theorem chg_14 (S : gS) (c m n : Int) : chg S c m n 14 c = S 14 c + m := if_pos ⟨rfl, rfl⟩
theorem chg_15 (S : gS) (c m n : Int) : chg S c m n 15 c = S 15 c + n := if_pos ⟨rfl, rfl⟩
theorem hlt_15 (S : gS) (c : Int) : hlt S c 15 c = 0 := by rw [hlt_agr S c 15 (by omega)]; exact (stp_c S c).2.1
theorem stp_s15 (S : gS) (c v : Int) : stp (sset S 15 c v) c = stp S c := by
  funext a j
  unfold stp stq
  have e : sset S 15 c v 24 j = S 24 j := rfl
  rw [e]
  by_cases q : (a = 14 ∨ a = 15 ∨ a = 18) ∧ j = c
  · rw [if_pos q, if_pos q]
  · rw [if_neg q, if_neg q]
    unfold sset
    rw [if_neg (fun z : a = 15 ∧ j = c => q ⟨Or.inr (Or.inl z.1), z.2⟩)]
theorem t_h_free {g : xG} {K : hp} {ad : cA} {S : gS} {c u : Int} (hI : Inv S) (hE : Ext S) (hc : R32 c) (hu : R32 u) : cM g y_h_free k_h_free M_h_free K [.ref (ad 0 0), .int (iI c), .int (iI u)] ad S (opC (cd_free S c u) (vl_free S c u) (st_free S c u)) (opX [eIO, eIA, eIS] ad S (cd_free S c u)) := by
  refine cM.of rfl (by decide) rfl rfl rfl (by simp [Value.category]) (Nat.le_of_ble_eq_true rfl) rfl ?_
  obtain ⟨hR, hI1, hI2, hI3, hI4, hI5, hI6, hI7⟩ := id hI
  unfold Inv1 at hI1
  have h0 := hE.h
  have hL1 := hE.l (n := 1) (by decide) (by decide)
  have hL2 := hE.l (n := 2) (by decide) (by decide)
  have hL3 := hE.l (n := 3) (by decide) (by decide)
  have hL4 := hE.l (n := 4) (by decide) (by decide)
  have hL5 := hE.l (n := 5) (by decide) (by decide)
  have hO := hE.o
  have hRm := hE.r
  refine c_aload_n d_h_free_0 rfl ?_
  refine c_iload_n d_h_free_1 rfl ?_
  refine c_callV (r := (RX6, TX6, 7)) d_h_free_2 q_h_free_127 s_h_containerAt v_h_containerAt (t_h_containerAt hI hE hc (fun q => ⟨rfl, rfl, 0, rfl, (by unfold cd_free; (repeat' split) <;> omega)⟩)) (fun _ z => ⟨_, z.at 0 (by decide) h0⟩) rfl rfl rfl rfl (Nat.le_of_ble_eq_true rfl) rfl rfl rfl (fun _ _ _ z => z) ?_
  rintro _ _ _ ⟨rfl, rfl, rfl, hc0, hc1⟩
  refine c_astore_n d_h_free_5 (by decide) ?_
  refine c_iload_n d_h_free_6 rfl ?_
  refine c_sipush d_h_free_7 (by decide) ?_
  refine c_callS d_h_free_10 q_h_free_71 s_h_requireWithin (t_h_requireWithin_c hu (by unfold R32; omega) (fun q => ⟨rfl, rfl, 1, rfl, (by unfold cd_free; (repeat' split) <;> omega)⟩)) rfl rfl (Nat.le_of_ble_eq_true rfl) rfl rfl rfl (fun _ _ _ z => z) ?_
  rintro _ _ _ ⟨rfl, rfl, rfl, hw0, hw1⟩
  refine c_aload_n d_h_free_13 rfl ?_
  refine c_callS d_h_free_14 q_h_free_203 s_h_requireRunning (t_h_requireRunning_c (hE.k hc0 hc1) (hR 19 c (by decide)) (fun q => ⟨rfl, rfl, 2, rfl, (by unfold cd_free; (repeat' split) <;> omega)⟩)) rfl rfl (Nat.le_of_ble_eq_true rfl) rfl rfl rfl (fun _ _ _ z => z) ?_
  rintro _ _ _ ⟨rfl, rfl, rfl, hs0⟩
  have h14 := (hI3 c (Or.inl ⟨hc0, hc1⟩)).2.2.1
  have hg := (hI4 c hc0 hc1).2.1
  refine c_aload_n d_h_free_17 rfl ?_
  refine cg_h_211_2 (hE.k hc0 hc1) d_h_free_18 rfl ?_
  refine c_iload_n d_h_free_21 rfl ?_
  refine c_icmp_ge (tgt := 35) d_h_free_22 (by decide) (by first | assumption | exact hR _ _ (by decide) | (unfold R32; omega)) (by first | assumption | exact hR _ _ (by decide) | (unfold R32; omega)) (fun z22 => ?_) (fun z22 => ?_)
  · refine c_aload_n d_h_free_35 rfl ?_
    refine c_iload_n d_h_free_36 rfl ?_
    refine c_ineg d_h_free_37 ?_
    refine c_iconst d_h_free_38 ?_
    refine c_callV (r := (RX1, TX1, 13)) d_h_free_39 q_h_free_182 s_c_charge v_c_charge (t_c_charge (hE.k hc0 hc1) hI2 hI1 (fun p a b => hE.p a b) hg.1 hg.2) (fun _ z => ⟨_, z.at 4 (by decide) (hE.k hc0 hc1)⟩) rfl rfl rfl rfl (Nat.le_of_ble_eq_true rfl) rfl rfl rfl (fun _ _ _ z => z) ?_
    rintro _ _ _ ⟨rfl, rfl, rfl⟩
    refine c_aload_n d_h_free_42 rfl ?_
    refine cg_h_211_2 (hE.k hc0 hc1) d_h_free_43 rfl ?_
    exact c_iret rfl d_h_free_46 (⟨(by unfold cd_free; (repeat' split) <;> omega), congrArg (fun z => some (Value.int (iI z))) (chg_14 S c (-u) 0), chg_agrm S c (-u), chg_ext hI hE hc0 hc1 (by omega) (by omega) (by omega) (by omega)⟩)
  · exact fun h hc => tht_3 rfl sr_212 d_h_free_25 d_h_free_28 d_h_free_29 d_h_free_31 d_h_free_34 rfl (by decide) (by decide) (by decide) (by decide) ⟨ad, S, ⟨rfl, rfl, 2, rfl, (by unfold cd_free; (repeat' split) <;> omega)⟩, hc⟩
theorem t_h_fork {g : xG} {K : hp} {ad : cA} {S : gS} {c : Int} (hI : Inv S) (hE : Ext S) (hc : R32 c) : cM g y_h_fork k_h_fork M_h_fork K [.ref (ad 0 0), .int (iI c)] ad S (opC (cd_fork S c) (vl_fork S c) (st_fork S c)) (opX [eIO, eIS] ad S (cd_fork S c)) := by
  refine cM.of rfl (by decide) rfl rfl rfl (by simp [Value.category]) (Nat.le_of_ble_eq_true rfl) rfl ?_
  obtain ⟨hR, hI1, hI2, hI3, hI4, hI5, hI6, hI7⟩ := id hI
  unfold Inv1 at hI1
  have h0 := hE.h
  have hL1 := hE.l (n := 1) (by decide) (by decide)
  have hL2 := hE.l (n := 2) (by decide) (by decide)
  have hL3 := hE.l (n := 3) (by decide) (by decide)
  have hL4 := hE.l (n := 4) (by decide) (by decide)
  have hL5 := hE.l (n := 5) (by decide) (by decide)
  have hO := hE.o
  have hRm := hE.r
  refine c_aload_n d_h_fork_0 rfl ?_
  refine c_iload_n d_h_fork_1 rfl ?_
  refine c_callV (r := (RX6, TX6, 7)) d_h_fork_2 q_h_fork_188 s_h_runningAt v_h_runningAt (t_h_runningAt hI hE hc (fun q => ⟨rfl, rfl, 0, rfl, (by unfold cd_fork; (repeat' split) <;> omega)⟩) (fun a b q => ⟨rfl, rfl, 1, rfl, (by unfold cd_fork; (repeat' split) <;> omega)⟩)) (fun _ z => ⟨_, z.at 0 (by decide) h0⟩) rfl rfl rfl rfl (Nat.le_of_ble_eq_true rfl) rfl rfl rfl (fun _ _ _ z => z) ?_
  rintro _ _ _ ⟨rfl, rfl, rfl, ⟨hc0, hc1⟩, hs0⟩
  have h15 := (hI3 c (Or.inl ⟨hc0, hc1⟩)).2.2.2.1
  have hg := (hI4 c hc0 hc1).2.1
  refine c_astore_n d_h_fork_5 (by decide) ?_
  refine c_aload_n d_h_fork_6 rfl ?_
  refine cg_h_214_2 (hE.k hc0 hc1) d_h_fork_7 rfl ?_
  refine c_iconst d_h_fork_10 ?_
  refine c_iconst d_h_fork_11 ?_
  refine c_callS d_h_fork_12 q_h_fork_168 s_h_requireRoom (t_h_requireRoom hI hE hg.1 hg.2 (by omega) (by omega) (by omega) (by omega) (fun q => ⟨rfl, rfl, 1, rfl, (by unfold cd_fork; (repeat' split) <;> omega)⟩)) rfl rfl (Nat.le_of_ble_eq_true rfl) rfl rfl rfl (fun _ _ _ z => z) ?_
  rintro _ _ _ ⟨rfl, rfl, rfl, ht0⟩
  refine c_aload_n d_h_fork_15 rfl ?_
  refine c_iconst d_h_fork_16 ?_
  refine c_iconst d_h_fork_17 ?_
  refine c_callV (r := (RX1, TX1, 13)) d_h_fork_18 q_h_fork_182 s_c_charge v_c_charge (t_c_charge (hE.k hc0 hc1) hI2 hI1 (fun p a b => hE.p a b) hg.1 hg.2) (fun _ z => ⟨_, z.at 4 (by decide) (hE.k hc0 hc1)⟩) rfl rfl rfl rfl (Nat.le_of_ble_eq_true rfl) rfl rfl rfl (fun _ _ _ z => z) ?_
  rintro _ _ _ ⟨rfl, rfl, rfl⟩
  refine c_aload_n d_h_fork_21 rfl ?_
  refine cg_h_218_2 (hE.k hc0 hc1) d_h_fork_22 rfl ?_
  exact c_iret rfl d_h_fork_25 (⟨(by unfold cd_fork; (repeat' split) <;> omega), congrArg (fun z => some (Value.int (iI z))) (chg_15 S c 0 1), chg_agrn S c 1, chg_ext hI hE hc0 hc1 (by omega) (by omega) (by omega) (by omega)⟩)
theorem t_h_exit {g : xG} {K : hp} {ad : cA} {S : gS} {c : Int} (hI : Inv S) (hE : Ext S) (hc : R32 c) (hX9 : InvX S) : cM g y_h_exit k_h_exit M_h_exit K [.ref (ad 0 0), .int (iI c)] ad S (opC (cd_exit S c) (vl_exit S c) (st_exit S c)) (opX [eIO, eIS] ad S (cd_exit S c)) := by
  refine cM.of rfl (by decide) rfl rfl rfl (by simp [Value.category]) (Nat.le_of_ble_eq_true rfl) rfl ?_
  obtain ⟨hR, hI1, hI2, hI3, hI4, hI5, hI6, hI7⟩ := id hI
  unfold Inv1 at hI1
  have h0 := hE.h
  have hL1 := hE.l (n := 1) (by decide) (by decide)
  have hL2 := hE.l (n := 2) (by decide) (by decide)
  have hL3 := hE.l (n := 3) (by decide) (by decide)
  have hL4 := hE.l (n := 4) (by decide) (by decide)
  have hL5 := hE.l (n := 5) (by decide) (by decide)
  have hO := hE.o
  have hRm := hE.r
  refine c_aload_n d_h_exit_0 rfl ?_
  refine c_iload_n d_h_exit_1 rfl ?_
  refine c_callV (r := (RX6, TX6, 7)) d_h_exit_2 q_h_exit_188 s_h_runningAt v_h_runningAt (t_h_runningAt hI hE hc (fun q => ⟨rfl, rfl, 0, rfl, (by unfold cd_exit ist; (repeat' split) <;> omega)⟩) (fun a b q => ⟨rfl, rfl, 1, rfl, (by unfold cd_exit ist; (repeat' split) <;> omega)⟩)) (fun _ z => ⟨_, z.at 0 (by decide) h0⟩) rfl rfl rfl rfl (Nat.le_of_ble_eq_true rfl) rfl rfl rfl (fun _ _ _ z => z) ?_
  rintro _ _ _ ⟨rfl, rfl, rfl, ⟨hc0, hc1⟩, hs0⟩
  have h15 := (hI3 c (Or.inl ⟨hc0, hc1⟩)).2.2.2.1
  have hg := (hI4 c hc0 hc1).2.1
  have hp1 := hX9.2.2.1 c hc0 hc1 (by omega)
  refine c_astore_n d_h_exit_5 (by decide) ?_
  refine c_aload_n d_h_exit_6 rfl ?_
  refine cg_h_218_2 (hE.k hc0 hc1) d_h_exit_7 rfl ?_
  refine c_iconst d_h_exit_10 ?_
  refine c_icmp_le (tgt := 23) d_h_exit_11 (by decide) (by first | assumption | exact hR _ _ (by decide) | (unfold R32; omega)) (by first | assumption | exact hR _ _ (by decide) | (unfold R32; omega)) (fun z11 => ?_) (fun z11 => ?_)
  · refine c_aload_n d_h_exit_23 rfl ?_
    refine c_aload_n d_h_exit_24 rfl ?_
    refine c_callV (r := (RX6, TX6, 7)) d_h_exit_25 q_h_exit_199 s_h_halt v_h_halt (t_h_halt hI hE hc0 hc1) (fun _ z => ⟨_, z.at 0 (by decide) h0⟩) rfl rfl rfl rfl (Nat.le_of_ble_eq_true rfl) rfl rfl rfl (fun _ _ _ z => z) ?_
    rintro _ _ _ ⟨rfl, rfl, rfl⟩
    refine c_pop d_h_exit_28 rfl ?_
    refine c_aload_n d_h_exit_29 rfl ?_
    refine cg_h_218_2 (by first | exact (congrFun (chg_r (by decide) (by decide) (by decide) (by decide)) c).trans (hE.k hc0 hc1) | exact (congrFun (hlt_r (by decide) (by decide) (by decide) (by decide) (by decide) (by decide) (by decide) (by decide) (by decide) (by decide)) c).trans (hE.k hc0 hc1)) d_h_exit_30 rfl ?_
    exact c_iret rfl d_h_exit_33 (by first | exact ⟨(by unfold cd_exit ist; (repeat' split) <;> omega), congrArg (fun z => some (Value.int (iI z))) (chg_15 S c 0 (-1)), by unfold st_exit; rw [if_neg (by omega)]; exact chg_agrn S c (-1), chg_ext hI hE hc0 hc1 (by omega) (by omega) (by omega) (by omega)⟩ | exact ⟨(by unfold cd_exit ist; (repeat' split) <;> omega), congrArg (fun z => some (Value.int (iI z))) (by rw [hlt_15]; unfold vl_exit; omega), by unfold st_exit; rw [if_pos (by omega), stp_s15]; exact hlt_agr S c, hlt_ext hI hE hc0 hc1⟩)
  · refine c_aload_n d_h_exit_14 rfl ?_
    refine c_iconst d_h_exit_15 ?_
    refine c_iconst d_h_exit_16 ?_
    refine c_callV (r := (RX1, TX1, 13)) d_h_exit_17 q_h_exit_182 s_c_charge v_c_charge (t_c_charge (hE.k hc0 hc1) hI2 hI1 (fun p a b => hE.p a b) hg.1 hg.2) (fun _ z => ⟨_, z.at 4 (by decide) (hE.k hc0 hc1)⟩) rfl rfl rfl rfl (Nat.le_of_ble_eq_true rfl) rfl rfl rfl (fun _ _ _ z => z) ?_
    rintro _ _ _ ⟨rfl, rfl, rfl⟩
    refine c_goto (tgt := 29) d_h_exit_20 (by decide) ?_
    refine c_aload_n d_h_exit_29 rfl ?_
    refine cg_h_218_2 (by first | exact (congrFun (chg_r (by decide) (by decide) (by decide) (by decide)) c).trans (hE.k hc0 hc1) | exact (congrFun (hlt_r (by decide) (by decide) (by decide) (by decide) (by decide) (by decide) (by decide) (by decide) (by decide) (by decide)) c).trans (hE.k hc0 hc1)) d_h_exit_30 rfl ?_
    exact c_iret rfl d_h_exit_33 (by first | exact ⟨(by unfold cd_exit ist; (repeat' split) <;> omega), congrArg (fun z => some (Value.int (iI z))) (chg_15 S c 0 (-1)), by unfold st_exit; rw [if_neg (by omega)]; exact chg_agrn S c (-1), chg_ext hI hE hc0 hc1 (by omega) (by omega) (by omega) (by omega)⟩ | exact ⟨(by unfold cd_exit ist; (repeat' split) <;> omega), congrArg (fun z => some (Value.int (iI z))) (by rw [hlt_15]; unfold vl_exit; omega), by unfold st_exit; rw [if_pos (by omega), stp_s15]; exact hlt_agr S c, hlt_ext hI hE hc0 hc1⟩)
theorem t_h_raise {g : xG} {K : hp} {ad : cA} {S : gS} {c k : Int} (hI : Inv S) (hE : Ext S) (hc : R32 c) (hk : R32 k) : cM g y_h_raise k_h_raise M_h_raise K [.ref (ad 0 0), .int (iI c), .int (iI k)] ad S (opC (cd_raise S c k) (vl_raise S c k) (st_raise S c k)) (opX [eIO, eIS] ad S (cd_raise S c k)) := by
  refine cM.of rfl (by decide) rfl rfl rfl (by simp [Value.category]) (Nat.le_of_ble_eq_true rfl) rfl ?_
  obtain ⟨hR, hI1, hI2, hI3, hI4, hI5, hI6, hI7⟩ := id hI
  unfold Inv1 at hI1
  have h0 := hE.h
  have hL1 := hE.l (n := 1) (by decide) (by decide)
  have hL2 := hE.l (n := 2) (by decide) (by decide)
  have hL3 := hE.l (n := 3) (by decide) (by decide)
  have hL4 := hE.l (n := 4) (by decide) (by decide)
  have hL5 := hE.l (n := 5) (by decide) (by decide)
  have hO := hE.o
  have hRm := hE.r
  refine c_aload_n d_h_raise_0 rfl ?_
  refine c_iload_n d_h_raise_1 rfl ?_
  refine c_callV (r := (RX6, TX6, 7)) d_h_raise_2 q_h_raise_127 s_h_containerAt v_h_containerAt (t_h_containerAt hI hE hc (fun q => ⟨rfl, rfl, 0, rfl, (by unfold cd_raise icp; (repeat' split) <;> omega)⟩)) (fun _ z => ⟨_, z.at 0 (by decide) h0⟩) rfl rfl rfl rfl (Nat.le_of_ble_eq_true rfl) rfl rfl rfl (fun _ _ _ z => z) ?_
  rintro _ _ _ ⟨rfl, rfl, rfl, hc0, hc1⟩
  have h16 := (hI3 c (Or.inl ⟨hc0, hc1⟩)).2.2.2.2
  have hb16 := bit_01 (S 16 c) k
  have hz16 := bitz (a := S 16 c) (k := k)
  refine c_astore_n d_h_raise_5 (by decide) ?_
  refine c_iload_n d_h_raise_6 rfl ?_
  refine c_callS d_h_raise_7 q_h_raise_240 s_h_requireCapability (t_h_requireCapability_c hk (fun q => ⟨rfl, rfl, 0, rfl, (by unfold cd_raise icp; (repeat' split) <;> omega)⟩)) rfl rfl (Nat.le_of_ble_eq_true rfl) rfl rfl rfl (fun _ _ _ z => z) ?_
  rintro _ _ _ ⟨rfl, rfl, rfl, hk0, hk1⟩
  have hz := hz16 hk0 (by omega)
  have hpw := pw31 k.toNat (by omega)
  refine c_aload_n d_h_raise_10 rfl ?_
  refine c_callS d_h_raise_11 q_h_raise_203 s_h_requireRunning (t_h_requireRunning_c (hE.k hc0 hc1) (hR 19 c (by decide)) (fun q => ⟨rfl, rfl, 1, rfl, (by unfold cd_raise icp; (repeat' split) <;> omega)⟩)) rfl rfl (Nat.le_of_ble_eq_true rfl) rfl rfl rfl (fun _ _ _ z => z) ?_
  rintro _ _ _ ⟨rfl, rfl, rfl, hs0⟩
  refine c_iconst d_h_raise_14 ?_
  refine c_iload_n d_h_raise_15 rfl ?_
  refine c_ishl1 d_h_raise_16 (by omega) (by omega) ?_
  refine c_istore d_h_raise_17 (by decide) ?_
  refine c_aload_n d_h_raise_19 rfl ?_
  refine cg_h_176_2 (hE.k hc0 hc1) d_h_raise_20 rfl ?_
  refine c_iload d_h_raise_23 rfl ?_
  refine c_iandk d_h_raise_25 (by omega) ?_
  refine c_if_ne (tgt := 39) d_h_raise_26 (by decide) hz.1 (fun z26 => ?_) (fun z26 => ?_)
  · refine c_aload_n d_h_raise_39 rfl ?_
    refine c_dup d_h_raise_40 rfl ?_
    refine cg_h_179_2 (hE.k hc0 hc1) d_h_raise_41 rfl ?_
    refine c_iload d_h_raise_44 rfl ?_
    refine c_iork d_h_raise_46 (by omega) ?_
    refine cp_h_179_2 (hE.k hc0 hc1) d_h_raise_47 rfl ?_
    refine c_aload_n d_h_raise_50 rfl ?_
    refine cg_h_179_2 (hE.k hc0 hc1) d_h_raise_51 rfl ?_
    exact c_iret rfl d_h_raise_54 (opC.good (by unfold cd_raise icp; have q9 : ¬ bit (S 16 c) k = 0 := fun q => z26 (hz.2.mpr q); (repeat' split) <;> omega) (sset_e _ _ _ _) rfl (hE.set rfl (fun z => absurd z (by decide))))
  · exact fun h hc => tht_3 rfl sr_243 d_h_raise_29 d_h_raise_32 d_h_raise_33 d_h_raise_35 d_h_raise_38 rfl (by decide) (by decide) (by decide) (by decide) ⟨ad, S, ⟨rfl, rfl, 1, rfl, (by unfold cd_raise icp; have q9 := hz.2.mp z26; (repeat' split) <;> omega)⟩, hc⟩
theorem t_h_lower {g : xG} {K : hp} {ad : cA} {S : gS} {c k : Int} (hI : Inv S) (hE : Ext S) (hc : R32 c) (hk : R32 k) : cM g y_h_lower k_h_lower M_h_lower K [.ref (ad 0 0), .int (iI c), .int (iI k)] ad S (opC (cd_lower S c k) (vl_lower S c k) (st_lower S c k)) (opX [eIO, eIS] ad S (cd_lower S c k)) := by
  refine cM.of rfl (by decide) rfl rfl rfl (by simp [Value.category]) (Nat.le_of_ble_eq_true rfl) rfl ?_
  obtain ⟨hR, hI1, hI2, hI3, hI4, hI5, hI6, hI7⟩ := id hI
  unfold Inv1 at hI1
  have h0 := hE.h
  have hL1 := hE.l (n := 1) (by decide) (by decide)
  have hL2 := hE.l (n := 2) (by decide) (by decide)
  have hL3 := hE.l (n := 3) (by decide) (by decide)
  have hL4 := hE.l (n := 4) (by decide) (by decide)
  have hL5 := hE.l (n := 5) (by decide) (by decide)
  have hO := hE.o
  have hRm := hE.r
  refine c_aload_n d_h_lower_0 rfl ?_
  refine c_iload_n d_h_lower_1 rfl ?_
  refine c_callV (r := (RX6, TX6, 7)) d_h_lower_2 q_h_lower_127 s_h_containerAt v_h_containerAt (t_h_containerAt hI hE hc (fun q => ⟨rfl, rfl, 0, rfl, (by unfold cd_lower icp; (repeat' split) <;> omega)⟩)) (fun _ z => ⟨_, z.at 0 (by decide) h0⟩) rfl rfl rfl rfl (Nat.le_of_ble_eq_true rfl) rfl rfl rfl (fun _ _ _ z => z) ?_
  rintro _ _ _ ⟨rfl, rfl, rfl, hc0, hc1⟩
  have h16 := (hI3 c (Or.inl ⟨hc0, hc1⟩)).2.2.2.2
  have hb16 := bit_01 (S 16 c) k
  have hz16 := bitz (a := S 16 c) (k := k)
  refine c_astore_n d_h_lower_5 (by decide) ?_
  refine c_iload_n d_h_lower_6 rfl ?_
  refine c_callS d_h_lower_7 q_h_lower_240 s_h_requireCapability (t_h_requireCapability_c hk (fun q => ⟨rfl, rfl, 0, rfl, (by unfold cd_lower icp; (repeat' split) <;> omega)⟩)) rfl rfl (Nat.le_of_ble_eq_true rfl) rfl rfl rfl (fun _ _ _ z => z) ?_
  rintro _ _ _ ⟨rfl, rfl, rfl, hk0, hk1⟩
  have hz := hz16 hk0 (by omega)
  have hpw := pw31 k.toNat (by omega)
  refine c_aload_n d_h_lower_10 rfl ?_
  refine c_callS d_h_lower_11 q_h_lower_203 s_h_requireRunning (t_h_requireRunning_c (hE.k hc0 hc1) (hR 19 c (by decide)) (fun q => ⟨rfl, rfl, 1, rfl, (by unfold cd_lower icp; (repeat' split) <;> omega)⟩)) rfl rfl (Nat.le_of_ble_eq_true rfl) rfl rfl rfl (fun _ _ _ z => z) ?_
  rintro _ _ _ ⟨rfl, rfl, rfl, hs0⟩
  refine c_aload_n d_h_lower_14 rfl ?_
  refine c_dup d_h_lower_15 rfl ?_
  refine cg_h_179_2 (hE.k hc0 hc1) d_h_lower_16 rfl ?_
  refine c_iconst d_h_lower_19 ?_
  refine c_iload_n d_h_lower_20 rfl ?_
  refine c_ishl1 d_h_lower_21 (by omega) (by omega) ?_
  refine c_iconst d_h_lower_22 ?_
  refine c_inot d_h_lower_23 ?_
  refine c_iandc d_h_lower_24 (by omega) ?_
  refine cp_h_179_2 (hE.k hc0 hc1) d_h_lower_25 rfl ?_
  refine c_aload_n d_h_lower_28 rfl ?_
  refine cg_h_179_2 (hE.k hc0 hc1) d_h_lower_29 rfl ?_
  exact c_iret rfl d_h_lower_32 (opC.good (by unfold cd_lower icp; (repeat' split) <;> omega) (sset_e _ _ _ _) rfl (hE.set rfl (fun z => absurd z (by decide))))
theorem t_h_drop {g : xG} {K : hp} {ad : cA} {S : gS} {c k : Int} (hI : Inv S) (hE : Ext S) (hc : R32 c) (hk : R32 k) : cM g y_h_drop k_h_drop M_h_drop K [.ref (ad 0 0), .int (iI c), .int (iI k)] ad S (opC (cd_drop S c k) (vl_drop S c k) (st_drop S c k)) (opX [eIO, eIS] ad S (cd_drop S c k)) := by
  refine cM.of rfl (by decide) rfl rfl rfl (by simp [Value.category]) (Nat.le_of_ble_eq_true rfl) rfl ?_
  obtain ⟨hR, hI1, hI2, hI3, hI4, hI5, hI6, hI7⟩ := id hI
  unfold Inv1 at hI1
  have h0 := hE.h
  have hL1 := hE.l (n := 1) (by decide) (by decide)
  have hL2 := hE.l (n := 2) (by decide) (by decide)
  have hL3 := hE.l (n := 3) (by decide) (by decide)
  have hL4 := hE.l (n := 4) (by decide) (by decide)
  have hL5 := hE.l (n := 5) (by decide) (by decide)
  have hO := hE.o
  have hRm := hE.r
  refine c_aload_n d_h_drop_0 rfl ?_
  refine c_iload_n d_h_drop_1 rfl ?_
  refine c_callV (r := (RX6, TX6, 7)) d_h_drop_2 q_h_drop_127 s_h_containerAt v_h_containerAt (t_h_containerAt hI hE hc (fun q => ⟨rfl, rfl, 0, rfl, (by unfold cd_drop icp; (repeat' split) <;> omega)⟩)) (fun _ z => ⟨_, z.at 0 (by decide) h0⟩) rfl rfl rfl rfl (Nat.le_of_ble_eq_true rfl) rfl rfl rfl (fun _ _ _ z => z) ?_
  rintro _ _ _ ⟨rfl, rfl, rfl, hc0, hc1⟩
  have h16 := (hI3 c (Or.inl ⟨hc0, hc1⟩)).2.2.2.2
  have hb16 := bit_01 (S 16 c) k
  have hz16 := bitz (a := S 16 c) (k := k)
  refine c_astore_n d_h_drop_5 (by decide) ?_
  refine c_iload_n d_h_drop_6 rfl ?_
  refine c_callS d_h_drop_7 q_h_drop_240 s_h_requireCapability (t_h_requireCapability_c hk (fun q => ⟨rfl, rfl, 0, rfl, (by unfold cd_drop icp; (repeat' split) <;> omega)⟩)) rfl rfl (Nat.le_of_ble_eq_true rfl) rfl rfl rfl (fun _ _ _ z => z) ?_
  rintro _ _ _ ⟨rfl, rfl, rfl, hk0, hk1⟩
  have hz := hz16 hk0 (by omega)
  have hpw := pw31 k.toNat (by omega)
  refine c_aload_n d_h_drop_10 rfl ?_
  refine c_callS d_h_drop_11 q_h_drop_203 s_h_requireRunning (t_h_requireRunning_c (hE.k hc0 hc1) (hR 19 c (by decide)) (fun q => ⟨rfl, rfl, 1, rfl, (by unfold cd_drop icp; (repeat' split) <;> omega)⟩)) rfl rfl (Nat.le_of_ble_eq_true rfl) rfl rfl rfl (fun _ _ _ z => z) ?_
  rintro _ _ _ ⟨rfl, rfl, rfl, hs0⟩
  refine c_aload_n d_h_drop_14 rfl ?_
  refine c_dup d_h_drop_15 rfl ?_
  refine cg_h_179_2 (hE.k hc0 hc1) d_h_drop_16 rfl ?_
  refine c_iconst d_h_drop_19 ?_
  refine c_iload_n d_h_drop_20 rfl ?_
  refine c_ishl1 d_h_drop_21 (by omega) (by omega) ?_
  refine c_iconst d_h_drop_22 ?_
  refine c_inot d_h_drop_23 ?_
  refine c_iandc d_h_drop_24 (by omega) ?_
  refine cp_h_179_2 (hE.k hc0 hc1) d_h_drop_25 rfl ?_
  refine c_aload_n d_h_drop_28 rfl ?_
  refine c_dup d_h_drop_29 rfl ?_
  refine cg_h_176_2 (hE.k hc0 hc1) d_h_drop_30 rfl ?_
  refine c_iconst d_h_drop_33 ?_
  refine c_iload_n d_h_drop_34 rfl ?_
  refine c_ishl1 d_h_drop_35 (by omega) (by omega) ?_
  refine c_iconst d_h_drop_36 ?_
  refine c_inot d_h_drop_37 ?_
  refine c_iandc d_h_drop_38 (show 0 ≤ S 16 c by omega) ?_
  refine cp_h_176_2 (hE.k hc0 hc1) d_h_drop_39 rfl ?_
  refine c_aload_n d_h_drop_42 rfl ?_
  refine cg_h_176_2 (hE.k hc0 hc1) d_h_drop_43 rfl ?_
  exact c_iret rfl d_h_drop_46 (opC.good (by unfold cd_drop icp; (repeat' split) <;> omega) (sset_e _ _ _ _) rfl ((hE.set rfl (fun z => absurd z (by decide))).set rfl (fun z => absurd z (by decide))))
theorem t_h_kill {g : xG} {K : hp} {ad : cA} {S : gS} {c v : Int} (hI : Inv S) (hE : Ext S) (hc : R32 c) (hv : R32 v) : cM g y_h_kill k_h_kill M_h_kill K [.ref (ad 0 0), .int (iI c), .int (iI v)] ad S (opC (cd_kill S c v) (vl_kill S c v) (st_kill S c v)) (opX [eIO, eIS] ad S (cd_kill S c v)) := by
  refine cM.of rfl (by decide) rfl rfl rfl (by simp [Value.category]) (Nat.le_of_ble_eq_true rfl) rfl ?_
  obtain ⟨hR, hI1, hI2, hI3, hI4, hI5, hI6, hI7⟩ := id hI
  unfold Inv1 at hI1
  have h0 := hE.h
  have hL1 := hE.l (n := 1) (by decide) (by decide)
  have hL2 := hE.l (n := 2) (by decide) (by decide)
  have hL3 := hE.l (n := 3) (by decide) (by decide)
  have hL4 := hE.l (n := 4) (by decide) (by decide)
  have hL5 := hE.l (n := 5) (by decide) (by decide)
  have hO := hE.o
  have hRm := hE.r
  refine c_aload_n d_h_kill_0 rfl ?_
  refine c_iload_n d_h_kill_1 rfl ?_
  refine c_callV (r := (RX6, TX6, 7)) d_h_kill_2 q_h_kill_127 s_h_containerAt v_h_containerAt (t_h_containerAt hI hE hc (fun q => ⟨rfl, rfl, 0, rfl, (by unfold cd_kill; (repeat' split) <;> omega)⟩)) (fun _ z => ⟨_, z.at 0 (by decide) h0⟩) rfl rfl rfl rfl (Nat.le_of_ble_eq_true rfl) rfl rfl rfl (fun _ _ _ z => z) ?_
  rintro _ _ _ ⟨rfl, rfl, rfl, hc0, hc1⟩
  refine c_astore_n d_h_kill_5 (by decide) ?_
  refine c_aload_n d_h_kill_6 rfl ?_
  refine c_iload_n d_h_kill_7 rfl ?_
  refine c_callV (r := (RX6, TX6, 7)) d_h_kill_8 q_h_kill_127 s_h_containerAt v_h_containerAt (t_h_containerAt hI hE hv (fun q => ⟨rfl, rfl, 0, rfl, (by unfold cd_kill; (repeat' split) <;> omega)⟩)) (fun _ z => ⟨_, z.at 0 (by decide) h0⟩) rfl rfl rfl rfl (Nat.le_of_ble_eq_true rfl) rfl rfl rfl (fun _ _ _ z => z) ?_
  rintro _ _ _ ⟨rfl, rfl, rfl, hv0, hv1⟩
  have hgc := (hI4 c hc0 hc1).2.1
  have hgv := (hI4 v hv0 hv1).2.1
  have hbl := bel_01 S (S 20 v) (S 20 c)
  refine c_astore d_h_kill_11 (by decide) ?_
  refine c_aload_n d_h_kill_13 rfl ?_
  refine c_callS d_h_kill_14 q_h_kill_203 s_h_requireRunning (t_h_requireRunning_c (hE.k hc0 hc1) (hR 19 c (by decide)) (fun q => ⟨rfl, rfl, 1, rfl, (by have hb := bit_01 (S 17 c) 3; have hb2 := bel_01 S (S 20 v) (S 20 c); unfold cd_kill; (repeat' split) <;> omega)⟩)) rfl rfl (Nat.le_of_ble_eq_true rfl) rfl rfl rfl (fun _ _ _ z => z) ?_
  rintro _ _ _ ⟨rfl, rfl, rfl, hs0⟩
  refine c_aload_n d_h_kill_17 rfl ?_
  refine c_iconst d_h_kill_18 ?_
  refine c_callS d_h_kill_19 q_h_kill_245 s_h_requireEffective (t_h_requireEffective_c (hE.k hc0 hc1) (hI3 c (Or.inl ⟨hc0, hc1⟩)).2.2.2.2.2.1.1 (by omega) (by omega) (fun q => ⟨rfl, rfl, 1, rfl, (by have hb := bit_01 (S 17 c) 3; have hb2 := bel_01 S (S 20 v) (S 20 c); unfold cd_kill; (repeat' split) <;> omega)⟩)) rfl rfl (Nat.le_of_ble_eq_true rfl) rfl rfl rfl (fun _ _ _ z => z) ?_
  rintro _ _ _ ⟨rfl, rfl, rfl, he0⟩
  refine c_aload d_h_kill_22 rfl ?_
  refine c_aload_n d_h_kill_24 rfl ?_
  refine c_acmp_eqK (by decide) (hE.k hv0 hv1) (hE.k hc0 hc1) (tgt := 37) d_h_kill_25 (by decide) (fun z25 => ?_) (fun z25 => ?_)
  · exact fun h hc => tht_3 rfl sr_248 d_h_kill_37 d_h_kill_40 d_h_kill_41 d_h_kill_43 d_h_kill_46 rfl (by decide) (by decide) (by decide) (by decide) ⟨ad, S, ⟨rfl, rfl, 1, rfl, (by have hb := bit_01 (S 17 c) 3; have hb2 := bel_01 S (S 20 v) (S 20 c); unfold cd_kill; (repeat' split) <;> omega)⟩, hc⟩
  refine c_aload d_h_kill_28 rfl ?_
  refine cg_h_191_2 (hE.k hv0 hv1) d_h_kill_30 rfl ?_
  refine c_iconst d_h_kill_33 ?_
  refine c_icmp_ne (tgt := 47) d_h_kill_34 (by decide) (by first | assumption | exact hR _ _ (by decide) | (unfold R32; omega)) (by first | assumption | exact hR _ _ (by decide) | (unfold R32; omega)) (fun z34 => ?_) (fun z34 => ?_)
  · refine c_aload d_h_kill_47 rfl ?_
    refine cg_h_214_2 (hE.k hv0 hv1) d_h_kill_49 rfl ?_
    refine c_aload_n d_h_kill_52 rfl ?_
    refine cg_h_214_2 (hE.k hc0 hc1) d_h_kill_53 rfl ?_
    refine c_callV (r := (RX2, TX2, 7)) d_h_kill_56 q_h_kill_250 s_g_isWithin v_g_isWithin (t_g_isWithin hI2 hI1 (fun p a b => hE.p a b) hgv.1 hgv.2 hgc.1 hgc.2) (fun _ z => ⟨_, z.at 3 (by decide) (hE.p hgv.1 hgv.2)⟩) rfl rfl rfl rfl (Nat.le_of_ble_eq_true rfl) rfl rfl rfl (fun _ _ _ z => z) ?_
    rintro _ _ _ ⟨rfl, rfl, rfl⟩
    refine c_if_ne (tgt := 72) d_h_kill_59 (by decide) (by first | assumption | exact hR _ _ (by decide) | (unfold R32; omega)) (fun z59 => ?_) (fun z59 => ?_)
    · refine c_aload_n d_h_kill_72 rfl ?_
      refine c_aload d_h_kill_73 rfl ?_
      refine c_callV (r := (RX6, TX6, 7)) d_h_kill_75 q_h_kill_199 s_h_halt v_h_halt (t_h_halt hI hE hv0 hv1) (fun _ z => ⟨_, z.at 0 (by decide) h0⟩) rfl rfl rfl rfl (Nat.le_of_ble_eq_true rfl) rfl rfl rfl (fun _ _ _ z => z) ?_
      rintro _ _ _ ⟨rfl, rfl, rfl⟩
      exact c_iret rfl d_h_kill_78 (⟨(by have hb := bit_01 (S 17 c) 3; have hb2 := bel_01 S (S 20 v) (S 20 c); unfold cd_kill; (repeat' split) <;> omega), rfl, hlt_agr S v, hlt_ext hI hE hv0 hv1⟩)
    · exact fun h hc => tht_3 rfl sr_253 d_h_kill_62 d_h_kill_65 d_h_kill_66 d_h_kill_68 d_h_kill_71 rfl (by decide) (by decide) (by decide) (by decide) ⟨ad, S, ⟨rfl, rfl, 1, rfl, (by have hb := bit_01 (S 17 c) 3; have hb2 := bel_01 S (S 20 v) (S 20 c); unfold cd_kill; (repeat' split) <;> omega)⟩, hc⟩
  · exact fun h hc => tht_3 rfl sr_248 d_h_kill_37 d_h_kill_40 d_h_kill_41 d_h_kill_43 d_h_kill_46 rfl (by decide) (by decide) (by decide) (by decide) ⟨ad, S, ⟨rfl, rfl, 1, rfl, (by have hb := bit_01 (S 17 c) 3; have hb2 := bel_01 S (S 20 v) (S 20 c); unfold cd_kill; (repeat' split) <;> omega)⟩, hc⟩
