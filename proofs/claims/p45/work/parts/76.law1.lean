/-! the law's methods: isFull, times -/
theorem tm_step {S : gS} {ft fu : Int → Int} (hL : LI S ft fu) {k : Int} (k0 : 0 ≤ k) (k1 : k < S 6 0) (hn : prcI S k ≠ S 9 k) : tm S k 0 1 = tm S (S 7 k) 0 1 := by
  have hI := hL.1.1
  have hm := hL.2.1 k k0 k1
  have hp := hL.1.2.1 k k0 k1
  rw [tm_s hI.2.2.1 hI.2.1 0 1 k0 k1, if_neg (by omega)]
def qFull (S : gS) (ad : cA) (ft fu : Int → Int) (b0 k : Int) : qL := fun v ad9 S9 ft9 fu9 => ad = ad9 ∧ S = S9 ∧ ft = ft9 ∧ fu = fu9 ∧ ∃ b : Int, (b = 0 ∨ b = 1) ∧ v = some (.int (iI b)) ∧ (b = 0 → b0 = 0 ∧ tm S k 0 1 = -1)
theorem W_isFull {g : xG} {t u : Nat} {ad : cA} {S : gS} {ft fu : Int → Int} {v2 : Option Value} {b0 k0 : Int} (hL : LI S ft fu) (hE : Ext S) : ∀ (n : Nat) (b k : Int), k < n → -1 ≤ k → k < S 6 0 → (b = 0 ∨ b = 1) → (b = 0 → b0 = 0 ∧ tm S k0 0 1 = tm S k 0 1) → lW g M_L_isFull t u (qFull S ad ft fu b0 k0) n (6 * n) ad S ft fu 5 [some (.ref (g.2.2.2.2 5)), some (.ref t), v2, some (.int (iI b)), some (.int (iI k))] [] := by
  have hI := hL.1.1
  have hR := hI.1
  have h0 := hE.h
  have h3 := hI.2.1.1
  have h6 := hI.2.1.2.1
  have h11 := hI.2.1.2.2.1
  have h23 := hI.2.1.2.2.2
  have hA := hL.2.2.2.1
  intro n
  induction n with
  | zero =>
    intro b k q0 q1 q2 q3 q4
    refine l_iload d_L_isFull_5 rfl ?_
    refine l_iconst d_L_isFull_7 ?_
    refine l_icmp_eq (tgt := 49) d_L_isFull_8 (by decide) (by unfold R32; omega) (by unfold R32; omega) (fun z8 => ?_) (fun z8 => by exfalso; omega)
    refine l_iload_n d_L_isFull_49 rfl ?_
    refine l_zret rfl q3 d_L_isFull_50 ⟨rfl, rfl, rfl, rfl, b, q3, rfl, fun z => ⟨(q4 z).1, ?_⟩⟩
    rw [(q4 z).2, z8]
    exact tm_m1 S 0 1
  | succ n ih =>
    intro b k q0 q1 q2 q3 q4
    refine l_iload d_L_isFull_5 rfl ?_
    refine l_iconst d_L_isFull_7 ?_
    refine l_icmp_eq (tgt := 49) d_L_isFull_8 (by decide) (by unfold R32; omega) (by unfold R32; omega) (fun z8 => ?_) (fun z8 => ?_)
    · refine l_iload_n d_L_isFull_49 rfl ?_
      refine l_zret rfl q3 d_L_isFull_50 ⟨rfl, rfl, rfl, rfl, b, q3, rfl, fun z => ⟨(q4 z).1, ?_⟩⟩
      rw [(q4 z).2, z8]
      exact tm_m1 S 0 1
    have hp := hI.2.2.1.pa hI.2.1 k (by omega) q2
    have hG := hL.2.2.2.2.2.1 k (by omega) q2
    refine l_iload_n d_L_isFull_11 rfl ?_
    refine l_if_ne (tgt := 31) d_L_isFull_12 (by decide) (by first | assumption | exact hR _ _ (by decide) | (unfold R32; omega)) (fun z12 => ?_) (fun z12 => ?_)
    · refine l_iconst d_L_isFull_31 ?_
      refine l_goto (tgt := 36) d_L_isFull_32 (by decide) ?_
      refine l_istore_n d_L_isFull_36 (by decide) ?_
      refine l_aload_n d_L_isFull_37 rfl ?_
      refine l_bipush d_L_isFull_38 (by decide) ?_
      refine l_iload d_L_isFull_40 rfl ?_
      refine l_iadd d_L_isFull_42 ?_
      refine l_tld (hG.1) d_L_isFull_43 (by omega) (by omega) ?_
      refine l_istore d_L_isFull_44 (by decide) ?_
      refine l_goto (tgt := 5) d_L_isFull_46 (by decide) ?_
      exact l_mono (ih 1 (S 7 k) (by omega) hp.1 (by omega) (Or.inr rfl) (fun z => by omega)) (Nat.le_succ n) (by omega)
    · refine l_aload_n d_L_isFull_15 rfl ?_
      refine l_iload d_L_isFull_16 rfl ?_
      refine l_callH (rc' := n) (rs' := 6 * n) d_L_isFull_18 q_L_isFull_36 s_h_groupProcesses v_h_groupProcesses (t_h_groupProcesses hI hE (by unfold R32; omega)) (opX.no (show cd_groupProcesses S (k) = 0 by unfold cd_groupProcesses; (repeat' split) <;> omega)) h0 rfl rfl rfl (Nat.le_of_ble_eq_true rfl) rfl (by show n + 1 = n + 1; rfl) (by show 6 * (n + 1) = 6 * n + 6; omega) ?_
      rintro _ _ _ ⟨-, rfl, rfl, rfl⟩
      refine l_eqv (v := vl_groupProcesses S (k)) (w := prcI S k) rfl ?_
      refine l_aload_n d_L_isFull_21 rfl ?_
      refine l_bipush d_L_isFull_22 (by decide) ?_
      refine l_iload d_L_isFull_24 rfl ?_
      refine l_iadd d_L_isFull_26 ?_
      refine l_tld (hG.2.2) d_L_isFull_27 (by omega) (by omega) ?_
      have hr9 := prcI_b hI k
      refine l_icmp_ne (tgt := 35) d_L_isFull_28 (by decide) (by first | assumption | exact hR _ _ (by decide) | (unfold R32; omega)) (by first | assumption | exact hR _ _ (by decide) | (unfold R32; omega)) (fun z28 => ?_) (fun z28 => ?_)
      · refine l_iconst d_L_isFull_35 ?_
        refine l_istore_n d_L_isFull_36 (by decide) ?_
        refine l_aload_n d_L_isFull_37 rfl ?_
        refine l_bipush d_L_isFull_38 (by decide) ?_
        refine l_iload d_L_isFull_40 rfl ?_
        refine l_iadd d_L_isFull_42 ?_
        refine l_tld (hG.1) d_L_isFull_43 (by omega) (by omega) ?_
        refine l_istore d_L_isFull_44 (by decide) ?_
        refine l_goto (tgt := 5) d_L_isFull_46 (by decide) ?_
        exact ih 0 (S 7 k) (by omega) hp.1 (by omega) (Or.inl rfl) (fun _ => ⟨(q4 (by omega)).1, (q4 (by omega)).2.trans (tm_step hL (by omega) q2 (by omega))⟩)
      · refine l_iconst d_L_isFull_31 ?_
        refine l_goto (tgt := 36) d_L_isFull_32 (by decide) ?_
        refine l_istore_n d_L_isFull_36 (by decide) ?_
        refine l_aload_n d_L_isFull_37 rfl ?_
        refine l_bipush d_L_isFull_38 (by decide) ?_
        refine l_iload d_L_isFull_40 rfl ?_
        refine l_iadd d_L_isFull_42 ?_
        refine l_tld (hG.1) d_L_isFull_43 (by omega) (by omega) ?_
        refine l_istore d_L_isFull_44 (by decide) ?_
        refine l_goto (tgt := 5) d_L_isFull_46 (by decide) ?_
        exact ih 1 (S 7 k) (by omega) hp.1 (by omega) (Or.inr rfl) (fun z => by omega)
theorem t_L_isFull {g : xG} {t u : Nat} {ad : cA} {S : gS} {ft fu : Int → Int} {p : Int} (hL : LI S ft fu) (hE : Ext S) (p0 : 0 ≤ p) (p1 : p < S 6 0) : lM g y_L_isFull k_L_isFull M_L_isFull t u [.ref (g.2.2.2.2 5), .ref t, .int (iI p)] ad S ft fu (qFull S ad ft fu 0 p) := by
  refine lM.of rfl (by decide) rfl rfl rfl (by simp [Value.category]) (Nat.le_of_ble_eq_true rfl) rfl ?_
  have hI := hL.1.1
  have hR := hI.1
  have h0 := hE.h
  have h3 := hI.2.1.1
  have h6 := hI.2.1.2.1
  have h11 := hI.2.1.2.2.1
  have h23 := hI.2.1.2.2.2
  have hA := hL.2.2.2.1
  refine l_iconst d_L_isFull_0 ?_
  refine l_istore_n d_L_isFull_1 (by decide) ?_
  refine l_iload_n d_L_isFull_2 rfl ?_
  refine l_istore d_L_isFull_3 (by decide) ?_
  exact l_mono (W_isFull (b0 := 0) (k0 := p) hL hE (p + 1).toNat 0 p (by omega) (by omega) p1 (Or.inl rfl) (fun _ => ⟨rfl, rfl⟩)) (by show (p + 1).toNat ≤ 9; omega) (by show 6 * (p + 1).toNat ≤ 54; omega)
def qTimes (S : gS) (ad : cA) (ft fu : Int → Int) : qL := fun v ad9 S9 ft9 fu9 => ad = ad9 ∧ S = S9 ∧ ft = ft9 ∧ fu = fu9 ∧ v = some (.int (iI (smN S (S 11 0).toNat)))
theorem W_times {g : xG} {t u : Nat} {ad : cA} {S : gS} {ft fu : Int → Int} (hI : Inv S) (hE : Ext S) : ∀ (n k : Nat), (k : Int) + n = S 11 0 → lW g M_L_times t u (qTimes S ad ft fu) n (6 * n) ad S ft fu 4 [some (.ref (g.2.2.2.2 5)), some (.int (iI (smN S k))), some (.int (iI (k : Int)))] [] := by
  have hR := hI.1
  have h0 := hE.h
  have h11 := hI.2.1.2.2.1
  intro n
  induction n with
  | zero =>
    intro k q
    refine l_iload_n d_L_times_4 rfl ?_
    refine l_aload_n d_L_times_5 rfl ?_
    refine l_callH d_L_times_6 q_L_times_46 s_h_containers v_h_containers (t_h_containers (QX := cN) hE) (fun _ _ _ z => z) h0 rfl rfl rfl (Nat.le_of_ble_eq_true rfl) rfl rfl rfl ?_
    rintro _ _ _ ⟨rfl, rfl, rfl⟩
    refine l_icmp_ge (tgt := 26) d_L_times_9 (by decide) (by unfold R32; omega) (by unfold R32; omega) (fun z9 => ?_) (fun z9 => by exfalso; omega)
    refine l_iload_n d_L_times_26 rfl ?_
    exact l_iret rfl d_L_times_27 (⟨rfl, rfl, rfl, rfl, by rw [show (S 11 0).toNat = k by omega]⟩)
  | succ n ih =>
    intro k q
    refine l_iload_n d_L_times_4 rfl ?_
    refine l_aload_n d_L_times_5 rfl ?_
    refine l_callH d_L_times_6 q_L_times_46 s_h_containers v_h_containers (t_h_containers (QX := cN) hE) (fun _ _ _ z => z) h0 rfl rfl rfl (Nat.le_of_ble_eq_true rfl) rfl rfl rfl ?_
    rintro _ _ _ ⟨rfl, rfl, rfl⟩
    refine l_icmp_ge (tgt := 26) d_L_times_9 (by decide) (by unfold R32; omega) (by unfold R32; omega) (fun z9 => by exfalso; omega) (fun z9 => ?_)
    refine l_iload_n d_L_times_12 rfl ?_
    refine l_aload_n d_L_times_13 rfl ?_
    refine l_iload_n d_L_times_14 rfl ?_
    refine l_callH (rc' := n) (rs' := 6 * n) d_L_times_15 q_L_times_56 s_h_timeOf v_h_timeOf (t_h_timeOf hI hE (by unfold R32; omega)) (opX.no (show cd_timeOf S ((k : Int)) = 0 by unfold cd_timeOf; (repeat' split) <;> omega)) h0 rfl rfl rfl (Nat.le_of_ble_eq_true rfl) rfl (by show n + 1 = n + 1; rfl) (by show 6 * (n + 1) = 6 * n + 6; omega) ?_
    rintro _ _ _ ⟨-, rfl, rfl, rfl⟩
    refine l_eqv (v := vl_timeOf S ((k : Int))) (w := S 22 k) rfl ?_
    refine l_iadd d_L_times_18 ?_
    refine l_istore_n d_L_times_19 (by decide) ?_
    refine l_iinc d_L_times_20 rfl (by decide) ?_
    refine l_goto (tgt := 4) d_L_times_23 (by decide) ?_
    have e := ih (k + 1) (by omega)
    rw [show ((k + 1 : Nat) : Int) = (k : Int) + 1 by omega] at e
    exact e
theorem t_L_times {g : xG} {t u : Nat} {ad : cA} {S : gS} {ft fu : Int → Int} (hI : Inv S) (hE : Ext S) : lM g y_L_times k_L_times M_L_times t u [.ref (g.2.2.2.2 5)] ad S ft fu (qTimes S ad ft fu) := by
  refine lM.of rfl (by decide) rfl rfl rfl (by simp [Value.category]) (Nat.le_of_ble_eq_true rfl) rfl ?_
  have h11 := hI.2.1.2.2.1
  refine l_iconst d_L_times_0 ?_
  refine l_istore_n d_L_times_1 (by decide) ?_
  refine l_iconst d_L_times_2 ?_
  refine l_istore_n d_L_times_3 (by decide) ?_
  exact l_mono (W_times (ft := ft) (fu := fu) hI hE (S 11 0).toNat 0 (by omega)) (by show (S 11 0).toNat ≤ 21; omega) (by show 6 * (S 11 0).toNat ≤ 126; omega)
