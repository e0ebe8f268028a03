/-! the law's methods: areGroups, areContainers -/
def qSame (S : gS) (ad : cA) (ft fu : Int → Int) : qL := fun v ad9 S9 ft9 fu9 => v = some (.int (iI 1)) ∧ ad = ad9 ∧ S = S9 ∧ ft = ft9 ∧ fu = fu9
theorem W_gr1 {g : xG} {t u : Nat} {ad : cA} {S : gS} {ft fu : Int → Int} {p j : Int} {v5 : Option Value} {Q : qL} {rc rs : Nat} (hL : LI S ft fu) (p0 : 0 ≤ p) (p1 : p < S 6 0) (j0 : 0 ≤ j) (j1 : j < S 11 0) (kk : lW g M_L_areGroups t u Q rc rs ad S ft fu 82 [some (.ref (g.2.2.2.2 5)), some (.ref t), some (.ref u), some (.int (iI 1)), some (.int (iI p)), v5, some (.int (iI j)), some (.int (iI (bel S (S 20 j) p))), some (.int (iI (-1)))] []) : ∀ (n : Nat) (b k : Int), k < n → -1 ≤ k → k < S 6 0 → (b = 0 ∨ b = 1) → (b = 1 → bel S (S 20 j) p = 1) → (b = 0 → bel S (S 20 j) p = bel S k p) → lW g M_L_areGroups t u Q rc rs ad S ft fu 45 [some (.ref (g.2.2.2.2 5)), some (.ref t), some (.ref u), some (.int (iI 1)), some (.int (iI p)), v5, some (.int (iI j)), some (.int (iI b)), some (.int (iI k))] [] := by
  have hI := hL.1.1
  have hR := hI.1
  have h6 := hI.2.1.2.1
  have fin : ∀ (b k : Int), k = -1 → (b = 0 ∨ b = 1) → (b = 1 → bel S (S 20 j) p = 1) → (b = 0 → bel S (S 20 j) p = bel S k p) → lW g M_L_areGroups t u Q rc rs ad S ft fu 45 [some (.ref (g.2.2.2.2 5)), some (.ref t), some (.ref u), some (.int (iI 1)), some (.int (iI p)), v5, some (.int (iI j)), some (.int (iI b)), some (.int (iI k))] [] := by
    intro b k hk hb h1 h0
    subst hk
    have e : b = bel S (S 20 j) p := by
      rcases hb with z | z
      · rw [h0 z, bel_m1 p0]; exact z
      · rw [h1 z]; exact z
    subst e
    refine l_iload d_L_areGroups_45 rfl ?_
    refine l_iconst d_L_areGroups_47 ?_
    refine l_icmp_eq (tgt := 82) d_L_areGroups_48 (by decide) (by unfold R32; omega) (by unfold R32; omega) (fun z48 => ?_) (fun z48 => by exfalso; omega)
    exact kk
  intro n
  induction n with
  | zero =>
    intro b k q0 q1 q2 q3 q5 q6
    exact fin b k (by omega) q3 q5 q6
  | succ n ih =>
    intro b k q0 q1 q2 q3 q5 q6
    by_cases hk : k = -1
    · exact fin b k hk q3 q5 q6
    have hp := hI.2.2.1.pa hI.2.1 k (by omega) q2
    have hG := hL.2.2.2.2.2.1 k (by omega) q2
    refine l_iload d_L_areGroups_45 rfl ?_
    refine l_iconst d_L_areGroups_47 ?_
    refine l_icmp_eq (tgt := 82) d_L_areGroups_48 (by decide) (by first | assumption | exact hR _ _ (by decide) | (unfold R32; omega)) (by first | assumption | exact hR _ _ (by decide) | (unfold R32; omega)) (fun z48 => by exfalso; omega) (fun z48 => ?_)
    refine l_iload d_L_areGroups_51 rfl ?_
    refine l_if_ne (tgt := 63) d_L_areGroups_53 (by decide) (by first | assumption | exact hR _ _ (by decide) | (unfold R32; omega)) (fun z53 => ?_) (fun z53 => ?_)
    · refine l_iconst d_L_areGroups_63 ?_
      refine l_goto (tgt := 68) d_L_areGroups_64 (by decide) ?_
      refine l_istore d_L_areGroups_68 (by decide) ?_
      refine l_aload_n d_L_areGroups_70 rfl ?_
      refine l_bipush d_L_areGroups_71 (by decide) ?_
      refine l_iload d_L_areGroups_73 rfl ?_
      refine l_iadd d_L_areGroups_75 ?_
      refine l_tld (hG.1) d_L_areGroups_76 (by omega) (by omega) ?_
      refine l_istore d_L_areGroups_77 (by decide) ?_
      refine l_goto (tgt := 45) d_L_areGroups_79 (by decide) ?_
      exact ih 1 (S 7 k) (by omega) hp.1 (by omega) (Or.inr rfl) (fun _ => q5 (by omega)) (fun z => by omega)
    · refine l_iload d_L_areGroups_56 rfl ?_
      refine l_iload d_L_areGroups_58 rfl ?_
      refine l_icmp_ne (tgt := 67) d_L_areGroups_60 (by decide) (by first | assumption | exact hR _ _ (by decide) | (unfold R32; omega)) (by first | assumption | exact hR _ _ (by decide) | (unfold R32; omega)) (fun z60 => ?_) (fun z60 => ?_)
      · refine l_iconst d_L_areGroups_67 ?_
        refine l_istore d_L_areGroups_68 (by decide) ?_
        refine l_aload_n d_L_areGroups_70 rfl ?_
        refine l_bipush d_L_areGroups_71 (by decide) ?_
        refine l_iload d_L_areGroups_73 rfl ?_
        refine l_iadd d_L_areGroups_75 ?_
        refine l_tld (hG.1) d_L_areGroups_76 (by omega) (by omega) ?_
        refine l_istore d_L_areGroups_77 (by decide) ?_
        refine l_goto (tgt := 45) d_L_areGroups_79 (by decide) ?_
        exact ih 0 (S 7 k) (by omega) hp.1 (by omega) (Or.inl rfl) (fun z => by omega) (fun _ => (q6 (by omega)).trans (bel_s hI.2.2.1 hI.2.1 p0 (by omega) q2 (by omega)))
      · refine l_iconst d_L_areGroups_63 ?_
        refine l_goto (tgt := 68) d_L_areGroups_64 (by decide) ?_
        refine l_istore d_L_areGroups_68 (by decide) ?_
        refine l_aload_n d_L_areGroups_70 rfl ?_
        refine l_bipush d_L_areGroups_71 (by decide) ?_
        refine l_iload d_L_areGroups_73 rfl ?_
        refine l_iadd d_L_areGroups_75 ?_
        refine l_tld (hG.1) d_L_areGroups_76 (by omega) (by omega) ?_
        refine l_istore d_L_areGroups_77 (by decide) ?_
        refine l_goto (tgt := 45) d_L_areGroups_79 (by decide) ?_
        exact ih 1 (S 7 k) (by omega) hp.1 (by omega) (Or.inr rfl) (fun _ => by rw [q6 (by omega), z60]; exact bel_eq S _) (fun z => by omega)
theorem W_gr2 {g : xG} {t u : Nat} {ad : cA} {S : gS} {ft fu : Int → Int} {p : Int} {Q : qL} {rc rs : Nat} (hL : LI S ft fu) (hE : Ext S) (p0 : 0 ≤ p) (p1 : p < S 6 0) (kk : ∀ v7 v8, lW g M_L_areGroups t u Q rc rs ad S ft fu 108 [some (.ref (g.2.2.2.2 5)), some (.ref t), some (.ref u), some (.int (iI 1)), some (.int (iI p)), some (.int (iI (memI S p))), some (.int (iI (S 11 0))), v7, v8] []) : ∀ (n k : Nat), (k : Int) + n = S 11 0 → ∀ v7 v8, lW g M_L_areGroups t u Q (n + rc) (6 * n + rs) ad S ft fu 24 [some (.ref (g.2.2.2.2 5)), some (.ref t), some (.ref u), some (.int (iI 1)), some (.int (iI p)), some (.int (iI (memN S p k))), some (.int (iI (k : Int))), v7, v8] [] := by
  have hI := hL.1.1
  have hR := hI.1
  have h0 := hE.h
  have h3 := hI.2.1.1
  have h6 := hI.2.1.2.1
  have h11 := hI.2.1.2.2.1
  have h23 := hI.2.1.2.2.2
  have hA := hL.2.2.2.1
  have hI6 := hI.2.2.2.2.2.2.1
  intro n
  induction n with
  | zero =>
    intro k hk v7 v8
    have hk1 : k = (S 11 0).toNat := by omega
    have hk2 : (k : Int) = S 11 0 := by omega
    refine l_mono (rc := rc) (rs := rs) ?_ (by omega) (by omega)
    rw [hk2, show memN S p k = memI S p by rw [hk1]; rfl]
    refine l_iload d_L_areGroups_24 rfl ?_
    refine l_aload_n d_L_areGroups_26 rfl ?_
    refine l_bipush d_L_areGroups_27 (by decide) ?_
    refine l_uld (hA.2.2.1) d_L_areGroups_29 (by omega) (by omega) ?_
    refine l_icmp_ge (tgt := 108) d_L_areGroups_30 (by decide) (by first | assumption | exact hR _ _ (by decide) | (unfold R32; omega)) (by first | assumption | exact hR _ _ (by decide) | (unfold R32; omega)) (fun z30 => ?_) (fun z30 => by exfalso; omega)
    exact kk v7 v8
  | succ n ih =>
    intro k hk v7 v8
    have hK := hL.2.2.2.2.2.2 (k : Int) (by omega) (by omega)
    have q4 := (hI.2.2.2.2.1 (k : Int) (by omega) (by omega)).2.1
    have hbl := bel_01 S (S 20 (k : Int)) p
    have e := ih (k + 1) (by omega) (some (.int (iI (bel S (S 20 (k : Int)) p)))) (some (.int (iI (-1))))
    have hm : memN S p (k + 1) = memN S p k + if bel S (S 20 (k : Int)) p = 1 then S 14 (k : Int) else 0 := rfl
    rw [show ((k + 1 : Nat) : Int) = (k : Int) + 1 by omega] at e
    refine l_iload d_L_areGroups_24 rfl ?_
    refine l_aload_n d_L_areGroups_26 rfl ?_
    refine l_bipush d_L_areGroups_27 (by decide) ?_
    refine l_uld (hA.2.2.1) d_L_areGroups_29 (by omega) (by omega) ?_
    refine l_icmp_ge (tgt := 108) d_L_areGroups_30 (by decide) (by first | assumption | exact hR _ _ (by decide) | (unfold R32; omega)) (by first | assumption | exact hR _ _ (by decide) | (unfold R32; omega)) (fun z30 => by exfalso; omega) (fun z30 => ?_)
    refine l_iconst d_L_areGroups_33 ?_
    refine l_istore d_L_areGroups_34 (by decide) ?_
    refine l_aload_n d_L_areGroups_36 rfl ?_
    refine l_bipush d_L_areGroups_37 (by decide) ?_
    refine l_iload d_L_areGroups_39 rfl ?_
    refine l_iadd d_L_areGroups_41 ?_
    refine l_tld (hK.1) d_L_areGroups_42 (by omega) (by omega) ?_
    refine l_istore d_L_areGroups_43 (by decide) ?_
    refine W_gr1 (n := 9) hL p0 p1 (by omega) (by omega) ?_ 0 (S 20 (k : Int)) (by omega) (by omega) q4.2 (Or.inl rfl) (fun z => by omega) (fun _ => rfl)
    refine l_iload d_L_areGroups_82 rfl ?_
    refine l_iload d_L_areGroups_84 rfl ?_
    refine l_if_eq (tgt := 98) d_L_areGroups_86 (by decide) (by first | assumption | exact hR _ _ (by decide) | (unfold R32; omega)) (fun z86 => ?_) (fun z86 => ?_)
    · refine l_iconst d_L_areGroups_98 ?_
      refine l_iadd d_L_areGroups_99 ?_
      refine l_istore d_L_areGroups_100 (by decide) ?_
      refine l_iinc d_L_areGroups_102 rfl (by decide) ?_
      refine l_goto (tgt := 24) d_L_areGroups_105 (by decide) ?_
      rw [if_neg (by omega)] at hm
      rw [hm] at e
      exact l_mono e (by show n + rc ≤ n + 1 + rc; omega) (by show 6 * n + rs ≤ 6 * (n + 1) + rs; omega)
    · refine l_aload_n d_L_areGroups_89 rfl ?_
      refine l_iload d_L_areGroups_90 rfl ?_
      refine l_callH (rc' := n + rc) (rs' := 6 * n + rs) d_L_areGroups_92 q_L_areGroups_53 s_h_memoryOf v_h_memoryOf (t_h_memoryOf hI hE (by first | assumption | exact hR _ _ (by decide) | (unfold R32; omega))) (opX.no (show cd_memoryOf S ((k : Int)) = 0 by unfold cd_memoryOf; (repeat' split) <;> omega)) h0 rfl rfl rfl (Nat.le_of_ble_eq_true rfl) rfl (by show n + 1 + rc = n + rc + 1; omega) (by show 6 * (n + 1) + rs = 6 * n + rs + 6; omega) ?_
      rintro _ _ _ ⟨-, rfl, rfl, rfl⟩
      refine l_eqv (v := vl_memoryOf S ((k : Int))) (w := S 14 (k : Int)) rfl ?_
      refine l_goto (tgt := 99) d_L_areGroups_95 (by decide) ?_
      refine l_iadd d_L_areGroups_99 ?_
      refine l_istore d_L_areGroups_100 (by decide) ?_
      refine l_iinc d_L_areGroups_102 rfl (by decide) ?_
      refine l_goto (tgt := 24) d_L_areGroups_105 (by decide) ?_
      rw [if_pos (by omega)] at hm
      rw [hm] at e
      exact e
theorem W_gr3 {g : xG} {t u : Nat} {ad : cA} {S : gS} {ft fu : Int → Int} (hL : LI S ft fu) (hE : Ext S) : ∀ (n k : Nat), (k : Int) + n = S 6 0 → ∀ v5 v6 v7 v8, lW g M_L_areGroups t u (qSame S ad ft fu) (23 * n) (138 * n) ad S ft fu 5 [some (.ref (g.2.2.2.2 5)), some (.ref t), some (.ref u), some (.int (iI 1)), some (.int (iI (k : Int))), v5, v6, v7, v8] [] := by
  have hI := hL.1.1
  have hR := hI.1
  have h0 := hE.h
  have h3 := hI.2.1.1
  have h6 := hI.2.1.2.1
  have h11 := hI.2.1.2.2.1
  have h23 := hI.2.1.2.2.2
  have hA := hL.2.2.2.1
  have hI6 := hI.2.2.2.2.2.2.1
  intro n
  induction n with
  | zero =>
    intro k hk v5 v6 v7 v8
    refine l_iload d_L_areGroups_5 rfl ?_
    refine l_aload_n d_L_areGroups_7 rfl ?_
    refine l_bipush d_L_areGroups_8 (by decide) ?_
    refine l_uld (hA.2.1) d_L_areGroups_10 (by omega) (by omega) ?_
    refine l_icmp_ge (tgt := 168) d_L_areGroups_11 (by decide) (by first | assumption | exact hR _ _ (by decide) | (unfold R32; omega)) (by first | assumption | exact hR _ _ (by decide) | (unfold R32; omega)) (fun z11 => ?_) (fun z11 => by exfalso; omega)
    refine l_iload_n d_L_areGroups_168 rfl ?_
    exact l_zret rfl (Or.inr rfl) d_L_areGroups_169 (⟨rfl, rfl, rfl, rfl, rfl⟩)
  | succ n ih =>
    intro k hk v5 v6 v7 v8
    have hG := hL.2.2.2.2.2.1 (k : Int) (by omega) (by omega)
    have hM := hL.2.1 (k : Int) (by omega) (by omega)
    have hX := hL.1.2.1 (k : Int) (by omega) (by omega)
    have hmb := memI_b hI (k : Int)
    have hpb := prcI_b hI (k : Int)
    refine l_iload d_L_areGroups_5 rfl ?_
    refine l_aload_n d_L_areGroups_7 rfl ?_
    refine l_bipush d_L_areGroups_8 (by decide) ?_
    refine l_uld (hA.2.1) d_L_areGroups_10 (by omega) (by omega) ?_
    refine l_icmp_ge (tgt := 168) d_L_areGroups_11 (by decide) (by first | assumption | exact hR _ _ (by decide) | (unfold R32; omega)) (by first | assumption | exact hR _ _ (by decide) | (unfold R32; omega)) (fun z11 => by exfalso; omega) (fun z11 => ?_)
    refine l_iload_n d_L_areGroups_14 rfl ?_
    refine l_if_eq (tgt := 168) d_L_areGroups_15 (by decide) (by first | assumption | exact hR _ _ (by decide) | (unfold R32; omega)) (fun z15 => by exfalso; omega) (fun z15 => ?_)
    refine l_iconst d_L_areGroups_18 ?_
    refine l_istore d_L_areGroups_19 (by decide) ?_
    refine l_iconst d_L_areGroups_21 ?_
    refine l_istore d_L_areGroups_22 (by decide) ?_
    refine l_mono (rc := (S 11 0).toNat + (23 * n + 3)) (rs := 6 * (S 11 0).toNat + (138 * n + 18)) ?_ (by omega) (by omega)
    refine W_gr2 (p := (k : Int)) hL hE (by omega) (by omega) ?_ (S 11 0).toNat 0 (by omega) v7 v8
    intro v7 v8
    refine l_aload_n d_L_areGroups_108 rfl ?_
    refine l_iload d_L_areGroups_109 rfl ?_
    refine l_callH (rc' := 23 * n + 2) (rs' := 138 * n + 12) d_L_areGroups_111 q_L_areGroups_33 s_h_groupMemory v_h_groupMemory (t_h_groupMemory hI hE (by first | assumption | exact hR _ _ (by decide) | (unfold R32; omega))) (opX.no (show cd_groupMemory S ((k : Int)) = 0 by unfold cd_groupMemory; (repeat' split) <;> omega)) h0 rfl rfl rfl (Nat.le_of_ble_eq_true rfl) rfl (by show 23 * n + 3 = 23 * n + 2 + 1; omega) (by show 138 * n + 18 = 138 * n + 12 + 6; omega) ?_
    rintro _ _ _ ⟨-, rfl, rfl, rfl⟩
    refine l_eqv (v := vl_groupMemory S ((k : Int))) (w := memI S (k : Int)) rfl ?_
    refine l_iload d_L_areGroups_114 rfl ?_
    refine l_icmp_ne (tgt := 160) d_L_areGroups_116 (by decide) (by first | assumption | exact hR _ _ (by decide) | (unfold R32; omega)) (by first | assumption | exact hR _ _ (by decide) | (unfold R32; omega)) (fun z116 => absurd rfl z116) (fun z116 => ?_)
    refine l_iload d_L_areGroups_119 rfl ?_
    refine l_aload_n d_L_areGroups_121 rfl ?_
    refine l_bipush d_L_areGroups_122 (by decide) ?_
    refine l_iload d_L_areGroups_124 rfl ?_
    refine l_iadd d_L_areGroups_126 ?_
    refine l_tld (hG.2.1) d_L_areGroups_127 (by omega) (by omega) ?_
    refine l_icmp_gt (tgt := 160) d_L_areGroups_128 (by decide) (by first | assumption | exact hR _ _ (by decide) | (unfold R32; omega)) (by first | assumption | exact hR _ _ (by decide) | (unfold R32; omega)) (fun z128 => by exfalso; omega) (fun z128 => ?_)
    refine l_aload_n d_L_areGroups_131 rfl ?_
    refine l_iload d_L_areGroups_132 rfl ?_
    refine l_callH (rc' := 23 * n + 1) (rs' := 138 * n + 6) d_L_areGroups_134 q_L_areGroups_36 s_h_groupProcesses v_h_groupProcesses (t_h_groupProcesses hI hE (by first | assumption | exact hR _ _ (by decide) | (unfold R32; omega))) (opX.no (show cd_groupProcesses S ((k : Int)) = 0 by unfold cd_groupProcesses; (repeat' split) <;> omega)) h0 rfl rfl rfl (Nat.le_of_ble_eq_true rfl) rfl (by show 23 * n + 2 = 23 * n + 1 + 1; omega) (by show 138 * n + 12 = 138 * n + 6 + 6; omega) ?_
    rintro _ _ _ ⟨-, rfl, rfl, rfl⟩
    refine l_eqv (v := vl_groupProcesses S ((k : Int))) (w := prcI S (k : Int)) rfl ?_
    refine l_aload_n d_L_areGroups_137 rfl ?_
    refine l_bipush d_L_areGroups_138 (by decide) ?_
    refine l_iload d_L_areGroups_140 rfl ?_
    refine l_iadd d_L_areGroups_142 ?_
    refine l_tld (hG.2.2) d_L_areGroups_143 (by omega) (by omega) ?_
    refine l_icmp_gt (tgt := 160) d_L_areGroups_144 (by decide) (by first | assumption | exact hR _ _ (by decide) | (unfold R32; omega)) (by first | assumption | exact hR _ _ (by decide) | (unfold R32; omega)) (fun z144 => by exfalso; omega) (fun z144 => ?_)
    refine l_aload_n d_L_areGroups_147 rfl ?_
    refine l_iload d_L_areGroups_148 rfl ?_
    refine l_callH (rc' := 23 * n + 0) (rs' := 138 * n + 0) d_L_areGroups_150 q_L_areGroups_36 s_h_groupProcesses v_h_groupProcesses (t_h_groupProcesses hI hE (by first | assumption | exact hR _ _ (by decide) | (unfold R32; omega))) (opX.no (show cd_groupProcesses S ((k : Int)) = 0 by unfold cd_groupProcesses; (repeat' split) <;> omega)) h0 rfl rfl rfl (Nat.le_of_ble_eq_true rfl) rfl (by show 23 * n + 1 = 23 * n + 0 + 1; omega) (by show 138 * n + 6 = 138 * n + 0 + 6; omega) ?_
    rintro _ _ _ ⟨-, rfl, rfl, rfl⟩
    refine l_eqv (v := vl_groupProcesses S ((k : Int))) (w := prcI S (k : Int)) rfl ?_
    refine l_if_lt (tgt := 160) d_L_areGroups_153 (by decide) (by first | assumption | exact hR _ _ (by decide) | (unfold R32; omega)) (fun z153 => by exfalso; omega) (fun z153 => ?_)
    refine l_iconst d_L_areGroups_156 ?_
    refine l_goto (tgt := 161) d_L_areGroups_157 (by decide) ?_
    refine l_istore_n d_L_areGroups_161 (by decide) ?_
    refine l_iinc d_L_areGroups_162 rfl (by decide) ?_
    refine l_goto (tgt := 5) d_L_areGroups_165 (by decide) ?_
    have e := ih (k + 1) (by omega) (some (.int (iI (memI S (k : Int))))) (some (.int (iI (S 11 0)))) v7 v8
    rw [show ((k + 1 : Nat) : Int) = (k : Int) + 1 by omega] at e
    exact e
theorem t_L_areGroups {g : xG} {t u : Nat} {ad : cA} {S : gS} {ft fu : Int → Int} (hL : LI S ft fu) (hE : Ext S) : lM g y_L_areGroups k_L_areGroups M_L_areGroups t u [.ref (g.2.2.2.2 5), .ref t, .ref u] ad S ft fu (qSame S ad ft fu) := by
  refine lM.of rfl (by decide) rfl rfl rfl (by simp [Value.category]) (Nat.le_of_ble_eq_true rfl) rfl ?_
  have h6 := hL.1.1.2.1.2.1
  refine l_iconst d_L_areGroups_0 ?_
  refine l_istore_n d_L_areGroups_1 (by decide) ?_
  refine l_iconst d_L_areGroups_2 ?_
  refine l_istore d_L_areGroups_3 (by decide) ?_
  exact l_mono (W_gr3 hL hE (S 6 0).toNat 0 (by omega) none none none none) (by show 23 * (S 6 0).toNat ≤ 204; omega) (by show 138 * (S 6 0).toNat ≤ 1224; omega)
theorem W_co1 {g : xG} {t u : Nat} {ad : cA} {S : gS} {ft fu : Int → Int} {c : Int} {Q : qL} {rc rs : Nat} (hL : LI S ft fu) (hE : Ext S) (c0 : 0 ≤ c) (c1 : c < S 11 0) (kk : ∀ v4, lW g M_L_areContainers t u Q rc rs ad S ft fu 141 [some (.ref (g.2.2.2.2 5)), some (.int (iI 1)), some (.int (iI c)), some (.int (iI (S 21 c))), v4] []) : ∀ n k : Nat, (k : Int) + n = c → lW g M_L_areContainers t u Q (n + rc) (6 * n + rs) ad S ft fu 104 [some (.ref (g.2.2.2.2 5)), some (.int (iI 1)), some (.int (iI c)), some (.int (iI (S 21 c))), some (.int (iI (k : Int)))] [] := by
  have hI := hL.1.1
  have hR := hI.1
  have h0 := hE.h
  have h3 := hI.2.1.1
  have h6 := hI.2.1.2.1
  have h11 := hI.2.1.2.2.1
  have h23 := hI.2.1.2.2.2
  have hA := hL.2.2.2.1
  have hI6 := hI.2.2.2.2.2.2.1
  intro n
  induction n with
  | zero =>
    intro k hk
    refine l_mono (rc := rc) (rs := rs) ?_ (by omega) (by omega)
    refine l_iload d_L_areContainers_104 rfl ?_
    refine l_iload_n d_L_areContainers_106 rfl ?_
    refine l_icmp_ge (tgt := 141) d_L_areContainers_107 (by decide) (by first | assumption | exact hR _ _ (by decide) | (unfold R32; omega)) (by first | assumption | exact hR _ _ (by decide) | (unfold R32; omega)) (fun z107 => ?_) (fun z107 => by exfalso; omega)
    exact kk _
  | succ n ih =>
    intro k hk
    have hd : S 21 c ≠ -1 → S 21 (k : Int) ≠ S 21 c := fun z y => hL.1.2.2.1 c (k : Int) c0 c1 (by omega) (by omega) (by omega) z y.symm
    have e := ih (k + 1) (by omega)
    rw [show ((k + 1 : Nat) : Int) = (k : Int) + 1 by omega] at e
    refine l_iload d_L_areContainers_104 rfl ?_
    refine l_iload_n d_L_areContainers_106 rfl ?_
    refine l_icmp_ge (tgt := 141) d_L_areContainers_107 (by decide) (by first | assumption | exact hR _ _ (by decide) | (unfold R32; omega)) (by first | assumption | exact hR _ _ (by decide) | (unfold R32; omega)) (fun z107 => by exfalso; omega) (fun z107 => ?_)
    refine l_iload_n d_L_areContainers_110 rfl ?_
    refine l_if_eq (tgt := 133) d_L_areContainers_111 (by decide) (by first | assumption | exact hR _ _ (by decide) | (unfold R32; omega)) (fun z111 => by exfalso; omega) (fun z111 => ?_)
    refine l_iload_n d_L_areContainers_114 rfl ?_
    refine l_iconst d_L_areContainers_115 ?_
    refine l_icmp_eq (tgt := 129) d_L_areContainers_116 (by decide) (by first | assumption | exact hR _ _ (by decide) | (unfold R32; omega)) (by first | assumption | exact hR _ _ (by decide) | (unfold R32; omega)) (fun z116 => ?_) (fun z116 => ?_)
    · refine l_iconst d_L_areContainers_129 ?_
      refine l_goto (tgt := 134) d_L_areContainers_130 (by decide) ?_
      refine l_istore_n d_L_areContainers_134 (by decide) ?_
      refine l_iinc d_L_areContainers_135 rfl (by decide) ?_
      refine l_goto (tgt := 104) d_L_areContainers_138 (by decide) ?_
      exact l_mono e (by show n + rc ≤ n + 1 + rc; omega) (by show 6 * n + rs ≤ 6 * (n + 1) + rs; omega)
    · refine l_aload_n d_L_areContainers_119 rfl ?_
      refine l_iload d_L_areContainers_120 rfl ?_
      refine l_callH (rc' := n + rc) (rs' := 6 * n + rs) d_L_areContainers_122 q_L_areContainers_59 s_h_addressOf v_h_addressOf (t_h_addressOf hI hE (by first | assumption | exact hR _ _ (by decide) | (unfold R32; omega))) (opX.no (show cd_addressOf S ((k : Int)) = 0 by unfold cd_addressOf; (repeat' split) <;> omega)) h0 rfl rfl rfl (Nat.le_of_ble_eq_true rfl) rfl (by show n + 1 + rc = n + rc + 1; omega) (by show 6 * (n + 1) + rs = 6 * n + rs + 6; omega) ?_
      rintro _ _ _ ⟨-, rfl, rfl, rfl⟩
      refine l_eqv (v := vl_addressOf S ((k : Int))) (w := S 21 (k : Int)) rfl ?_
      refine l_iload_n d_L_areContainers_125 rfl ?_
      refine l_icmp_eq (tgt := 133) d_L_areContainers_126 (by decide) (by first | assumption | exact hR _ _ (by decide) | (unfold R32; omega)) (by first | assumption | exact hR _ _ (by decide) | (unfold R32; omega)) (fun z126 => absurd z126 (hd (by omega))) (fun z126 => ?_)
      refine l_iconst d_L_areContainers_129 ?_
      refine l_goto (tgt := 134) d_L_areContainers_130 (by decide) ?_
      refine l_istore_n d_L_areContainers_134 (by decide) ?_
      refine l_iinc d_L_areContainers_135 rfl (by decide) ?_
      refine l_goto (tgt := 104) d_L_areContainers_138 (by decide) ?_
      exact e
theorem W_co2 {g : xG} {t u : Nat} {ad : cA} {S : gS} {ft fu : Int → Int} {c : Int} {v3 : Option Value} {Q : qL} {rc rs : Nat} (hL : LI S ft fu) (hE : Ext S) (c0 : 0 ≤ c) (c1 : c < S 11 0) (kk : ∀ v4, lW g M_L_areContainers t u Q rc rs ad S ft fu 184 [some (.ref (g.2.2.2.2 5)), some (.int (iI 1)), some (.int (iI c)), v3, v4] []) : ∀ n k : Nat, k + n = 32 → lW g M_L_areContainers t u Q (4 * n + rc) (24 * n + rs) ad S ft fu 144 [some (.ref (g.2.2.2.2 5)), some (.int (iI 1)), some (.int (iI c)), v3, some (.int (iI (k : Int)))] [] := by
  have hI := hL.1.1
  have hR := hI.1
  have h0 := hE.h
  have h3 := hI.2.1.1
  have h6 := hI.2.1.2.1
  have h11 := hI.2.1.2.2.1
  have h23 := hI.2.1.2.2.2
  have hA := hL.2.2.2.1
  have hI6 := hI.2.2.2.2.2.2.1
  intro n
  induction n with
  | zero =>
    intro k hk
    refine l_mono (rc := rc) (rs := rs) ?_ (by omega) (by omega)
    refine l_iload d_L_areContainers_144 rfl ?_
    refine l_bipush d_L_areContainers_146 (by decide) ?_
    refine l_icmp_ge (tgt := 184) d_L_areContainers_148 (by decide) (by first | assumption | exact hR _ _ (by decide) | (unfold R32; omega)) (by first | assumption | exact hR _ _ (by decide) | (unfold R32; omega)) (fun z148 => ?_) (fun z148 => by exfalso; omega)
    exact kk _
  | succ n ih =>
    intro k hk
    have hse := csee_b hI c (k : Int)
    have e := ih (k + 1) (by omega)
    rw [show ((k + 1 : Nat) : Int) = (k : Int) + 1 by omega] at e
    refine l_iload d_L_areContainers_144 rfl ?_
    refine l_bipush d_L_areContainers_146 (by decide) ?_
    refine l_icmp_ge (tgt := 184) d_L_areContainers_148 (by decide) (by first | assumption | exact hR _ _ (by decide) | (unfold R32; omega)) (by first | assumption | exact hR _ _ (by decide) | (unfold R32; omega)) (fun z148 => by exfalso; omega) (fun z148 => ?_)
    refine l_iload_n d_L_areContainers_151 rfl ?_
    refine l_if_eq (tgt := 184) d_L_areContainers_152 (by decide) (by first | assumption | exact hR _ _ (by decide) | (unfold R32; omega)) (fun z152 => by exfalso; omega) (fun z152 => ?_)
    refine l_aload_n d_L_areContainers_155 rfl ?_
    refine l_iload_n d_L_areContainers_156 rfl ?_
    refine l_iload d_L_areContainers_157 rfl ?_
    refine l_callH (rc' := 4 * n + rc + 2) (rs' := 24 * n + rs + 12) d_L_areContainers_159 q_L_areContainers_65 s_h_fileOf v_h_fileOf (t_h_fileOf hI hE (by first | assumption | exact hR _ _ (by decide) | (unfold R32; omega)) (by first | assumption | exact hR _ _ (by decide) | (unfold R32; omega))) (opX.no (show cd_fileOf S (c) ((k : Int)) = 0 by unfold cd_fileOf; (repeat' split) <;> omega)) h0 rfl rfl rfl (Nat.le_of_ble_eq_true rfl) rfl (by show 4 * (n + 1) + rc = 4 * n + rc + 2 + 2; omega) (by show 24 * (n + 1) + rs = 24 * n + rs + 12 + 12; omega) ?_
    rintro _ _ _ ⟨-, rfl, rfl, rfl⟩
    refine l_eqv (v := vl_fileOf S (c) ((k : Int))) (w := csee S c (k : Int)) rfl ?_
    refine l_aload_n d_L_areContainers_162 rfl ?_
    refine l_iload_n d_L_areContainers_163 rfl ?_
    refine l_iload d_L_areContainers_164 rfl ?_
    refine l_callH (rc' := 4 * n + rc) (rs' := 24 * n + rs) d_L_areContainers_166 q_L_areContainers_176 s_h_plainFileOf v_h_plainFileOf (t_h_plainFileOf hI hE (by first | assumption | exact hR _ _ (by decide) | (unfold R32; omega)) (by first | assumption | exact hR _ _ (by decide) | (unfold R32; omega))) (opX.no (show cd_plainFileOf S (c) ((k : Int)) = 0 by unfold cd_plainFileOf; (repeat' split) <;> omega)) h0 rfl rfl rfl (Nat.le_of_ble_eq_true rfl) rfl (by show 4 * n + rc + 2 = 4 * n + rc + 2; omega) (by show 24 * n + rs + 12 = 24 * n + rs + 12; omega) ?_
    rintro _ _ _ ⟨-, rfl, rfl, rfl⟩
    refine l_eqv (v := vl_plainFileOf S (c) ((k : Int))) (w := csee S c (k : Int)) rfl ?_
    refine l_icmp_ne (tgt := 176) d_L_areContainers_169 (by decide) (by first | assumption | exact hR _ _ (by decide) | (unfold R32; omega)) (by first | assumption | exact hR _ _ (by decide) | (unfold R32; omega)) (fun z169 => absurd rfl z169) (fun z169 => ?_)
    refine l_iconst d_L_areContainers_172 ?_
    refine l_goto (tgt := 177) d_L_areContainers_173 (by decide) ?_
    refine l_istore_n d_L_areContainers_177 (by decide) ?_
    refine l_iinc d_L_areContainers_178 rfl (by decide) ?_
    refine l_goto (tgt := 144) d_L_areContainers_181 (by decide) ?_
    exact e
theorem W_co3 {g : xG} {t u : Nat} {ad : cA} {S : gS} {ft fu : Int → Int} (hL : LI S ft fu) (hE : Ext S) : ∀ (n k : Nat), (k : Int) + n = S 11 0 → ∀ v3 v4, lW g M_L_areContainers t u (qSame S ad ft fu) (160 * n) (960 * n) ad S ft fu 4 [some (.ref (g.2.2.2.2 5)), some (.int (iI 1)), some (.int (iI (k : Int))), v3, v4] [] := by
  have hI := hL.1.1
  have hR := hI.1
  have h0 := hE.h
  have h3 := hI.2.1.1
  have h6 := hI.2.1.2.1
  have h11 := hI.2.1.2.2.1
  have h23 := hI.2.1.2.2.2
  have hA := hL.2.2.2.1
  have hI6 := hI.2.2.2.2.2.2.1
  intro n
  induction n with
  | zero =>
    intro k hk v3 v4
    refine l_iload_n d_L_areContainers_4 rfl ?_
    refine l_aload_n d_L_areContainers_5 rfl ?_
    refine l_callH d_L_areContainers_6 q_L_areContainers_46 s_h_containers v_h_containers (t_h_containers (QX := cN) hE) (fun _ _ _ z => z) h0 rfl rfl rfl (Nat.le_of_ble_eq_true rfl) rfl rfl rfl ?_
    rintro _ _ _ ⟨rfl, rfl, rfl⟩
    refine l_icmp_ge (tgt := 190) d_L_areContainers_9 (by decide) (by first | assumption | exact hR _ _ (by decide) | (unfold R32; omega)) (by first | assumption | exact hR _ _ (by decide) | (unfold R32; omega)) (fun z9 => ?_) (fun z9 => by exfalso; omega)
    refine l_iload_n d_L_areContainers_190 rfl ?_
    exact l_zret rfl (Or.inr rfl) d_L_areContainers_191 (⟨rfl, rfl, rfl, rfl, rfl⟩)
  | succ n ih =>
    intro k hk v3 v4
    have q4 := hI.2.2.2.2.1 (k : Int) (by omega) (by omega)
    have qc := hI.2.2.2.1 (k : Int) (Or.inl ⟨by omega, by omega⟩)
    have ha0 := qc.2.2.2.2.1
    have hb0 := qc.2.2.2.2.2.1
    have hs := hL.2.2.1 (k : Int) (Or.inl ⟨by omega, by omega⟩)
    have k95 : lW g M_L_areContainers t u (qSame S ad ft fu) (160 * n + 150) (960 * n + 900) ad S ft fu 95 [some (.ref (g.2.2.2.2 5)), some (.int (iI 1)), some (.int (iI (k : Int))), some (.int (iI (S 21 (k : Int)))), v4] [] := by
      refine l_iconst d_L_areContainers_95 ?_
      refine l_goto (tgt := 100) d_L_areContainers_96 (by decide) ?_
      refine l_istore_n d_L_areContainers_100 (by decide) ?_
      refine l_iconst d_L_areContainers_101 ?_
      refine l_istore d_L_areContainers_102 (by decide) ?_
      refine l_mono (rc := k + (160 * n + 128)) (rs := 6 * k + (960 * n + 768)) ?_ (by omega) (by omega)
      refine W_co1 (c := (k : Int)) hL hE (by omega) (by omega) (fun v9 => ?_) k 0 (by omega)
      refine l_iconst d_L_areContainers_141 ?_
      refine l_istore d_L_areContainers_142 (by decide) ?_
      refine l_mono (rc := 4 * 32 + 160 * n) (rs := 24 * 32 + 960 * n) ?_ (by omega) (by omega)
      refine W_co2 (c := (k : Int)) hL hE (by omega) (by omega) (fun v9 => ?_) 32 0 (by omega)
      refine l_iinc d_L_areContainers_184 rfl (by decide) ?_
      refine l_goto (tgt := 4) d_L_areContainers_187 (by decide) ?_
      have e := ih (k + 1) (by omega) (some (.int (iI (S 21 (k : Int))))) v9
      rw [show ((k + 1 : Nat) : Int) = (k : Int) + 1 by omega] at e
      exact e
    have k44 : lW g M_L_areContainers t u (qSame S ad ft fu) (160 * n + 152) (960 * n + 912) ad S ft fu 44 [some (.ref (g.2.2.2.2 5)), some (.int (iI 1)), some (.int (iI (k : Int))), some (.int (iI (S 21 (k : Int)))), v4] [] := by
      refine l_aload_n d_L_areContainers_44 rfl ?_
      refine l_iload_n d_L_areContainers_45 rfl ?_
      refine l_callH (rc' := 160 * n + 151) (rs' := 960 * n + 906) d_L_areContainers_46 q_L_areContainers_62 s_h_capabilitiesOf v_h_capabilitiesOf (t_h_capabilitiesOf hI hE (by first | assumption | exact hR _ _ (by decide) | (unfold R32; omega))) (opX.no (show cd_capabilitiesOf S ((k : Int)) = 0 by unfold cd_capabilitiesOf; (repeat' split) <;> omega)) h0 rfl rfl rfl (Nat.le_of_ble_eq_true rfl) rfl (by show 160 * n + 152 = 160 * n + 151 + 1; omega) (by show 960 * n + 912 = 960 * n + 906 + 6; omega) ?_
      rintro _ _ _ ⟨-, rfl, rfl, rfl⟩
      refine l_eqv (v := vl_capabilitiesOf S ((k : Int))) (w := 16 * S 16 (k : Int) + S 17 (k : Int)) rfl ?_
      refine l_bipush d_L_areContainers_49 (by decide) ?_
      refine l_iand d_L_areContainers_51 (cap15 ha0.1 ha0.2 hb0.1 hb0.2) ?_
      refine l_aload_n d_L_areContainers_52 rfl ?_
      refine l_iload_n d_L_areContainers_53 rfl ?_
      refine l_callH (rc' := 160 * n + 150) (rs' := 960 * n + 900) d_L_areContainers_54 q_L_areContainers_62 s_h_capabilitiesOf v_h_capabilitiesOf (t_h_capabilitiesOf hI hE (by first | assumption | exact hR _ _ (by decide) | (unfold R32; omega))) (opX.no (show cd_capabilitiesOf S ((k : Int)) = 0 by unfold cd_capabilitiesOf; (repeat' split) <;> omega)) h0 rfl rfl rfl (Nat.le_of_ble_eq_true rfl) rfl (by show 160 * n + 151 = 160 * n + 150 + 1; omega) (by show 960 * n + 906 = 960 * n + 900 + 6; omega) ?_
      rintro _ _ _ ⟨-, rfl, rfl, rfl⟩
      refine l_eqv (v := vl_capabilitiesOf S ((k : Int))) (w := 16 * S 16 (k : Int) + S 17 (k : Int)) rfl ?_
      refine l_iconst d_L_areContainers_57 ?_
      refine l_ishrI d_L_areContainers_58 (by omega) (by omega) (by decide) (by decide) ?_
      refine l_eqv (v := (16 * S 16 (k : Int) + S 17 (k : Int)) / 2 ^ (4 : Int).toNat) (w := S 16 (k : Int)) (capH ha0.1 hb0.1 hb0.2) ?_
      refine l_iconst d_L_areContainers_59 ?_
      refine l_inot d_L_areContainers_60 ?_
      refine l_iand d_L_areContainers_61 (capS ha0.1 ha0.2 hb0.1 hb0.2 hs) ?_
      refine l_if_ne (tgt := 99) d_L_areContainers_62 (by decide) (by first | assumption | exact hR _ _ (by decide) | (unfold R32; omega)) (fun z62 => by exfalso; omega) (fun z62 => ?_)
      refine l_iload_n d_L_areContainers_65 rfl ?_
      refine l_iconst d_L_areContainers_66 ?_
      refine l_icmp_eq (tgt := 95) d_L_areContainers_67 (by decide) (by first | assumption | exact hR _ _ (by decide) | (unfold R32; omega)) (by first | assumption | exact hR _ _ (by decide) | (unfold R32; omega)) (fun z67 => ?_) (fun z67 => ?_)
      · exact k95
      · refine l_iload_n d_L_areContainers_70 rfl ?_
        refine l_bipush d_L_areContainers_71 (by decide) ?_
        refine l_iremI d_L_areContainers_73 (by omega) (by first | assumption | exact hR _ _ (by decide) | (unfold R32; omega)) (by omega) (by first | assumption | exact hR _ _ (by decide) | (unfold R32; omega)) ?_
        refine l_iconst d_L_areContainers_74 ?_
        refine l_icmp_lt (tgt := 99) d_L_areContainers_75 (by decide) (by first | assumption | exact hR _ _ (by decide) | (unfold R32; omega)) (by first | assumption | exact hR _ _ (by decide) | (unfold R32; omega)) (fun z75 => by exfalso; omega) (fun z75 => ?_)
        refine l_iload_n d_L_areContainers_78 rfl ?_
        refine l_bipush d_L_areContainers_79 (by decide) ?_
        refine l_iremI d_L_areContainers_81 (by omega) (by first | assumption | exact hR _ _ (by decide) | (unfold R32; omega)) (by omega) (by first | assumption | exact hR _ _ (by decide) | (unfold R32; omega)) ?_
        refine l_bipush d_L_areContainers_82 (by decide) ?_
        refine l_icmp_gt (tgt := 99) d_L_areContainers_84 (by decide) (by first | assumption | exact hR _ _ (by decide) | (unfold R32; omega)) (by first | assumption | exact hR _ _ (by decide) | (unfold R32; omega)) (fun z84 => by exfalso; omega) (fun z84 => ?_)
        refine l_iload_n d_L_areContainers_87 rfl ?_
        refine l_bipush d_L_areContainers_88 (by decide) ?_
        refine l_idivI d_L_areContainers_90 (by omega) (by first | assumption | exact hR _ _ (by decide) | (unfold R32; omega)) (by omega) (by first | assumption | exact hR _ _ (by decide) | (unfold R32; omega)) ?_
        refine l_iconst d_L_areContainers_91 ?_
        refine l_icmp_gt (tgt := 99) d_L_areContainers_92 (by decide) (by first | assumption | exact hR _ _ (by decide) | (unfold R32; omega)) (by first | assumption | exact hR _ _ (by decide) | (unfold R32; omega)) (fun z92 => by exfalso; omega) (fun z92 => ?_)
        exact k95
    refine l_mono (rc := 160 * n + 155) (rs := 960 * n + 930) ?_ (by omega) (by omega)
    refine l_iload_n d_L_areContainers_4 rfl ?_
    refine l_aload_n d_L_areContainers_5 rfl ?_
    refine l_callH d_L_areContainers_6 q_L_areContainers_46 s_h_containers v_h_containers (t_h_containers (QX := cN) hE) (fun _ _ _ z => z) h0 rfl rfl rfl (Nat.le_of_ble_eq_true rfl) rfl rfl rfl ?_
    rintro _ _ _ ⟨rfl, rfl, rfl⟩
    refine l_icmp_ge (tgt := 190) d_L_areContainers_9 (by decide) (by first | assumption | exact hR _ _ (by decide) | (unfold R32; omega)) (by first | assumption | exact hR _ _ (by decide) | (unfold R32; omega)) (fun z9 => by exfalso; omega) (fun z9 => ?_)
    refine l_iload_n d_L_areContainers_12 rfl ?_
    refine l_if_eq (tgt := 190) d_L_areContainers_13 (by decide) (by first | assumption | exact hR _ _ (by decide) | (unfold R32; omega)) (fun z13 => by exfalso; omega) (fun z13 => ?_)
    refine l_aload_n d_L_areContainers_16 rfl ?_
    refine l_iload_n d_L_areContainers_17 rfl ?_
    refine l_callH (rc' := 160 * n + 154) (rs' := 960 * n + 924) d_L_areContainers_18 q_L_areContainers_59 s_h_addressOf v_h_addressOf (t_h_addressOf hI hE (by first | assumption | exact hR _ _ (by decide) | (unfold R32; omega))) (opX.no (show cd_addressOf S ((k : Int)) = 0 by unfold cd_addressOf; (repeat' split) <;> omega)) h0 rfl rfl rfl (Nat.le_of_ble_eq_true rfl) rfl (by show 160 * n + 155 = 160 * n + 154 + 1; omega) (by show 960 * n + 930 = 960 * n + 924 + 6; omega) ?_
    rintro _ _ _ ⟨-, rfl, rfl, rfl⟩
    refine l_eqv (v := vl_addressOf S ((k : Int))) (w := S 21 (k : Int)) rfl ?_
    refine l_istore_n d_L_areContainers_21 (by decide) ?_
    refine l_aload_n d_L_areContainers_22 rfl ?_
    refine l_iload_n d_L_areContainers_23 rfl ?_
    refine l_callH (rc' := 160 * n + 153) (rs' := 960 * n + 918) d_L_areContainers_24 q_L_areContainers_50 s_h_stateOf v_h_stateOf (t_h_stateOf hI hE (by first | assumption | exact hR _ _ (by decide) | (unfold R32; omega))) (opX.no (show cd_stateOf S ((k : Int)) = 0 by unfold cd_stateOf; (repeat' split) <;> omega)) h0 rfl rfl rfl (Nat.le_of_ble_eq_true rfl) rfl (by show 160 * n + 154 = 160 * n + 153 + 1; omega) (by show 960 * n + 924 = 960 * n + 918 + 6; omega) ?_
    rintro _ _ _ ⟨-, rfl, rfl, rfl⟩
    refine l_eqv (v := vl_stateOf S ((k : Int))) (w := S 19 (k : Int)) rfl ?_
    refine l_iconst d_L_areContainers_27 ?_
    refine l_icmp_lt (tgt := 44) d_L_areContainers_28 (by decide) (by first | assumption | exact hR _ _ (by decide) | (unfold R32; omega)) (by first | assumption | exact hR _ _ (by decide) | (unfold R32; omega)) (fun z28 => ?_) (fun z28 => ?_)
    · exact l_mono k44 (by omega) (by omega)
    · refine l_aload_n d_L_areContainers_31 rfl ?_
      refine l_iload_n d_L_areContainers_32 rfl ?_
      refine l_callH (rc' := 160 * n + 152) (rs' := 960 * n + 912) d_L_areContainers_33 q_L_areContainers_53 s_h_memoryOf v_h_memoryOf (t_h_memoryOf hI hE (by first | assumption | exact hR _ _ (by decide) | (unfold R32; omega))) (opX.no (show cd_memoryOf S ((k : Int)) = 0 by unfold cd_memoryOf; (repeat' split) <;> omega)) h0 rfl rfl rfl (Nat.le_of_ble_eq_true rfl) rfl (by show 160 * n + 153 = 160 * n + 152 + 1; omega) (by show 960 * n + 918 = 960 * n + 912 + 6; omega) ?_
      rintro _ _ _ ⟨-, rfl, rfl, rfl⟩
      refine l_eqv (v := vl_memoryOf S ((k : Int))) (w := S 14 (k : Int)) rfl ?_
      refine l_if_ne (tgt := 99) d_L_areContainers_36 (by decide) (by first | assumption | exact hR _ _ (by decide) | (unfold R32; omega)) (fun z36 => by exfalso; omega) (fun z36 => ?_)
      refine l_iload_n d_L_areContainers_39 rfl ?_
      refine l_iconst d_L_areContainers_40 ?_
      refine l_icmp_ne (tgt := 99) d_L_areContainers_41 (by decide) (by first | assumption | exact hR _ _ (by decide) | (unfold R32; omega)) (by first | assumption | exact hR _ _ (by decide) | (unfold R32; omega)) (fun z41 => by exfalso; omega) (fun z41 => ?_)
      exact k44
theorem t_L_areContainers {g : xG} {t u : Nat} {ad : cA} {S : gS} {ft fu : Int → Int} (hL : LI S ft fu) (hE : Ext S) : lM g y_L_areContainers k_L_areContainers M_L_areContainers t u [.ref (g.2.2.2.2 5)] ad S ft fu (qSame S ad ft fu) := by
  refine lM.of rfl (by decide) rfl rfl rfl (by simp [Value.category]) (Nat.le_of_ble_eq_true rfl) rfl ?_
  have h11 := hL.1.1.2.1.2.2.1
  refine l_iconst d_L_areContainers_0 ?_
  refine l_istore_n d_L_areContainers_1 (by decide) ?_
  refine l_iconst d_L_areContainers_2 ?_
  refine l_istore_n d_L_areContainers_3 (by decide) ?_
  exact l_mono (W_co3 hL hE (S 11 0).toNat 0 (by omega) none none) (by show 160 * (S 11 0).toNat ≤ 3210; omega) (by show 960 * (S 11 0).toNat ≤ 19260; omega)
