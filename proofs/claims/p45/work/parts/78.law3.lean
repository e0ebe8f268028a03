/-! the law's methods: kills, attaches, ports -/
theorem capB1 (x : Int) : x / 2 ^ (1 : Int).toNat % 2 = x / 2 % 2 := by rw [show (2 : Int) ^ (1 : Int).toNat = 2 from by decide]
theorem capB2 (x : Int) : x / 2 ^ (2 : Int).toNat % 2 = x / 4 % 2 := by rw [show (2 : Int) ^ (2 : Int).toNat = 4 from by decide]
theorem capB3 (x : Int) : x / 2 ^ (3 : Int).toNat % 2 = x / 8 % 2 := by rw [show (2 : Int) ^ (3 : Int).toNat = 8 from by decide]
theorem shr_nn {a : Int} (k : Nat) (ha : 0 ≤ a) : 0 ≤ a / 2 ^ k := Int.ediv_nonneg ha (Int.le_of_lt (Int.pow_pos (by omega)))
theorem W_kills {g : xG} {t u : Nat} {ad : cA} {S : gS} {ft fu : Int → Int} {c v : Int} {Q : qL} {rc rs : Nat} (hL : LI S ft fu) (c0 : 0 ≤ c) (c1 : c < S 11 0) (kk : lW g M_L_kills t u Q rc rs ad S ft fu 52 [some (.ref (g.2.2.2.2 5)), some (.ref t), some (.int (iI c)), some (.int (iI v)), some (.int (iI (16 * S 16 c + S 17 c))), some (.int (iI (bel S (S 20 v) (S 20 c)))), some (.int (iI (-1)))] []) : ∀ (n : Nat) (b k : Int), k < n → -1 ≤ k → k < S 6 0 → (b = 0 ∨ b = 1) → (b = 1 → bel S (S 20 v) (S 20 c) = 1) → (b = 0 → bel S (S 20 v) (S 20 c) = bel S k (S 20 c)) → lW g M_L_kills t u Q rc rs ad S ft fu 11 [some (.ref (g.2.2.2.2 5)), some (.ref t), some (.int (iI c)), some (.int (iI v)), some (.int (iI (16 * S 16 c + S 17 c))), some (.int (iI b)), some (.int (iI k))] [] := by
  have hI := hL.1.1
  have hR := hI.1
  have h6 := hI.2.1.2.1
  have h11 := hI.2.1.2.2.1
  have q4 := (hI.2.2.2.2.1 c c0 c1).2.1
  have hK := hL.2.2.2.2.2.2 c c0 c1
  have fin : ∀ (b k : Int), k = -1 → (b = 0 ∨ b = 1) → (b = 1 → bel S (S 20 v) (S 20 c) = 1) → (b = 0 → bel S (S 20 v) (S 20 c) = bel S k (S 20 c)) → lW g M_L_kills t u Q rc rs ad S ft fu 11 [some (.ref (g.2.2.2.2 5)), some (.ref t), some (.int (iI c)), some (.int (iI v)), some (.int (iI (16 * S 16 c + S 17 c))), some (.int (iI b)), some (.int (iI k))] [] := by
    intro b k hk hb h1 h0
    subst hk
    have e : b = bel S (S 20 v) (S 20 c) := by
      rcases hb with z | z
      · rw [h0 z, bel_m1 q4.1]; exact z
      · rw [h1 z]; exact z
    subst e
    refine l_iload d_L_kills_11 rfl ?_
    refine l_iconst d_L_kills_13 ?_
    refine l_icmp_eq (tgt := 52) d_L_kills_14 (by decide) (by unfold R32; omega) (by unfold R32; omega) (fun z14 => ?_) (fun z14 => by exfalso; omega)
    exact kk
  intro n
  induction n with
  | zero =>
    intro b k q0 q1 q2 q3 q5 q6
    exact fin b k (by omega) q3 q5 q6
  | succ n ih =>
    intro b k q0 q1 q2 q3 q5 q6
    by_cases hk : k = -1
    · exact fin b k hk q3 q5 q6
    have hp := hI.2.2.1.pa hI.2.1 k (by omega) q2
    have hG := hL.2.2.2.2.2.1 k (by omega) q2
    refine l_iload d_L_kills_11 rfl ?_
    refine l_iconst d_L_kills_13 ?_
    refine l_icmp_eq (tgt := 52) d_L_kills_14 (by decide) (by first | assumption | exact hR _ _ (by decide) | (unfold R32; omega)) (by first | assumption | exact hR _ _ (by decide) | (unfold R32; omega)) (fun z14 => by exfalso; omega) (fun z14 => ?_)
    refine l_iload d_L_kills_17 rfl ?_
    refine l_if_ne (tgt := 33) d_L_kills_19 (by decide) (by first | assumption | exact hR _ _ (by decide) | (unfold R32; omega)) (fun z19 => ?_) (fun z19 => ?_)
    · refine l_iconst d_L_kills_33 ?_
      refine l_goto (tgt := 38) d_L_kills_34 (by decide) ?_
      refine l_istore d_L_kills_38 (by decide) ?_
      refine l_aload_n d_L_kills_40 rfl ?_
      refine l_bipush d_L_kills_41 (by decide) ?_
      refine l_iload d_L_kills_43 rfl ?_
      refine l_iadd d_L_kills_45 ?_
      refine l_tld (hG.1) d_L_kills_46 (by omega) (by omega) ?_
      refine l_istore d_L_kills_47 (by decide) ?_
      refine l_goto (tgt := 11) d_L_kills_49 (by decide) ?_
      exact ih 1 (S 7 k) (by omega) hp.1 (by omega) (Or.inr rfl) (fun _ => q5 (by omega)) (fun z => by omega)
    · refine l_iload d_L_kills_22 rfl ?_
      refine l_aload_n d_L_kills_24 rfl ?_
      refine l_bipush d_L_kills_25 (by decide) ?_
      refine l_iload_n d_L_kills_27 rfl ?_
      refine l_iadd d_L_kills_28 ?_
      refine l_tld (hK.1) d_L_kills_29 (by omega) (by omega) ?_
      refine l_icmp_ne (tgt := 37) d_L_kills_30 (by decide) (by first | assumption | exact hR _ _ (by decide) | (unfold R32; omega)) (by first | assumption | exact hR _ _ (by decide) | (unfold R32; omega)) (fun z30 => ?_) (fun z30 => ?_)
      · refine l_iconst d_L_kills_37 ?_
        refine l_istore d_L_kills_38 (by decide) ?_
        refine l_aload_n d_L_kills_40 rfl ?_
        refine l_bipush d_L_kills_41 (by decide) ?_
        refine l_iload d_L_kills_43 rfl ?_
        refine l_iadd d_L_kills_45 ?_
        refine l_tld (hG.1) d_L_kills_46 (by omega) (by omega) ?_
        refine l_istore d_L_kills_47 (by decide) ?_
        refine l_goto (tgt := 11) d_L_kills_49 (by decide) ?_
        exact ih 0 (S 7 k) (by omega) hp.1 (by omega) (Or.inl rfl) (fun z => by omega) (fun _ => (q6 (by omega)).trans (bel_s hI.2.2.1 hI.2.1 q4.1 (by omega) q2 (by omega)))
      · refine l_iconst d_L_kills_33 ?_
        refine l_goto (tgt := 38) d_L_kills_34 (by decide) ?_
        refine l_istore d_L_kills_38 (by decide) ?_
        refine l_aload_n d_L_kills_40 rfl ?_
        refine l_bipush d_L_kills_41 (by decide) ?_
        refine l_iload d_L_kills_43 rfl ?_
        refine l_iadd d_L_kills_45 ?_
        refine l_tld (hG.1) d_L_kills_46 (by omega) (by omega) ?_
        refine l_istore d_L_kills_47 (by decide) ?_
        refine l_goto (tgt := 11) d_L_kills_49 (by decide) ?_
        exact ih 1 (S 7 k) (by omega) hp.1 (by omega) (Or.inr rfl) (fun _ => by rw [q6 (by omega), z30]; exact bel_eq S _) (fun z => by omega)
theorem t_L_kills {g : xG} {t u : Nat} {ad : cA} {S : gS} {ft fu : Int → Int} {c v : Int} (hL : LI S ft fu) (hE : Ext S) (c0 : 0 ≤ c) (c1 : c < S 11 0) (v0 : 0 ≤ v) (v1 : v < S 11 0) (hs : S 19 c = 0) : lM g y_L_kills k_L_kills M_L_kills t u [.ref (g.2.2.2.2 5), .ref t, .int (iI c), .int (iI v), .int (iI (16 * S 16 c + S 17 c))] ad S ft fu qOk := by
  refine lM.of rfl (by decide) rfl rfl rfl (by simp [Value.category]) (Nat.le_of_ble_eq_true rfl) rfl ?_
  have hI := hL.1.1
  have hR := hI.1
  have h0 := hE.h
  have h3 := hI.2.1.1
  have h6 := hI.2.1.2.1
  have h11 := hI.2.1.2.2.1
  have h23 := hI.2.1.2.2.2
  have hA := hL.2.2.2.1
  have hI6 := hI.2.2.2.2.2.2.1
  have q4 := (hI.2.2.2.2.1 v v0 v1).2.1
  have q5 := (hI.2.2.2.2.1 v v0 v1).1
  have hKv := hL.2.2.2.2.2.2 v v0 v1
  have qc := (hI.2.2.2.1 c (Or.inl ⟨c0, c1⟩)).2.2.2.2
  have hbl := bel_01 S (S 20 v) (S 20 c)
  refine l_iconst d_L_kills_0 ?_
  refine l_istore d_L_kills_1 (by decide) ?_
  refine l_aload_n d_L_kills_3 rfl ?_
  refine l_bipush d_L_kills_4 (by decide) ?_
  refine l_iload_n d_L_kills_6 rfl ?_
  refine l_iadd d_L_kills_7 ?_
  refine l_tld (hKv.1) d_L_kills_8 (by omega) (by omega) ?_
  refine l_istore d_L_kills_9 (by decide) ?_
  refine W_kills (n := 9) hL c0 c1 ?_ 0 (S 20 v) (by omega) (by omega) q4.2 (Or.inl rfl) (fun z => by omega) (fun _ => rfl)
  refine l_aload_n d_L_kills_52 rfl ?_
  refine l_iload_n d_L_kills_53 rfl ?_
  refine l_callH d_L_kills_54 q_L_kills_53 s_h_memoryOf v_h_memoryOf (t_h_memoryOf hI hE (by first | assumption | exact hR _ _ (by decide) | exact hR9 _ _ (by decide) | (unfold R32; omega))) (opX.no (show cd_memoryOf S (v) = 0 by unfold cd_memoryOf; (repeat' split) <;> omega)) h0 rfl rfl rfl (Nat.le_of_ble_eq_true rfl) rfl rfl rfl ?_
  rintro _ _ _ ⟨-, rfl, rfl, rfl⟩
  refine l_eqv (v := vl_memoryOf S (v)) (w := S 14 v) rfl ?_
  refine l_istore d_L_kills_57 (by decide) ?_
  refine l_iload d_L_kills_59 rfl ?_
  refine l_iconst d_L_kills_61 ?_
  refine l_ishrI d_L_kills_62 (by omega) (by omega) (by decide) (by decide) ?_
  refine l_iconst d_L_kills_63 ?_
  refine l_iand1 d_L_kills_64 (shr_nn _ (by omega)) ?_
  refine l_eqv (v := (16 * S 16 c + S 17 c) / 2 ^ (3 : Int).toNat % 2) (w := S 17 c / 8 % 2) (by rw [capB3]; omega) ?_
  refine l_if_eq (tgt := 115) d_L_kills_65 (by decide) (by first | assumption | exact hR _ _ (by decide) | exact hR9 _ _ (by decide) | (unfold R32; omega)) (fun z65 => ?_) (fun z65 => ?_)
  · refine l_iconst d_L_kills_115 ?_
    refine l_goto (tgt := 120) d_L_kills_116 (by decide) ?_
    exact l_zret rfl (Or.inr rfl) d_L_kills_120 (⟨rfl, hL, hE⟩)
  · refine l_iload_n d_L_kills_68 rfl ?_
    refine l_iload_n d_L_kills_69 rfl ?_
    refine l_icmp_eq (tgt := 115) d_L_kills_70 (by decide) (by first | assumption | exact hR _ _ (by decide) | exact hR9 _ _ (by decide) | (unfold R32; omega)) (by first | assumption | exact hR _ _ (by decide) | exact hR9 _ _ (by decide) | (unfold R32; omega)) (fun z70 => ?_) (fun z70 => ?_)
    · refine l_iconst d_L_kills_115 ?_
      refine l_goto (tgt := 120) d_L_kills_116 (by decide) ?_
      exact l_zret rfl (Or.inr rfl) d_L_kills_120 (⟨rfl, hL, hE⟩)
    · refine l_aload_n d_L_kills_73 rfl ?_
      refine l_iload_n d_L_kills_74 rfl ?_
      refine l_callH d_L_kills_75 q_L_kills_50 s_h_stateOf v_h_stateOf (t_h_stateOf hI hE (by first | assumption | exact hR _ _ (by decide) | exact hR9 _ _ (by decide) | (unfold R32; omega))) (opX.no (show cd_stateOf S (v) = 0 by unfold cd_stateOf; (repeat' split) <;> omega)) h0 rfl rfl rfl (Nat.le_of_ble_eq_true rfl) rfl rfl rfl ?_
      rintro _ _ _ ⟨-, rfl, rfl, rfl⟩
      refine l_eqv (v := vl_stateOf S (v)) (w := S 19 v) rfl ?_
      refine l_iconst d_L_kills_78 ?_
      refine l_icmp_eq (tgt := 115) d_L_kills_79 (by decide) (by first | assumption | exact hR _ _ (by decide) | exact hR9 _ _ (by decide) | (unfold R32; omega)) (by first | assumption | exact hR _ _ (by decide) | exact hR9 _ _ (by decide) | (unfold R32; omega)) (fun z79 => ?_) (fun z79 => ?_)
      · refine l_iconst d_L_kills_115 ?_
        refine l_goto (tgt := 120) d_L_kills_116 (by decide) ?_
        exact l_zret rfl (Or.inr rfl) d_L_kills_120 (⟨rfl, hL, hE⟩)
      · refine l_iload d_L_kills_82 rfl ?_
        refine l_if_eq (tgt := 115) d_L_kills_84 (by decide) (by first | assumption | exact hR _ _ (by decide) | exact hR9 _ _ (by decide) | (unfold R32; omega)) (fun z84 => ?_) (fun z84 => ?_)
        · refine l_iconst d_L_kills_115 ?_
          refine l_goto (tgt := 120) d_L_kills_116 (by decide) ?_
          exact l_zret rfl (Or.inr rfl) d_L_kills_120 (⟨rfl, hL, hE⟩)
        · have hcd : cd_kill S c v = 0 := by unfold cd_kill; rw [bitk3]; (repeat' split) <;> omega
          refine l_aload_n d_L_kills_87 rfl ?_
          refine l_iload_n d_L_kills_88 rfl ?_
          refine l_iload_n d_L_kills_89 rfl ?_
          refine l_callH d_L_kills_90 q_L_kills_158 s_h_kill v_h_kill (t_h_kill hI hE (by first | assumption | exact hR _ _ (by decide) | (unfold R32; omega)) (by first | assumption | exact hR _ _ (by decide) | (unfold R32; omega))) (opX.no hcd) h0 rfl rfl rfl (Nat.le_of_ble_eq_true rfl) rfl rfl rfl ?_
          rintro _ ad9 S9 ⟨-, rfl, hag9, hE9⟩
          have hL9 := LI.agr (LI_kill hL hcd) hag9 hE9
          have hI9 := hL9.1.1
          have hR9 := hI9.1
          have h09 := hE9.h
          have e11 : S9 11 0 = S 11 0 := by rw [hag9 11 (by decide), show st_kill S c v 11 = S 11 from stp_k rfl]
          have e19 : S9 19 v = 2 := by rw [hag9 19 (by decide)]; exact (stp_c S v).2.2.2.1
          have e14 : S9 14 v = 0 := by rw [hag9 14 (by decide)]; exact (stp_c S v).1
          refine l_eqv (v := vl_kill S (c) (v)) (w := S 14 v) rfl ?_
          refine l_iload d_L_kills_93 rfl ?_
          refine l_icmp_ne (tgt := 119) d_L_kills_95 (by decide) (by first | assumption | exact hR _ _ (by decide) | exact hR9 _ _ (by decide) | (unfold R32; omega)) (by first | assumption | exact hR _ _ (by decide) | exact hR9 _ _ (by decide) | (unfold R32; omega)) (fun z95 => absurd rfl z95) (fun z95 => ?_)
          refine l_aload_n d_L_kills_98 rfl ?_
          refine l_iload_n d_L_kills_99 rfl ?_
          refine l_callH d_L_kills_100 q_L_kills_50 s_h_stateOf v_h_stateOf (t_h_stateOf hI9 hE9 (by first | assumption | exact hR _ _ (by decide) | exact hR9 _ _ (by decide) | (unfold R32; omega))) (opX.no (show cd_stateOf S9 (v) = 0 by unfold cd_stateOf; (repeat' split) <;> omega)) h09 rfl rfl rfl (Nat.le_of_ble_eq_true rfl) rfl rfl rfl ?_
          rintro _ _ _ ⟨-, rfl, rfl, rfl⟩
          refine l_eqv (v := vl_stateOf S9 (v)) (w := 2) e19 ?_
          refine l_iconst d_L_kills_103 ?_
          refine l_icmp_ne (tgt := 119) d_L_kills_104 (by decide) (by first | assumption | exact hR _ _ (by decide) | exact hR9 _ _ (by decide) | (unfold R32; omega)) (by first | assumption | exact hR _ _ (by decide) | exact hR9 _ _ (by decide) | (unfold R32; omega)) (fun z104 => absurd rfl z104) (fun z104 => ?_)
          refine l_aload_n d_L_kills_107 rfl ?_
          refine l_iload_n d_L_kills_108 rfl ?_
          refine l_callH d_L_kills_109 q_L_kills_53 s_h_memoryOf v_h_memoryOf (t_h_memoryOf hI9 hE9 (by first | assumption | exact hR _ _ (by decide) | exact hR9 _ _ (by decide) | (unfold R32; omega))) (opX.no (show cd_memoryOf S9 (v) = 0 by unfold cd_memoryOf; (repeat' split) <;> omega)) h09 rfl rfl rfl (Nat.le_of_ble_eq_true rfl) rfl rfl rfl ?_
          rintro _ _ _ ⟨-, rfl, rfl, rfl⟩
          refine l_eqv (v := vl_memoryOf S9 (v)) (w := 0) e14 ?_
          refine l_if_ne (tgt := 119) d_L_kills_112 (by decide) (by first | assumption | exact hR _ _ (by decide) | exact hR9 _ _ (by decide) | (unfold R32; omega)) (fun z112 => by exfalso; omega) (fun z112 => ?_)
          refine l_iconst d_L_kills_115 ?_
          refine l_goto (tgt := 120) d_L_kills_116 (by decide) ?_
          exact l_zret rfl (Or.inr rfl) d_L_kills_120 (⟨rfl, hL9, hE9⟩)
def nfN (S : gS) (x : Int) (n : Nat) : Int := if aaN S x n = -1 then 1 else 0
theorem nfN_s (S : gS) (x : Int) (n : Nat) : nfN S x (n + 1) = if nfN S x n = 1 ∧ S 21 n ≠ x then 1 else 0 := by
  have hb := aaN_b S x n
  unfold nfN
  show (if (if S 21 n = x then (n : Int) else aaN S x n) = -1 then (1 : Int) else 0) = _
  by_cases z : S 21 n = x
  · rw [if_pos z, if_neg (by omega), if_neg (fun y => y.2 z)]
  · rw [if_neg z]
    by_cases y : aaN S x n = -1
    · rw [if_pos y, if_pos ⟨rfl, z⟩]
    · rw [if_neg y, if_neg (fun q => by omega)]
theorem W_att1 {g : xG} {t u : Nat} {ad : cA} {S : gS} {ft fu : Int → Int} {c br st9 a fr : Int} {v4 : Option Value} {Q : qL} {rc rs : Nat} (hI : Inv S) (hE : Ext S) (hbr : 0 ≤ br ∧ br < 4) (ha : 1 ≤ a ∧ a ≤ 6) (kk : lW g M_L_attaches t u Q rc rs ad S ft fu 104 [some (.ref (g.2.2.2.2 5)), some (.int (iI c)), some (.int (iI br)), some (.int (iI st9)), v4, some (.int (iI fr)), some (.int (iI a)), some (.int (iI (nfN S (10 * br + a) (S 11 0).toNat))), some (.int (iI (S 11 0)))] []) : ∀ n k : Nat, (k : Int) + n = S 11 0 → lW g M_L_attaches t u Q (n + rc) (6 * n + rs) ad S ft fu 61 [some (.ref (g.2.2.2.2 5)), some (.int (iI c)), some (.int (iI br)), some (.int (iI st9)), v4, some (.int (iI fr)), some (.int (iI a)), some (.int (iI (nfN S (10 * br + a) k))), some (.int (iI (k : Int)))] [] := by
  have hR := hI.1
  have h0 := hE.h
  have h11 := hI.2.1.2.2.1
  intro n
  induction n with
  | zero =>
    intro k hk
    have hk1 : k = (S 11 0).toNat := by omega
    have hk2 : (k : Int) = S 11 0 := by omega
    refine l_mono (rc := rc) (rs := rs) ?_ (by omega) (by omega)
    rw [hk2, hk1]
    refine l_iload d_L_attaches_61 rfl ?_
    refine l_aload_n d_L_attaches_63 rfl ?_
    refine l_callH d_L_attaches_64 q_L_attaches_46 s_h_containers v_h_containers (t_h_containers (QX := cN) hE) (fun _ _ _ z => z) h0 rfl rfl rfl (Nat.le_of_ble_eq_true rfl) rfl rfl rfl ?_
    rintro _ _ _ ⟨rfl, rfl, rfl⟩
    refine l_icmp_ge (tgt := 104) d_L_attaches_67 (by decide) (by first | assumption | exact hR _ _ (by decide) | (unfold R32; omega)) (by first | assumption | exact hR _ _ (by decide) | (unfold R32; omega)) (fun z67 => ?_) (fun z67 => by exfalso; omega)
    exact kk
  | succ n ih =>
    intro k hk
    have hn := nfN_s S (10 * br + a) k
    have e := ih (k + 1) (by omega)
    rw [show ((k + 1 : Nat) : Int) = (k : Int) + 1 by omega] at e
    have h01 : nfN S (10 * br + a) k = 0 ∨ nfN S (10 * br + a) k = 1 := by unfold nfN; split <;> omega
    refine l_iload d_L_attaches_61 rfl ?_
    refine l_aload_n d_L_attaches_63 rfl ?_
    refine l_callH d_L_attaches_64 q_L_attaches_46 s_h_containers v_h_containers (t_h_containers (QX := cN) hE) (fun _ _ _ z => z) h0 rfl rfl rfl (Nat.le_of_ble_eq_true rfl) rfl rfl rfl ?_
    rintro _ _ _ ⟨rfl, rfl, rfl⟩
    refine l_icmp_ge (tgt := 104) d_L_attaches_67 (by decide) (by first | assumption | exact hR _ _ (by decide) | (unfold R32; omega)) (by first | assumption | exact hR _ _ (by decide) | (unfold R32; omega)) (fun z67 => by exfalso; omega) (fun z67 => ?_)
    refine l_iload d_L_attaches_70 rfl ?_
    refine l_if_eq (tgt := 95) d_L_attaches_72 (by decide) (by first | assumption | exact hR _ _ (by decide) | (unfold R32; omega)) (fun z72 => ?_) (fun z72 => ?_)
    · refine l_iconst d_L_attaches_95 ?_
      refine l_istore d_L_attaches_96 (by decide) ?_
      refine l_iinc d_L_attaches_98 rfl (by decide) ?_
      refine l_goto (tgt := 61) d_L_attaches_101 (by decide) ?_
      rw [if_neg (fun y => by omega)] at hn
      rw [hn] at e
      exact l_mono e (by show n + rc ≤ n + 1 + rc; omega) (by show 6 * n + rs ≤ 6 * (n + 1) + rs; omega)
    · refine l_aload_n d_L_attaches_75 rfl ?_
      refine l_iload d_L_attaches_76 rfl ?_
      refine l_callH (rc' := n + rc) (rs' := 6 * n + rs) d_L_attaches_78 q_L_attaches_59 s_h_addressOf v_h_addressOf (t_h_addressOf hI hE (by first | assumption | exact hR _ _ (by decide) | (unfold R32; omega))) (opX.no (show cd_addressOf S ((k : Int)) = 0 by unfold cd_addressOf; (repeat' split) <;> omega)) h0 rfl rfl rfl (Nat.le_of_ble_eq_true rfl) rfl (by show n + 1 + rc = n + rc + 1; omega) (by show 6 * (n + 1) + rs = 6 * n + rs + 6; omega) ?_
      rintro _ _ _ ⟨-, rfl, rfl, rfl⟩
      refine l_eqv (v := vl_addressOf S ((k : Int))) (w := S 21 k) rfl ?_
      refine l_bipush d_L_attaches_81 (by decide) ?_
      refine l_iload_n d_L_attaches_83 rfl ?_
      refine l_imul d_L_attaches_84 ?_
      refine l_iload d_L_attaches_85 rfl ?_
      refine l_iadd d_L_attaches_87 ?_
      refine l_icmp_eq (tgt := 95) d_L_attaches_88 (by decide) (by first | assumption | exact hR _ _ (by decide) | (unfold R32; omega)) (by first | assumption | exact hR _ _ (by decide) | (unfold R32; omega)) (fun z88 => ?_) (fun z88 => ?_)
      · refine l_iconst d_L_attaches_95 ?_
        refine l_istore d_L_attaches_96 (by decide) ?_
        refine l_iinc d_L_attaches_98 rfl (by decide) ?_
        refine l_goto (tgt := 61) d_L_attaches_101 (by decide) ?_
        rw [if_neg (fun y => y.2 z88)] at hn
        rw [hn] at e
        exact e
      · refine l_iconst d_L_attaches_91 ?_
        refine l_goto (tgt := 96) d_L_attaches_92 (by decide) ?_
        refine l_istore d_L_attaches_96 (by decide) ?_
        refine l_iinc d_L_attaches_98 rfl (by decide) ?_
        refine l_goto (tgt := 61) d_L_attaches_101 (by decide) ?_
        rw [if_pos ⟨by omega, z88⟩] at hn
        rw [hn] at e
        exact e
theorem W_att2 {g : xG} {t u : Nat} {ad : cA} {S : gS} {ft fu : Int → Int} {c br st9 : Int} {v4 : Option Value} {Q : qL} {rc rs : Nat} (hI : Inv S) (hE : Ext S) (hbr : 0 ≤ br ∧ br < 4) (kk : ∀ v7 v8, lW g M_L_attaches t u Q rc rs ad S ft fu 124 [some (.ref (g.2.2.2.2 5)), some (.int (iI c)), some (.int (iI br)), some (.int (iI st9)), v4, some (.int (iI (fad S br))), some (.int (iI ((0 : Nat) : Int))), v7, v8] []) : ∀ (n : Nat), n ≤ 6 → ∀ v7 v8, lW g M_L_attaches t u Q (20 * n + rc) (120 * n + rs) ad S ft fu 49 [some (.ref (g.2.2.2.2 5)), some (.int (iI c)), some (.int (iI br)), some (.int (iI st9)), v4, some (.int (iI (faN S br (6 - n) ((n : Int) + 1)))), some (.int (iI (n : Int))), v7, v8] [] := by
  have hR := hI.1
  have h0 := hE.h
  have h11 := hI.2.1.2.2.1
  intro n
  induction n with
  | zero =>
    intro hn v7 v8
    refine l_mono (rc := rc) (rs := rs) ?_ (by omega) (by omega)
    refine l_iload d_L_attaches_49 rfl ?_
    refine l_iconst d_L_attaches_51 ?_
    refine l_icmp_lt (tgt := 124) d_L_attaches_52 (by decide) (by first | assumption | exact hR _ _ (by decide) | (unfold R32; omega)) (by first | assumption | exact hR _ _ (by decide) | (unfold R32; omega)) (fun z52 => ?_) (fun z52 => by exfalso; omega)
    exact kk v7 v8
  | succ n ih =>
    intro hn v7 v8
    have hf : faN S br (6 - n) ((n : Int) + 1) = if nfN S (10 * br + ((n + 1 : Nat) : Int)) (S 11 0).toNat = 1 then ((n + 1 : Nat) : Int) else faN S br (6 - (n + 1)) (((n + 1 : Nat) : Int) + 1) := by
      rw [show 6 - n = (6 - (n + 1)) + 1 by omega, show (n : Int) + 1 = ((n + 1 : Nat) : Int) by omega]
      show (if ((n + 1 : Nat) : Int) ≤ 6 ∧ aaN S (10 * br + ((n + 1 : Nat) : Int)) (S 11 0).toNat ≠ -1 then faN S br (6 - (n + 1)) (((n + 1 : Nat) : Int) + 1) else ((n + 1 : Nat) : Int)) = _
      unfold nfN
      by_cases z : aaN S (10 * br + ((n + 1 : Nat) : Int)) (S 11 0).toNat = -1
      · rw [if_neg (fun y => y.2 z), if_pos z, if_pos rfl]
      · rw [if_pos ⟨by omega, z⟩, if_neg z, if_neg (by decide)]
    have e := ih (by omega) (some (.int (iI (nfN S (10 * br + ((n + 1 : Nat) : Int)) (S 11 0).toNat)))) (some (.int (iI (S 11 0))))
    have h01 : nfN S (10 * br + ((n + 1 : Nat) : Int)) (S 11 0).toNat = 0 ∨ nfN S (10 * br + ((n + 1 : Nat) : Int)) (S 11 0).toNat = 1 := by unfold nfN; split <;> omega
    refine l_iload d_L_attaches_49 rfl ?_
    refine l_iconst d_L_attaches_51 ?_
    refine l_icmp_lt (tgt := 124) d_L_attaches_52 (by decide) (by first | assumption | exact hR _ _ (by decide) | (unfold R32; omega)) (by first | assumption | exact hR _ _ (by decide) | (unfold R32; omega)) (fun z52 => by exfalso; omega) (fun z52 => ?_)
    refine l_iconst d_L_attaches_55 ?_
    refine l_istore d_L_attaches_56 (by decide) ?_
    refine l_iconst d_L_attaches_58 ?_
    refine l_istore d_L_attaches_59 (by decide) ?_
    refine l_mono (rc := (S 11 0).toNat + (20 * n + rc)) (rs := 6 * (S 11 0).toNat + (120 * n + rs)) ?_ (by omega) (by omega)
    refine W_att1 (a := ((n + 1 : Nat) : Int)) hI hE hbr (by omega) ?_ (S 11 0).toNat 0 (by omega)
    refine l_iload d_L_attaches_104 rfl ?_
    refine l_if_eq (tgt := 114) d_L_attaches_106 (by decide) (by unfold R32; omega) (fun z106 => ?_) (fun z106 => ?_)
    · refine l_iload d_L_attaches_114 rfl ?_
      refine l_istore d_L_attaches_116 (by decide) ?_
      refine l_iinc d_L_attaches_118 rfl (by decide) ?_
      refine l_goto (tgt := 49) d_L_attaches_121 (by decide) ?_
      rw [if_neg (by omega)] at hf
      rw [hf] at e
      rw [show (n : Int) = ((n + 1 : Nat) : Int) + -1 by omega] at e
      exact e
    · refine l_iload d_L_attaches_109 rfl ?_
      refine l_goto (tgt := 116) d_L_attaches_111 (by decide) ?_
      refine l_istore d_L_attaches_116 (by decide) ?_
      refine l_iinc d_L_attaches_118 rfl (by decide) ?_
      refine l_goto (tgt := 49) d_L_attaches_121 (by decide) ?_
      rw [if_pos (by omega)] at hf
      rw [hf] at e
      rw [show (n : Int) = ((n + 1 : Nat) : Int) + -1 by omega] at e
      exact e
theorem t_L_attaches {g : xG} {t u : Nat} {ad : cA} {S : gS} {ft fu : Int → Int} {c br : Int} (hL : LI S ft fu) (hE : Ext S) (c0 : 0 ≤ c) (c1 : c < S 11 0) (hbr : 0 ≤ br ∧ br < 4) (hs : S 19 c = 0) : lM g y_L_attaches k_L_attaches M_L_attaches t u [.ref (g.2.2.2.2 5), .int (iI c), .int (iI br), .int (iI (16 * S 16 c + S 17 c))] ad S ft fu qOk := by
  refine lM.of rfl (by decide) rfl rfl rfl (by simp [Value.category]) (Nat.le_of_ble_eq_true rfl) rfl ?_
  have hI := hL.1.1
  have hR := hI.1
  have h0 := hE.h
  have h3 := hI.2.1.1
  have h6 := hI.2.1.2.1
  have h11 := hI.2.1.2.2.1
  have h23 := hI.2.1.2.2.2
  have hA := hL.2.2.2.1
  have hI6 := hI.2.2.2.2.2.2.1
  have q21 := (hI.2.2.2.2.1 c c0 c1).2.2.1
  have qc := (hI.2.2.2.1 c (Or.inl ⟨c0, c1⟩)).2.2.2.2
  have hfb := fad_b S br
  refine l_aload_n d_L_attaches_0 rfl ?_
  refine l_iload_n d_L_attaches_1 rfl ?_
  refine l_callH d_L_attaches_2 q_L_attaches_59 s_h_addressOf v_h_addressOf (t_h_addressOf hI hE (by first | assumption | exact hR _ _ (by decide) | exact hR9 _ _ (by decide) | (unfold R32; omega))) (opX.no (show cd_addressOf S (c) = 0 by unfold cd_addressOf; (repeat' split) <;> omega)) h0 rfl rfl rfl (Nat.le_of_ble_eq_true rfl) rfl rfl rfl ?_
  rintro _ _ _ ⟨-, rfl, rfl, rfl⟩
  refine l_eqv (v := vl_addressOf S (c)) (w := S 21 c) rfl ?_
  refine l_istore d_L_attaches_5 (by decide) ?_
  refine l_iload d_L_attaches_7 rfl ?_
  refine l_iconst d_L_attaches_9 ?_
  refine l_icmp_eq (tgt := 41) d_L_attaches_10 (by decide) (by first | assumption | exact hR _ _ (by decide) | exact hR9 _ _ (by decide) | (unfold R32; omega)) (by first | assumption | exact hR _ _ (by decide) | exact hR9 _ _ (by decide) | (unfold R32; omega)) (fun z10 => ?_) (fun z10 => ?_)
  · refine l_bipush d_L_attaches_41 (by decide) ?_
    refine l_istore d_L_attaches_43 (by decide) ?_
    refine l_bipush d_L_attaches_45 (by decide) ?_
    refine l_istore d_L_attaches_47 (by decide) ?_
    refine l_mono (W_att2 (rc := 20) (rs := 120) hI hE hbr ?_ 6 (by decide) _ _) (by decide) (by decide)
    intro v7 v8
    refine l_iload_n d_L_attaches_124 rfl ?_
    refine l_iconst d_L_attaches_125 ?_
    refine l_ishrI d_L_attaches_126 (by omega) (by omega) (by decide) (by decide) ?_
    refine l_iconst d_L_attaches_127 ?_
    refine l_iand1 d_L_attaches_128 (shr_nn _ (by omega)) ?_
    refine l_eqv (v := (16 * S 16 c + S 17 c) / 2 ^ (2 : Int).toNat % 2) (w := S 17 c / 4 % 2) (by rw [capB2]; omega) ?_
    refine l_if_eq (tgt := 165) d_L_attaches_129 (by decide) (by first | assumption | exact hR _ _ (by decide) | exact hR9 _ _ (by decide) | (unfold R32; omega)) (fun z129 => ?_) (fun z129 => ?_)
    · refine l_iconst d_L_attaches_165 ?_
      refine l_goto (tgt := 170) d_L_attaches_166 (by decide) ?_
      exact l_zret rfl (Or.inr rfl) d_L_attaches_170 (⟨rfl, hL, hE⟩)
    · refine l_iload d_L_attaches_132 rfl ?_
      refine l_bipush d_L_attaches_134 (by decide) ?_
      refine l_icmp_eq (tgt := 165) d_L_attaches_136 (by decide) (by first | assumption | exact hR _ _ (by decide) | exact hR9 _ _ (by decide) | (unfold R32; omega)) (by first | assumption | exact hR _ _ (by decide) | exact hR9 _ _ (by decide) | (unfold R32; omega)) (fun z136 => ?_) (fun z136 => ?_)
      · refine l_iconst d_L_attaches_165 ?_
        refine l_goto (tgt := 170) d_L_attaches_166 (by decide) ?_
        exact l_zret rfl (Or.inr rfl) d_L_attaches_170 (⟨rfl, hL, hE⟩)
      · have hcd : cd_attach S c br = 0 := by unfold cd_attach; rw [bitk2]; (repeat' split) <;> omega
        refine l_aload_n d_L_attaches_139 rfl ?_
        refine l_iload_n d_L_attaches_140 rfl ?_
        refine l_iload_n d_L_attaches_141 rfl ?_
        refine l_callH d_L_attaches_142 q_L_attaches_164 s_h_attach v_h_attach (t_h_attach hI hE (by first | assumption | exact hR _ _ (by decide) | (unfold R32; omega)) (by first | assumption | exact hR _ _ (by decide) | (unfold R32; omega)) hL.1.2) (opX.no hcd) h0 rfl rfl rfl (Nat.le_of_ble_eq_true rfl) rfl rfl rfl ?_
        rintro _ ad9 S9 ⟨-, rfl, hag9, hE9⟩
        have hL9 := LI.agr (LI_attach hL hcd) hag9 hE9
        have hI9 := hL9.1.1
        have hR9 := hI9.1
        have h09 := hE9.h
        have e11 : S9 11 0 = S 11 0 := by rw [hag9 11 (by decide)]; rfl
        have e21 : S9 21 c = 10 * br + fad S br := by rw [hag9 21 (by decide)]; exact sset_e S 21 c _
        refine l_eqv (v := vl_attach S (c) (br)) (w := fad S br) rfl ?_
        refine l_iload d_L_attaches_145 rfl ?_
        refine l_icmp_ne (tgt := 169) d_L_attaches_147 (by decide) (by first | assumption | exact hR _ _ (by decide) | exact hR9 _ _ (by decide) | (unfold R32; omega)) (by first | assumption | exact hR _ _ (by decide) | exact hR9 _ _ (by decide) | (unfold R32; omega)) (fun z147 => absurd rfl z147) (fun z147 => ?_)
        refine l_aload_n d_L_attaches_150 rfl ?_
        refine l_iload_n d_L_attaches_151 rfl ?_
        refine l_callH d_L_attaches_152 q_L_attaches_59 s_h_addressOf v_h_addressOf (t_h_addressOf hI9 hE9 (by first | assumption | exact hR _ _ (by decide) | exact hR9 _ _ (by decide) | (unfold R32; omega))) (opX.no (show cd_addressOf S9 (c) = 0 by unfold cd_addressOf; (repeat' split) <;> omega)) h09 rfl rfl rfl (Nat.le_of_ble_eq_true rfl) rfl rfl rfl ?_
        rintro _ _ _ ⟨-, rfl, rfl, rfl⟩
        refine l_eqv (v := vl_addressOf S9 (c)) (w := 10 * br + fad S br) e21 ?_
        refine l_bipush d_L_attaches_155 (by decide) ?_
        refine l_iload_n d_L_attaches_157 rfl ?_
        refine l_imul d_L_attaches_158 ?_
        refine l_iload d_L_attaches_159 rfl ?_
        refine l_iadd d_L_attaches_161 ?_
        refine l_icmp_ne (tgt := 169) d_L_attaches_162 (by decide) (by first | assumption | exact hR _ _ (by decide) | exact hR9 _ _ (by decide) | (unfold R32; omega)) (by first | assumption | exact hR _ _ (by decide) | exact hR9 _ _ (by decide) | (unfold R32; omega)) (fun z162 => absurd rfl z162) (fun z162 => ?_)
        refine l_iconst d_L_attaches_165 ?_
        refine l_goto (tgt := 170) d_L_attaches_166 (by decide) ?_
        exact l_zret rfl (Or.inr rfl) d_L_attaches_170 (⟨rfl, hL9, hE9⟩)
  · have hcd : cd_detach S c = 0 := by unfold cd_detach; (repeat' split) <;> omega
    refine l_aload_n d_L_attaches_13 rfl ?_
    refine l_iload_n d_L_attaches_14 rfl ?_
    refine l_callH d_L_attaches_15 q_L_attaches_161 s_h_detach v_h_detach (t_h_detach hI hE (by first | assumption | exact hR _ _ (by decide) | (unfold R32; omega))) (opX.no hcd) h0 rfl rfl rfl (Nat.le_of_ble_eq_true rfl) rfl rfl rfl ?_
    rintro _ ad9 S9 ⟨-, rfl, hag9, hE9⟩
    have hL9 := LI.agr (LI_detach hL hcd) hag9 hE9
    have hI9 := hL9.1.1
    have hR9 := hI9.1
    have h09 := hE9.h
    have e11 : S9 11 0 = S 11 0 := by rw [hag9 11 (by decide)]; rfl
    have e21 : S9 21 c = -1 := by rw [hag9 21 (by decide)]; exact sset_e S 21 c (-1)
    refine l_eqv (v := vl_detach S (c)) (w := S 21 c / 10) rfl ?_
    refine l_iload d_L_attaches_18 rfl ?_
    refine l_bipush d_L_attaches_20 (by decide) ?_
    refine l_idivI d_L_attaches_22 (by omega) (by first | assumption | exact hR _ _ (by decide) | exact hR9 _ _ (by decide) | (unfold R32; omega)) (by omega) (by first | assumption | exact hR _ _ (by decide) | exact hR9 _ _ (by decide) | (unfold R32; omega)) ?_
    refine l_icmp_ne (tgt := 39) d_L_attaches_23 (by decide) (by first | assumption | exact hR _ _ (by decide) | exact hR9 _ _ (by decide) | (unfold R32; omega)) (by first | assumption | exact hR _ _ (by decide) | exact hR9 _ _ (by decide) | (unfold R32; omega)) (fun z23 => absurd rfl z23) (fun z23 => ?_)
    refine l_aload_n d_L_attaches_26 rfl ?_
    refine l_iload_n d_L_attaches_27 rfl ?_
    refine l_callH d_L_attaches_28 q_L_attaches_59 s_h_addressOf v_h_addressOf (t_h_addressOf hI9 hE9 (by first | assumption | exact hR _ _ (by decide) | exact hR9 _ _ (by decide) | (unfold R32; omega))) (opX.no (show cd_addressOf S9 (c) = 0 by unfold cd_addressOf; (repeat' split) <;> omega)) h09 rfl rfl rfl (Nat.le_of_ble_eq_true rfl) rfl rfl rfl ?_
    rintro _ _ _ ⟨-, rfl, rfl, rfl⟩
    refine l_eqv (v := vl_addressOf S9 (c)) (w := -1) e21 ?_
    refine l_iconst d_L_attaches_31 ?_
    refine l_icmp_ne (tgt := 39) d_L_attaches_32 (by decide) (by first | assumption | exact hR _ _ (by decide) | exact hR9 _ _ (by decide) | (unfold R32; omega)) (by first | assumption | exact hR _ _ (by decide) | exact hR9 _ _ (by decide) | (unfold R32; omega)) (fun z32 => absurd rfl z32) (fun z32 => ?_)
    refine l_iconst d_L_attaches_35 ?_
    refine l_goto (tgt := 40) d_L_attaches_36 (by decide) ?_
    exact l_zret rfl (Or.inr rfl) d_L_attaches_40 (⟨rfl, hL9, hE9⟩)
theorem bsN_ge (x : Int) (p : Int) (p0 : 0 ≤ p) : ∀ n : Nat, 0 ≤ bsN x n ∧ bsN x n ≤ n ∧ (p < n → bit x p ≤ bsN x n) := by
  intro n
  induction n with
  | zero => exact ⟨Int.le_refl 0, Int.le_refl 0, fun z => by omega⟩
  | succ n ih =>
    have hb := bit_01 x n
    show 0 ≤ bsN x n + bit x n ∧ bsN x n + bit x n ≤ _ ∧ (_ → _ ≤ bsN x n + bit x n)
    refine ⟨by omega, by omega, fun z => ?_⟩
    by_cases y : p = n
    · rw [y]; omega
    · have := ih.2.2 (by omega)
      omega
theorem listen_vl {S : gS} {c p : Int} (p0 : 0 ≤ p) (p1 : p < 16) : 1 ≤ vl_listen S c p ∧ vl_listen S c p ≤ 16 := by
  have h := bsN_ge (bset (S 18 c) p) p p0 16
  have e := h.2.2 (by omega)
  rw [bit_bset] at e
  exact ⟨e, h.2.1⟩
theorem conn_own {S : gS} (hX : InvX S) (hI : Inv S) {c p : Int} (c0 : 0 ≤ c) (c1 : c < S 11 0) (h : S 21 c ≠ -1) (hs : S 19 c = 0) : vl_connect S c (S 21 c % 10) p = if bit (S 18 c) p = 1 then c else -1 := by
  unfold vl_connect
  rw [cnr_own hX hI c0 c1 h]
  by_cases z : bit (S 18 c) p = 1
  · rw [if_pos ⟨by omega, hs, z⟩, if_pos z]
  · rw [if_neg (fun y => z y.2.2), if_neg z]
theorem reach_b {S : gS} (hI : Inv S) {k : Int} (k0 : 0 ≤ k) (k1 : k < 32) : vl_connectHost S k = -1 ∨ (0 ≤ vl_connectHost S k ∧ vl_connectHost S k < S 11 0 ∧ S 19 (vl_connectHost S k) = 0) := by
  have q := hI.2.2.2.2.2.2.1.2.2.2 k k0 k1
  unfold vl_connectHost
  by_cases z : S 24 k ≠ -1 ∧ S 19 (S 24 k) = 0
  · rw [if_pos z]
    exact Or.inr ⟨by omega, q.2, z.2⟩
  · rw [if_neg z]
    exact Or.inl rfl
theorem W_ports {g : xG} {t u : Nat} {ad : cA} {S : gS} {ft fu : Int → Int} {c b r : Int} {v3 v5 v6 v8 : Option Value} (hL : LI S ft fu) (hE : Ext S) (hr : r = -1 ∨ (0 ≤ r ∧ r < S 11 0 ∧ S 19 r = 0)) : lW g M_L_ports t u qOk 2 12 ad S ft fu 112 [some (.ref (g.2.2.2.2 5)), some (.int (iI c)), some (.int (iI b)), v3, some (.int (iI (b % 16))), v5, v6, some (.int (iI r)), v8] [] := by
  have hI := hL.1.1
  have hR := hI.1
  have h0 := hE.h
  have h3 := hI.2.1.1
  have h6 := hI.2.1.2.1
  have h11 := hI.2.1.2.2.1
  have h23 := hI.2.1.2.2.2
  have hA := hL.2.2.2.1
  have hI6 := hI.2.2.2.2.2.2.1
  refine l_iconst d_L_ports_112 ?_
  refine l_goto (tgt := 117) d_L_ports_113 (by decide) ?_
  refine l_istore d_L_ports_117 (by decide) ?_
  refine l_iload d_L_ports_119 rfl ?_
  refine l_if_eq (tgt := 143) d_L_ports_121 (by decide) (by first | assumption | exact hR _ _ (by decide) | (unfold R32; omega)) (fun z121 => by exfalso; omega) (fun z121 => ?_)
  refine l_iload d_L_ports_124 rfl ?_
  refine l_iconst d_L_ports_126 ?_
  refine l_icmp_eq (tgt := 139) d_L_ports_127 (by decide) (by first | assumption | exact hR _ _ (by decide) | (unfold R32; omega)) (by first | assumption | exact hR _ _ (by decide) | (unfold R32; omega)) (fun z127 => ?_) (fun z127 => ?_)
  · refine l_iconst d_L_ports_139 ?_
    refine l_goto (tgt := 144) d_L_ports_140 (by decide) ?_
    exact l_zret rfl (Or.inr rfl) d_L_ports_144 (⟨rfl, hL, hE⟩)
  · refine l_aload_n d_L_ports_130 rfl ?_
    refine l_iload d_L_ports_131 rfl ?_
    refine l_callH d_L_ports_133 q_L_ports_50 s_h_stateOf v_h_stateOf (t_h_stateOf hI hE (by first | assumption | exact hR _ _ (by decide) | exact hR9 _ _ (by decide) | (unfold R32; omega))) (opX.no (show cd_stateOf S (r) = 0 by unfold cd_stateOf; (repeat' split) <;> omega)) h0 rfl rfl rfl (Nat.le_of_ble_eq_true rfl) rfl rfl rfl ?_
    rintro _ _ _ ⟨-, rfl, rfl, rfl⟩
    refine l_eqv (v := vl_stateOf S (r)) (w := 0) (show S 19 r = 0 from by omega) ?_
    refine l_if_ne (tgt := 143) d_L_ports_136 (by decide) (by first | assumption | exact hR _ _ (by decide) | (unfold R32; omega)) (fun z136 => by exfalso; omega) (fun z136 => ?_)
    refine l_iconst d_L_ports_139 ?_
    refine l_goto (tgt := 144) d_L_ports_140 (by decide) ?_
    exact l_zret rfl (Or.inr rfl) d_L_ports_144 (⟨rfl, hL, hE⟩)
theorem t_L_ports {g : xG} {t u : Nat} {ad : cA} {S : gS} {ft fu : Int → Int} {c b : Int} (hL : LI S ft fu) (hE : Ext S) (c0 : 0 ≤ c) (c1 : c < S 11 0) (hb : 0 ≤ b ∧ b < 2147483648) (hs : S 19 c = 0) : lM g y_L_ports k_L_ports M_L_ports t u [.ref (g.2.2.2.2 5), .int (iI c), .int (iI b), .int (iI (16 * S 16 c + S 17 c))] ad S ft fu qOk := by
  refine lM.of rfl (by decide) rfl rfl rfl (by simp [Value.category]) (Nat.le_of_ble_eq_true rfl) rfl ?_
  have hI := hL.1.1
  have hR := hI.1
  have h0 := hE.h
  have h3 := hI.2.1.1
  have h6 := hI.2.1.2.1
  have h11 := hI.2.1.2.2.1
  have h23 := hI.2.1.2.2.2
  have hA := hL.2.2.2.1
  have hI6 := hI.2.2.2.2.2.2.1
  have q21 := (hI.2.2.2.2.1 c c0 c1).2.2.1
  have qc := (hI.2.2.2.1 c (Or.inl ⟨c0, c1⟩)).2.2.2.2
  have hrb := reach_b hI (k := (b / 16 % 32)) (by omega) (by omega)
  refine l_iload_n d_L_ports_0 rfl ?_
  refine l_bipush d_L_ports_1 (by decide) ?_
  refine l_iremI d_L_ports_3 (by omega) (by first | assumption | exact hR _ _ (by decide) | (unfold R32; omega)) (by omega) (by first | assumption | exact hR _ _ (by decide) | (unfold R32; omega)) ?_
  refine l_istore d_L_ports_4 (by decide) ?_
  refine l_iload_n d_L_ports_6 rfl ?_
  refine l_bipush d_L_ports_7 (by decide) ?_
  refine l_idivI d_L_ports_9 (by omega) (by first | assumption | exact hR _ _ (by decide) | (unfold R32; omega)) (by omega) (by first | assumption | exact hR _ _ (by decide) | (unfold R32; omega)) ?_
  refine l_bipush d_L_ports_10 (by decide) ?_
  refine l_iremI d_L_ports_12 (by omega) (by first | assumption | exact hR _ _ (by decide) | (unfold R32; omega)) (by omega) (by first | assumption | exact hR _ _ (by decide) | (unfold R32; omega)) ?_
  refine l_istore d_L_ports_13 (by decide) ?_
  refine l_aload_n d_L_ports_15 rfl ?_
  refine l_iload_n d_L_ports_16 rfl ?_
  refine l_callH d_L_ports_17 q_L_ports_59 s_h_addressOf v_h_addressOf (t_h_addressOf hI hE (by first | assumption | exact hR _ _ (by decide) | exact hR9 _ _ (by decide) | (unfold R32; omega))) (opX.no (show cd_addressOf S (c) = 0 by unfold cd_addressOf; (repeat' split) <;> omega)) h0 rfl rfl rfl (Nat.le_of_ble_eq_true rfl) rfl rfl rfl ?_
  rintro _ _ _ ⟨-, rfl, rfl, rfl⟩
  refine l_eqv (v := vl_addressOf S (c)) (w := S 21 c) rfl ?_
  refine l_istore d_L_ports_20 (by decide) ?_
  refine l_aload_n d_L_ports_22 rfl ?_
  refine l_iload d_L_ports_23 rfl ?_
  refine l_callH d_L_ports_25 q_L_ports_167 s_h_connectHost v_h_connectHost (t_h_connectHost hI hE (by first | assumption | exact hR _ _ (by decide) | exact hR9 _ _ (by decide) | (unfold R32; omega))) (opX.no (show cd_connectHost S ((b / 16 % 32)) = 0 by unfold cd_connectHost; (repeat' split) <;> omega)) h0 rfl rfl rfl (Nat.le_of_ble_eq_true rfl) rfl rfl rfl ?_
  rintro _ _ _ ⟨-, rfl, rfl, rfl⟩
  refine l_eqv (v := vl_connectHost S ((b / 16 % 32))) (w := vl_connectHost S (b / 16 % 32)) rfl ?_
  refine l_istore d_L_ports_28 (by decide) ?_
  generalize vl_connectHost S (b / 16 % 32) = r at *
  have k48 : lW g M_L_ports t u qOk 17 102 ad S ft fu 48 [some (.ref (g.2.2.2.2 5)), some (.int (iI c)), some (.int (iI b)), some (.int (iI (16 * S 16 c + S 17 c))), some (.int (iI (b % 16))), some (.int (iI (b / 16 % 32))), some (.int (iI (S 21 c))), some (.int (iI r)), none] [] := by
    refine l_iload d_L_ports_48 rfl ?_
    refine l_iconst d_L_ports_50 ?_
    refine l_icmp_eq (tgt := 63) d_L_ports_51 (by decide) (by first | assumption | exact hR _ _ (by decide) | (unfold R32; omega)) (by first | assumption | exact hR _ _ (by decide) | (unfold R32; omega)) (fun z51 => ?_) (fun z51 => ?_)
    · refine l_iconst d_L_ports_63 ?_
      refine l_goto (tgt := 68) d_L_ports_64 (by decide) ?_
      exact l_zret rfl (Or.inr rfl) d_L_ports_68 (⟨rfl, hL, hE⟩)
    · refine l_aload_n d_L_ports_54 rfl ?_
      refine l_iload d_L_ports_55 rfl ?_
      refine l_callH d_L_ports_57 q_L_ports_50 s_h_stateOf v_h_stateOf (t_h_stateOf hI hE (by first | assumption | exact hR _ _ (by decide) | exact hR9 _ _ (by decide) | (unfold R32; omega))) (opX.no (show cd_stateOf S (r) = 0 by unfold cd_stateOf; (repeat' split) <;> omega)) h0 rfl rfl rfl (Nat.le_of_ble_eq_true rfl) rfl rfl rfl ?_
      rintro _ _ _ ⟨-, rfl, rfl, rfl⟩
      refine l_eqv (v := vl_stateOf S (r)) (w := 0) (show S 19 r = 0 from by omega) ?_
      refine l_if_ne (tgt := 67) d_L_ports_60 (by decide) (by first | assumption | exact hR _ _ (by decide) | (unfold R32; omega)) (fun z60 => by exfalso; omega) (fun z60 => ?_)
      refine l_iconst d_L_ports_63 ?_
      refine l_goto (tgt := 68) d_L_ports_64 (by decide) ?_
      exact l_zret rfl (Or.inr rfl) d_L_ports_68 (⟨rfl, hL, hE⟩)
  have k69 : S 21 c ≠ -1 → (4 ≤ (b % 16) ∨ S 17 c % 2 ≠ 0) → lW g M_L_ports t u qOk 17 102 ad S ft fu 69 [some (.ref (g.2.2.2.2 5)), some (.int (iI c)), some (.int (iI b)), some (.int (iI (16 * S 16 c + S 17 c))), some (.int (iI (b % 16))), some (.int (iI (b / 16 % 32))), some (.int (iI (S 21 c))), some (.int (iI r)), none] [] := fun ha hp => by
    have hcn := conn_own hL.1.2 hI (p := (b % 16)) c0 c1 ha hs
    have hcv : vl_connect S c (S 21 c % 10) (b % 16) = c ∨ vl_connect S c (S 21 c % 10) (b % 16) = -1 := by rw [hcn]; split <;> omega
    refine l_aload_n d_L_ports_69 rfl ?_
    refine l_iload_n d_L_ports_70 rfl ?_
    refine l_iload d_L_ports_71 rfl ?_
    refine l_bipush d_L_ports_73 (by decide) ?_
    refine l_iremI d_L_ports_75 (by omega) (by first | assumption | exact hR _ _ (by decide) | exact hR9 _ _ (by decide) | (unfold R32; omega)) (by omega) (by first | assumption | exact hR _ _ (by decide) | exact hR9 _ _ (by decide) | (unfold R32; omega)) ?_
    refine l_iload d_L_ports_76 rfl ?_
    refine l_callH d_L_ports_78 q_L_ports_170 s_h_connect v_h_connect (t_h_connect hI hE (by first | assumption | exact hR _ _ (by decide) | exact hR9 _ _ (by decide) | (unfold R32; omega)) (by first | assumption | exact hR _ _ (by decide) | exact hR9 _ _ (by decide) | (unfold R32; omega)) (by first | assumption | exact hR _ _ (by decide) | exact hR9 _ _ (by decide) | (unfold R32; omega)) hL.1.2) (opX.no (show cd_connect S (c) (S 21 c % 10) ((b % 16)) = 0 by unfold cd_connect; (repeat' split) <;> omega)) h0 rfl rfl rfl (Nat.le_of_ble_eq_true rfl) rfl rfl rfl ?_
    rintro _ _ _ ⟨-, rfl, rfl, rfl⟩
    refine l_eqv (v := vl_connect S (c) (S 21 c % 10) ((b % 16))) (w := vl_connect S c (S 21 c % 10) (b % 16)) rfl ?_
    refine l_iload_n d_L_ports_81 rfl ?_
    refine l_icmp_eq (tgt := 112) d_L_ports_82 (by decide) (by first | assumption | exact hR _ _ (by decide) | exact hR9 _ _ (by decide) | (unfold R32; omega)) (by first | assumption | exact hR _ _ (by decide) | exact hR9 _ _ (by decide) | (unfold R32; omega)) (fun z82 => ?_) (fun z82 => ?_)
    · exact l_mono (W_ports hL hE hrb) (by decide) (by decide)
    · have hb0 : bit (S 18 c) (b % 16) ≠ 1 := fun y => by
        rw [if_pos y] at hcn
        omega
      have hb1 := bit_01 (S 18 c) (b % 16)
      have hcd : cd_listen S c (b % 16) = 0 := by unfold cd_listen; rw [bitk0]; (repeat' split) <;> omega
      refine l_aload_n d_L_ports_85 rfl ?_
      refine l_iload_n d_L_ports_86 rfl ?_
      refine l_iload d_L_ports_87 rfl ?_
      refine l_callH d_L_ports_89 q_L_ports_173 s_h_listen v_h_listen (t_h_listen hI hE (by first | assumption | exact hR _ _ (by decide) | (unfold R32; omega)) (by first | assumption | exact hR _ _ (by decide) | (unfold R32; omega))) (opX.no hcd) h0 rfl rfl rfl (Nat.le_of_ble_eq_true rfl) rfl rfl rfl ?_
      rintro _ ad9 S9 ⟨-, rfl, hag9, hE9⟩
      have hL9 := LI.agr (LI_listen hL hcd) hag9 hE9
      have hI9 := hL9.1.1
      have hR9 := hI9.1
      have h09 := hE9.h
      have e11 : S9 11 0 = S 11 0 := by rw [hag9 11 (by decide)]; rfl
      have e19 : S9 19 = S 19 := by rw [hag9 19 (by decide)]; rfl
      have e21 : S9 21 c = S 21 c := by rw [hag9 21 (by decide)]; rfl
      have e18 : S9 18 c = bset (S 18 c) (b % 16) := by rw [hag9 18 (by decide)]; exact sset_e S 18 c _
      have hlv := listen_vl (S := S) (c := c) (p := (b % 16)) (by omega) (by omega)
      have es9 : S9 19 c = 0 := by rw [e19]; exact hs
      have hc9 : vl_connect S9 c (S 21 c % 10) (b % 16) = c := by
        have y := conn_own hL9.1.2 hI9 (p := (b % 16)) c0 (by omega) (by omega) es9
        rw [e18, bit_bset, if_pos rfl, e21] at y
        exact y
      refine l_eqv (v := vl_listen S (c) ((b % 16))) (w := vl_listen S c (b % 16)) rfl ?_
      refine l_iconst d_L_ports_92 ?_
      refine l_icmp_lt (tgt := 116) d_L_ports_93 (by decide) (by first | assumption | exact hR _ _ (by decide) | exact hR9 _ _ (by decide) | (unfold R32; omega)) (by first | assumption | exact hR _ _ (by decide) | exact hR9 _ _ (by decide) | (unfold R32; omega)) (fun z93 => by exfalso; omega) (fun z93 => ?_)
      refine l_aload_n d_L_ports_96 rfl ?_
      refine l_iload_n d_L_ports_97 rfl ?_
      refine l_iload d_L_ports_98 rfl ?_
      refine l_bipush d_L_ports_100 (by decide) ?_
      refine l_iremI d_L_ports_102 (by omega) (by first | assumption | exact hR _ _ (by decide) | exact hR9 _ _ (by decide) | (unfold R32; omega)) (by omega) (by first | assumption | exact hR _ _ (by decide) | exact hR9 _ _ (by decide) | (unfold R32; omega)) ?_
      refine l_iload d_L_ports_103 rfl ?_
      refine l_callH d_L_ports_105 q_L_ports_170 s_h_connect v_h_connect (t_h_connect hI9 hE9 (by first | assumption | exact hR _ _ (by decide) | exact hR9 _ _ (by decide) | (unfold R32; omega)) (by first | assumption | exact hR _ _ (by decide) | exact hR9 _ _ (by decide) | (unfold R32; omega)) (by first | assumption | exact hR _ _ (by decide) | exact hR9 _ _ (by decide) | (unfold R32; omega)) hL9.1.2) (opX.no (show cd_connect S9 (c) (S 21 c % 10) ((b % 16)) = 0 by unfold cd_connect; (repeat' split) <;> omega)) h09 rfl rfl rfl (Nat.le_of_ble_eq_true rfl) rfl rfl rfl ?_
      rintro _ _ _ ⟨-, rfl, rfl, rfl⟩
      refine l_eqv (v := vl_connect S9 (c) (S 21 c % 10) ((b % 16))) (w := c) hc9 ?_
      refine l_iload_n d_L_ports_108 rfl ?_
      refine l_icmp_ne (tgt := 116) d_L_ports_109 (by decide) (by first | assumption | exact hR _ _ (by decide) | exact hR9 _ _ (by decide) | (unfold R32; omega)) (by first | assumption | exact hR _ _ (by decide) | exact hR9 _ _ (by decide) | (unfold R32; omega)) (fun z109 => absurd rfl z109) (fun z109 => ?_)
      exact l_mono (W_ports hL9 hE9 (by rw [e11, e19]; exact hrb)) (by decide) (by decide)
  refine l_iload d_L_ports_30 rfl ?_
  refine l_iconst d_L_ports_32 ?_
  refine l_icmp_eq (tgt := 48) d_L_ports_33 (by decide) (by first | assumption | exact hR _ _ (by decide) | (unfold R32; omega)) (by first | assumption | exact hR _ _ (by decide) | (unfold R32; omega)) (fun z33 => ?_) (fun z33 => ?_)
  · exact k48
  · refine l_iload d_L_ports_36 rfl ?_
    refine l_iconst d_L_ports_38 ?_
    refine l_icmp_ge (tgt := 69) d_L_ports_39 (by decide) (by first | assumption | exact hR _ _ (by decide) | (unfold R32; omega)) (by first | assumption | exact hR _ _ (by decide) | (unfold R32; omega)) (fun z39 => ?_) (fun z39 => ?_)
    · exact k69 (by omega) (by omega)
    · refine l_iload_n d_L_ports_42 rfl ?_
      refine l_iconst d_L_ports_43 ?_
      refine l_iand1 d_L_ports_44 (by omega) ?_
      refine l_eqv (v := (16 * S 16 c + S 17 c) % 2) (w := S 17 c % 2) (by omega) ?_
      refine l_if_ne (tgt := 69) d_L_ports_45 (by decide) (by first | assumption | exact hR _ _ (by decide) | (unfold R32; omega)) (fun z45 => ?_) (fun z45 => ?_)
      · exact k69 (by omega) (by omega)
      · exact k48
