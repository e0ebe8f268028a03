theorem c_aload_nV {g : xG} {M : xMeth} {K : hp} {Q : qK} {QX : qKE} {rc rs : Nat} {ad : cA} {S : gS} {pc : Nat} {ls : List (Option Value)} {st : List Value} {n : Fin 4} {k : Nat} {i : Int} (hi : i ≠ -1) (d : decode M.2.1 pc = .ok (.aload_n n, 1)) (hx : ls[(n : Nat)]? = some (some (rfo ad k i))) (kk : cW g M K Q QX rc rs ad S (pc + 1) ls (.ref (ad k i) :: st)) : cW g M K Q QX rc rs ad S pc ls st := by
  rw [rfo_ref hi] at hx
  exact c_aload_n d hx kk
theorem c_aloadV {g : xG} {M : xMeth} {K : hp} {Q : qK} {QX : qKE} {rc rs : Nat} {ad : cA} {S : gS} {pc : Nat} {ls : List (Option Value)} {st : List Value} {n : Nat} {k : Nat} {i : Int} (hi : i ≠ -1) (d : decode M.2.1 pc = .ok (.aload n, 2)) (hx : ls[n]? = some (some (rfo ad k i))) (kk : cW g M K Q QX rc rs ad S (pc + 2) ls (.ref (ad k i) :: st)) : cW g M K Q QX rc rs ad S pc ls st := by
  rw [rfo_ref hi] at hx
  exact c_aload d hx kk
theorem runN_hit (S : gS) (p : Int) {i : Nat} (h1 : S 19 i = 0) (h2 : bel S (S 20 i) p = 1) : ∀ n : Nat, i < n → runN S p n = 1 := by
  intro n
  induction n with
  | zero => intro h; omega
  | succ n ih =>
    intro h
    show (if runN S p n = 1 ∨ (S 19 n = 0 ∧ bel S (S 20 n) p = 1) then (1 : Int) else 0) = 1
    by_cases q : i = n
    · subst q
      exact if_pos (Or.inr ⟨h1, h2⟩)
    · exact if_pos (Or.inl (ih (by omega)))
theorem aaN_hit (S : gS) (x : Int) {i : Nat} (h1 : S 21 i = x) : ∀ n : Nat, i < n → (∀ j : Nat, i < j → j < n → S 21 j ≠ x) → aaN S x n = i := by
  intro n
  induction n with
  | zero => intro h; omega
  | succ n ih =>
    intro h hu
    show (if S 21 n = x then (n : Int) else aaN S x n) = i
    by_cases q : i = n
    · subst q
      exact if_pos h1
    · rw [if_neg (hu n (by omega) (by omega))]
      exact ih (by omega) (fun j a b => hu j a (by omega))
/-- how many of the first n ports of the host are published -/
def pcN (T : gS) : Nat → Int
  | 0 => 0
  | n + 1 => pcN T n + if T 24 n = -1 then 0 else 1
theorem pcN_pb (S : gS) (c k : Int) : ∀ n : Nat, pbN S c k n = pcN (sset S 24 k c) n := by
  intro n
  induction n with
  | zero => rfl
  | succ n ih =>
    show pbN S c k n + _ = pcN (sset S 24 k c) n + _
    rw [ih]
theorem L_h_hasRunning {g : xG} {K : hp} {ad : cA} {S : gS} {QX : qKE} {rc rs : Nat} {p : Int} (hI : Inv S) (hE : Ext S) (hp0 : 0 ≤ p) (hp1 : p < S 6 0) : ∀ (f9 i : Nat) (v3 : Option Value), (i : Int) ≤ S 11 0 → S 11 0 < (i : Int) + f9 → runN S p i = 0 → cW g M_h_hasRunning K (rd ad S (.int (iI (run1 S p)))) QX rc rs ad S 2 [some (.ref (ad 0 0)), some (.ref (ad 3 p)), some (.int (iI (i : Int))), v3] [] := by
  intro f9
  induction f9 with
  | zero => intros; omega
  | succ f9 ih =>
    intro i v3 q1 q2 q3
    obtain ⟨hR, hI1, hI2, hI3, hI4, hI5, hI6, hI7⟩ := id hI
    unfold Inv1 at hI1
    have h0 := hE.h
    have hL1 := hE.l (n := 1) (by decide) (by decide)
    have hL2 := hE.l (n := 2) (by decide) (by decide)
    have hL3 := hE.l (n := 3) (by decide) (by decide)
    have hL4 := hE.l (n := 4) (by decide) (by decide)
    have hL5 := hE.l (n := 5) (by decide) (by decide)
    have hO := hE.o
    have hRm := hE.r
    refine c_iload_n d_h_hasRunning_2 rfl ?_
    refine c_aload_n d_h_hasRunning_3 rfl ?_
    refine cg_h_19_6 h0 d_h_hasRunning_4 rfl ?_
    refine c_lsize3 hL3 d_h_hasRunning_7 q_h_hasRunning_147 (Nat.le_of_ble_eq_true rfl) rfl ?_
    refine c_icmp_ge (tgt := 51) d_h_hasRunning_10 (by decide) (by first | assumption | exact hR _ _ (by decide) | (unfold R32; omega)) (by first | assumption | exact hR _ _ (by decide) | (unfold R32; omega)) (fun z10 => ?_) (fun z10 => ?_)
    · refine c_iconst d_h_hasRunning_51 ?_
      exact c_zret rfl (by omega) d_h_hasRunning_52 (⟨congrArg (fun z => some (Value.int (iI z))) (by unfold run1; rw [show (S 11 0).toNat = i by omega, q3]), rfl, rfl⟩)
    · have hgi := (hI4 i (by omega) (by omega)).2.1
      have hbl := bel_01 S (S 20 i) p
      refine c_aload_n d_h_hasRunning_13 rfl ?_
      refine cg_h_19_6 h0 d_h_hasRunning_14 rfl ?_
      refine c_iload_n d_h_hasRunning_17 rfl ?_
      refine c_lget3 hL3 (hE.k (by omega) (by omega)) (by omega) (by omega) d_h_hasRunning_18 d_h_hasRunning_21 q_h_hasRunning_226 (Nat.le_of_ble_eq_true rfl) rfl rfl ?_
      refine c_astore_n d_h_hasRunning_24 (by decide) ?_
      refine c_aload_n d_h_hasRunning_25 rfl ?_
      refine cg_h_191_2 (hE.k (by omega) (by omega)) d_h_hasRunning_26 rfl ?_
      refine c_if_ne (tgt := 45) d_h_hasRunning_29 (by decide) (by first | assumption | exact hR _ _ (by decide) | (unfold R32; omega)) (fun z29 => ?_) (fun z29 => ?_)
      · refine c_iinc d_h_hasRunning_45 rfl (by decide) ?_
        refine c_goto (tgt := 2) d_h_hasRunning_48 (by decide) ?_
        exact ih (i + 1) _ (by omega) (by omega) (if_neg (by rw [q3]; omega))
      · refine c_aload_n d_h_hasRunning_32 rfl ?_
        refine cg_h_214_2 (hE.k (by omega) (by omega)) d_h_hasRunning_33 rfl ?_
        refine c_aload_n d_h_hasRunning_36 rfl ?_
        refine c_callV (r := (RX2, TX2, 7)) d_h_hasRunning_37 q_h_hasRunning_250 s_g_isWithin v_g_isWithin (t_g_isWithin hI2 hI1 (fun p a b => hE.p a b) hgi.1 hgi.2 hp0 hp1) (fun _ z => ⟨_, z.at 3 (by decide) (hE.p hgi.1 hgi.2)⟩) rfl rfl rfl rfl (Nat.le_of_ble_eq_true rfl) rfl rfl rfl (fun _ _ _ z => z) ?_
        rintro _ _ _ ⟨rfl, rfl, rfl⟩
        refine c_if_eq (tgt := 45) d_h_hasRunning_40 (by decide) (by first | assumption | exact hR _ _ (by decide) | (unfold R32; omega)) (fun z40 => ?_) (fun z40 => ?_)
        · refine c_iinc d_h_hasRunning_45 rfl (by decide) ?_
          refine c_goto (tgt := 2) d_h_hasRunning_48 (by decide) ?_
          exact ih (i + 1) _ (by omega) (by omega) (if_neg (by rw [q3]; omega))
        · refine c_iconst d_h_hasRunning_43 ?_
          exact c_zret rfl (by omega) d_h_hasRunning_44 (⟨congrArg (fun z => some (Value.int (iI z))) (runN_hit S p (i := i) (by omega) (by omega) (S 11 0).toNat (by omega)).symm, rfl, rfl⟩)
theorem t_h_hasRunning {g : xG} {K : hp} {ad : cA} {S : gS} {QX : qKE} {p : Int} (hI : Inv S) (hE : Ext S) (hp0 : 0 ≤ p) (hp1 : p < S 6 0) : cM g y_h_hasRunning k_h_hasRunning M_h_hasRunning K [.ref (ad 0 0), .ref (ad 3 p)] ad S (rd ad S (.int (iI (run1 S p)))) QX := by
  refine cM.of rfl (by decide) rfl rfl rfl (by simp [Value.category]) (Nat.le_of_ble_eq_true rfl) rfl ?_
  obtain ⟨hR, hI1, hI2, hI3, hI4, hI5, hI6, hI7⟩ := id hI
  unfold Inv1 at hI1
  have h0 := hE.h
  have hL1 := hE.l (n := 1) (by decide) (by decide)
  have hL2 := hE.l (n := 2) (by decide) (by decide)
  have hL3 := hE.l (n := 3) (by decide) (by decide)
  have hL4 := hE.l (n := 4) (by decide) (by decide)
  have hL5 := hE.l (n := 5) (by decide) (by decide)
  have hO := hE.o
  have hRm := hE.r
  refine c_iconst d_h_hasRunning_0 ?_
  refine c_istore_n d_h_hasRunning_1 (by decide) ?_
  exact L_h_hasRunning hI hE hp0 hp1 (S 11 0 + 1).toNat 0 none (by omega) (by omega) rfl
theorem L_h_largestIn {g : xG} {K : hp} {ad : cA} {S : gS} {QX : qKE} {rc rs : Nat} {p : Int} (hI : Inv S) (hE : Ext S) (hp0 : 0 ≤ p) (hp1 : p < S 6 0) : ∀ (f9 i : Nat) (v4 v5 : Option Value), (i : Int) ≤ S 11 0 → S 11 0 < (i : Int) + f9 → cW g M_h_largestIn K (rd ad S (rfo ad 4 (gre S p))) QX rc rs ad S 4 [some (.ref (ad 0 0)), some (.ref (ad 3 p)), some (rfo ad 4 (grN S p i)), some (.int (iI (i : Int))), v4, v5] [] := by
  intro f9
  induction f9 with
  | zero => intros; omega
  | succ f9 ih =>
    intro i v4 v5 q1 q2
    obtain ⟨hR, hI1, hI2, hI3, hI4, hI5, hI6, hI7⟩ := id hI
    unfold Inv1 at hI1
    have h0 := hE.h
    have hL1 := hE.l (n := 1) (by decide) (by decide)
    have hL2 := hE.l (n := 2) (by decide) (by decide)
    have hL3 := hE.l (n := 3) (by decide) (by decide)
    have hL4 := hE.l (n := 4) (by decide) (by decide)
    have hL5 := hE.l (n := 5) (by decide) (by decide)
    have hO := hE.o
    have hRm := hE.r
    have hgb := grN_b S p i
    refine c_iload_n d_h_largestIn_4 rfl ?_
    refine c_aload_n d_h_largestIn_5 rfl ?_
    refine cg_h_19_6 h0 d_h_largestIn_6 rfl ?_
    refine c_lsize3 hL3 d_h_largestIn_9 q_h_largestIn_147 (Nat.le_of_ble_eq_true rfl) rfl ?_
    refine c_icmp_ge (tgt := 86) d_h_largestIn_12 (by decide) (by first | assumption | exact hR _ _ (by decide) | (unfold R32; omega)) (by first | assumption | exact hR _ _ (by decide) | (unfold R32; omega)) (fun z12 => ?_) (fun z12 => ?_)
    · refine c_aload_nR d_h_largestIn_86 rfl ?_
      exact c_aret rfl (Or.inl ⟨_, rfl⟩) (rfo_or _ _) d_h_largestIn_87 (⟨by unfold gre; rw [show (S 11 0).toNat = i by omega], rfl, rfl⟩)
    · have hgi := (hI4 i (by omega) (by omega)).2.1
      have hbl := bel_01 S (S 20 i) p
      refine c_aload_n d_h_largestIn_15 rfl ?_
      refine cg_h_19_6 h0 d_h_largestIn_16 rfl ?_
      refine c_iload_n d_h_largestIn_19 rfl ?_
      refine c_lget3 hL3 (hE.k (by omega) (by omega)) (by omega) (by omega) d_h_largestIn_20 d_h_largestIn_23 q_h_largestIn_226 (Nat.le_of_ble_eq_true rfl) rfl rfl ?_
      refine c_astore d_h_largestIn_26 (by decide) ?_
      refine c_aload d_h_largestIn_28 rfl ?_
      refine cg_h_191_2 (hE.k (by omega) (by omega)) d_h_largestIn_30 rfl ?_
      refine c_iconst d_h_largestIn_33 ?_
      refine c_icmp_eq (tgt := 53) d_h_largestIn_34 (by decide) (by first | assumption | exact hR _ _ (by decide) | (unfold R32; omega)) (by first | assumption | exact hR _ _ (by decide) | (unfold R32; omega)) (fun z34 => ?_) (fun z34 => ?_)
      · refine c_iconst d_h_largestIn_53 ?_
        refine c_istore d_h_largestIn_54 (by decide) ?_
        refine c_iload d_h_largestIn_56 rfl ?_
        refine c_if_eq (tgt := 80) d_h_largestIn_58 (by decide) (by first | assumption | exact hR _ _ (by decide) | (unfold R32; omega)) (fun z58 => ?_) (fun z58 => ?_)
        · refine c_iinc d_h_largestIn_80 rfl (by decide) ?_
          refine c_goto (tgt := 4) d_h_largestIn_83 (by decide) ?_
          first
          | (first
               | (have e9 : grN S p (i + 1) = grN S p i := if_neg (by omega)
                  have e := ih (i + 1) (some (.ref (ad 4 i))) (some (.int (iI 1))) (by omega) (by omega)
                  rw [e9] at e
                  exact e)
               | (have e9 : grN S p (i + 1) = i := if_pos (by omega)
                  have e := ih (i + 1) (some (.ref (ad 4 i))) (some (.int (iI 1))) (by omega) (by omega)
                  rw [e9, show rfo ad 4 (i : Int) = .ref (ad 4 i) from rfo_ref (by omega)] at e
                  exact e))
          | (first
               | (have e9 : grN S p (i + 1) = grN S p i := if_neg (by omega)
                  have e := ih (i + 1) (some (.ref (ad 4 i))) (some (.int (iI 0))) (by omega) (by omega)
                  rw [e9] at e
                  exact e)
               | (have e9 : grN S p (i + 1) = i := if_pos (by omega)
                  have e := ih (i + 1) (some (.ref (ad 4 i))) (some (.int (iI 0))) (by omega) (by omega)
                  rw [e9, show rfo ad 4 (i : Int) = .ref (ad 4 i) from rfo_ref (by omega)] at e
                  exact e))
        · exact absurd z58 (by decide)
      · refine c_aload d_h_largestIn_37 rfl ?_
        refine cg_h_214_2 (hE.k (by omega) (by omega)) d_h_largestIn_39 rfl ?_
        refine c_aload_n d_h_largestIn_42 rfl ?_
        refine c_callV (r := (RX2, TX2, 7)) d_h_largestIn_43 q_h_largestIn_250 s_g_isWithin v_g_isWithin (t_g_isWithin hI2 hI1 (fun p a b => hE.p a b) hgi.1 hgi.2 hp0 hp1) (fun _ z => ⟨_, z.at 3 (by decide) (hE.p hgi.1 hgi.2)⟩) rfl rfl rfl rfl (Nat.le_of_ble_eq_true rfl) rfl rfl rfl (fun _ _ _ z => z) ?_
        rintro _ _ _ ⟨rfl, rfl, rfl⟩
        refine c_if_eq (tgt := 53) d_h_largestIn_46 (by decide) (by first | assumption | exact hR _ _ (by decide) | (unfold R32; omega)) (fun z46 => ?_) (fun z46 => ?_)
        · refine c_iconst d_h_largestIn_53 ?_
          refine c_istore d_h_largestIn_54 (by decide) ?_
          refine c_iload d_h_largestIn_56 rfl ?_
          refine c_if_eq (tgt := 80) d_h_largestIn_58 (by decide) (by first | assumption | exact hR _ _ (by decide) | (unfold R32; omega)) (fun z58 => ?_) (fun z58 => ?_)
          · refine c_iinc d_h_largestIn_80 rfl (by decide) ?_
            refine c_goto (tgt := 4) d_h_largestIn_83 (by decide) ?_
            first
            | (first
                 | (have e9 : grN S p (i + 1) = grN S p i := if_neg (by omega)
                    have e := ih (i + 1) (some (.ref (ad 4 i))) (some (.int (iI 1))) (by omega) (by omega)
                    rw [e9] at e
                    exact e)
                 | (have e9 : grN S p (i + 1) = i := if_pos (by omega)
                    have e := ih (i + 1) (some (.ref (ad 4 i))) (some (.int (iI 1))) (by omega) (by omega)
                    rw [e9, show rfo ad 4 (i : Int) = .ref (ad 4 i) from rfo_ref (by omega)] at e
                    exact e))
            | (first
                 | (have e9 : grN S p (i + 1) = grN S p i := if_neg (by omega)
                    have e := ih (i + 1) (some (.ref (ad 4 i))) (some (.int (iI 0))) (by omega) (by omega)
                    rw [e9] at e
                    exact e)
                 | (have e9 : grN S p (i + 1) = i := if_pos (by omega)
                    have e := ih (i + 1) (some (.ref (ad 4 i))) (some (.int (iI 0))) (by omega) (by omega)
                    rw [e9, show rfo ad 4 (i : Int) = .ref (ad 4 i) from rfo_ref (by omega)] at e
                    exact e))
          · exact absurd z58 (by decide)
        · refine c_iconst d_h_largestIn_49 ?_
          refine c_goto (tgt := 54) d_h_largestIn_50 (by decide) ?_
          refine c_istore d_h_largestIn_54 (by decide) ?_
          refine c_iload d_h_largestIn_56 rfl ?_
          refine c_if_eq (tgt := 80) d_h_largestIn_58 (by decide) (by first | assumption | exact hR _ _ (by decide) | (unfold R32; omega)) (fun z58 => ?_) (fun z58 => ?_)
          · exact absurd z58 (by decide)
          · refine c_aload_nR d_h_largestIn_61 rfl ?_
            refine c_ifnullR (tgt := 77) d_h_largestIn_62 (by decide) (fun z62 => ?_) (fun z62 => ?_)
            · refine c_aload d_h_largestIn_77 rfl ?_
              refine c_astore_n d_h_largestIn_79 (by decide) ?_
              refine c_iinc d_h_largestIn_80 rfl (by decide) ?_
              refine c_goto (tgt := 4) d_h_largestIn_83 (by decide) ?_
              first
              | (first
                   | (have e9 : grN S p (i + 1) = grN S p i := if_neg (by omega)
                      have e := ih (i + 1) (some (.ref (ad 4 i))) (some (.int (iI 1))) (by omega) (by omega)
                      rw [e9] at e
                      exact e)
                   | (have e9 : grN S p (i + 1) = i := if_pos (by omega)
                      have e := ih (i + 1) (some (.ref (ad 4 i))) (some (.int (iI 1))) (by omega) (by omega)
                      rw [e9, show rfo ad 4 (i : Int) = .ref (ad 4 i) from rfo_ref (by omega)] at e
                      exact e))
              | (first
                   | (have e9 : grN S p (i + 1) = grN S p i := if_neg (by omega)
                      have e := ih (i + 1) (some (.ref (ad 4 i))) (some (.int (iI 0))) (by omega) (by omega)
                      rw [e9] at e
                      exact e)
                   | (have e9 : grN S p (i + 1) = i := if_pos (by omega)
                      have e := ih (i + 1) (some (.ref (ad 4 i))) (some (.int (iI 0))) (by omega) (by omega)
                      rw [e9, show rfo ad 4 (i : Int) = .ref (ad 4 i) from rfo_ref (by omega)] at e
                      exact e))
            refine c_aload d_h_largestIn_65 rfl ?_
            refine cg_h_211_2 (hE.k (by omega) (by omega)) d_h_largestIn_67 rfl ?_
            refine c_aload_nV z62 d_h_largestIn_70 rfl ?_
            refine cg_h_211_2 (hE.k (by omega) (by omega)) d_h_largestIn_71 rfl ?_
            refine c_icmp_lt (tgt := 80) d_h_largestIn_74 (by decide) (by first | assumption | exact hR _ _ (by decide) | (unfold R32; omega)) (by first | assumption | exact hR _ _ (by decide) | (unfold R32; omega)) (fun z74 => ?_) (fun z74 => ?_)
            · refine c_iinc d_h_largestIn_80 rfl (by decide) ?_
              refine c_goto (tgt := 4) d_h_largestIn_83 (by decide) ?_
              first
              | (first
                   | (have e9 : grN S p (i + 1) = grN S p i := if_neg (by omega)
                      have e := ih (i + 1) (some (.ref (ad 4 i))) (some (.int (iI 1))) (by omega) (by omega)
                      rw [e9] at e
                      exact e)
                   | (have e9 : grN S p (i + 1) = i := if_pos (by omega)
                      have e := ih (i + 1) (some (.ref (ad 4 i))) (some (.int (iI 1))) (by omega) (by omega)
                      rw [e9, show rfo ad 4 (i : Int) = .ref (ad 4 i) from rfo_ref (by omega)] at e
                      exact e))
              | (first
                   | (have e9 : grN S p (i + 1) = grN S p i := if_neg (by omega)
                      have e := ih (i + 1) (some (.ref (ad 4 i))) (some (.int (iI 0))) (by omega) (by omega)
                      rw [e9] at e
                      exact e)
                   | (have e9 : grN S p (i + 1) = i := if_pos (by omega)
                      have e := ih (i + 1) (some (.ref (ad 4 i))) (some (.int (iI 0))) (by omega) (by omega)
                      rw [e9, show rfo ad 4 (i : Int) = .ref (ad 4 i) from rfo_ref (by omega)] at e
                      exact e))
            · refine c_aload d_h_largestIn_77 rfl ?_
              refine c_astore_n d_h_largestIn_79 (by decide) ?_
              refine c_iinc d_h_largestIn_80 rfl (by decide) ?_
              refine c_goto (tgt := 4) d_h_largestIn_83 (by decide) ?_
              first
              | (first
                   | (have e9 : grN S p (i + 1) = grN S p i := if_neg (by omega)
                      have e := ih (i + 1) (some (.ref (ad 4 i))) (some (.int (iI 1))) (by omega) (by omega)
                      rw [e9] at e
                      exact e)
                   | (have e9 : grN S p (i + 1) = i := if_pos (by omega)
                      have e := ih (i + 1) (some (.ref (ad 4 i))) (some (.int (iI 1))) (by omega) (by omega)
                      rw [e9, show rfo ad 4 (i : Int) = .ref (ad 4 i) from rfo_ref (by omega)] at e
                      exact e))
              | (first
                   | (have e9 : grN S p (i + 1) = grN S p i := if_neg (by omega)
                      have e := ih (i + 1) (some (.ref (ad 4 i))) (some (.int (iI 0))) (by omega) (by omega)
                      rw [e9] at e
                      exact e)
                   | (have e9 : grN S p (i + 1) = i := if_pos (by omega)
                      have e := ih (i + 1) (some (.ref (ad 4 i))) (some (.int (iI 0))) (by omega) (by omega)
                      rw [e9, show rfo ad 4 (i : Int) = .ref (ad 4 i) from rfo_ref (by omega)] at e
                      exact e))
theorem t_h_largestIn {g : xG} {K : hp} {ad : cA} {S : gS} {QX : qKE} {p : Int} (hI : Inv S) (hE : Ext S) (hp0 : 0 ≤ p) (hp1 : p < S 6 0) : cM g y_h_largestIn k_h_largestIn M_h_largestIn K [.ref (ad 0 0), .ref (ad 3 p)] ad S (rd ad S (rfo ad 4 (gre S p))) QX := by
  refine cM.of rfl (by decide) rfl rfl rfl (by simp [Value.category]) (Nat.le_of_ble_eq_true rfl) rfl ?_
  obtain ⟨hR, hI1, hI2, hI3, hI4, hI5, hI6, hI7⟩ := id hI
  unfold Inv1 at hI1
  have h0 := hE.h
  have hL1 := hE.l (n := 1) (by decide) (by decide)
  have hL2 := hE.l (n := 2) (by decide) (by decide)
  have hL3 := hE.l (n := 3) (by decide) (by decide)
  have hL4 := hE.l (n := 4) (by decide) (by decide)
  have hL5 := hE.l (n := 5) (by decide) (by decide)
  have hO := hE.o
  have hRm := hE.r
  refine c_null d_h_largestIn_0 ?_
  refine c_astore_nN d_h_largestIn_1 (by decide) ?_
  refine c_iconst d_h_largestIn_2 ?_
  refine c_istore_n d_h_largestIn_3 (by decide) ?_
  exact L_h_largestIn hI hE hp0 hp1 (S 11 0 + 1).toNat 0 none none (by omega) (by omega)
theorem L_h_attachedAt {g : xG} {K : hp} {ad : cA} {S : gS} {QX : qKE} {rc rs : Nat} {b a : Int} (hI : Inv S) (hE : Ext S) (hX9 : InvX S) (hb0 : 0 ≤ b) (hb1 : b ≤ 3) (ha0 : 1 ≤ a) (ha1 : a ≤ 6) : ∀ (f9 i : Nat) (v4 : Option Value), (i : Int) ≤ S 11 0 → S 11 0 < (i : Int) + f9 → aaN S (10 * b + a) i = -1 → cW g M_h_attachedAt K (rd ad S (rfo ad 4 (aat S b a))) QX rc rs ad S 2 [some (.ref (ad 0 0)), some (.int (iI b)), some (.int (iI a)), some (.int (iI (i : Int))), v4] [] := by
  intro f9
  induction f9 with
  | zero => intros; omega
  | succ f9 ih =>
    intro i v4 q1 q2 q3
    obtain ⟨hR, hI1, hI2, hI3, hI4, hI5, hI6, hI7⟩ := id hI
    unfold Inv1 at hI1
    have h0 := hE.h
    have hL1 := hE.l (n := 1) (by decide) (by decide)
    have hL2 := hE.l (n := 2) (by decide) (by decide)
    have hL3 := hE.l (n := 3) (by decide) (by decide)
    have hL4 := hE.l (n := 4) (by decide) (by decide)
    have hL5 := hE.l (n := 5) (by decide) (by decide)
    have hO := hE.o
    have hRm := hE.r
    refine c_iload_n d_h_attachedAt_2 rfl ?_
    refine c_aload_n d_h_attachedAt_3 rfl ?_
    refine cg_h_19_6 h0 d_h_attachedAt_4 rfl ?_
    refine c_lsize3 hL3 d_h_attachedAt_7 q_h_attachedAt_147 (Nat.le_of_ble_eq_true rfl) rfl ?_
    refine c_icmp_ge (tgt := 53) d_h_attachedAt_10 (by decide) (by first | assumption | exact hR _ _ (by decide) | (unfold R32; omega)) (by first | assumption | exact hR _ _ (by decide) | (unfold R32; omega)) (fun z10 => ?_) (fun z10 => ?_)
    · refine c_null d_h_attachedAt_53 ?_
      exact c_aret rfl (Or.inl ⟨_, rfl⟩) (Or.inl rfl) d_h_attachedAt_54 (⟨by unfold aat; rw [show (S 11 0).toNat = i by omega, q3]; rfl, rfl, rfl⟩)
    · have hbx := hE.2.2.1 i (by omega) (by omega)
      refine c_aload_n d_h_attachedAt_13 rfl ?_
      refine cg_h_19_6 h0 d_h_attachedAt_14 rfl ?_
      refine c_iload_n d_h_attachedAt_17 rfl ?_
      refine c_lget3 hL3 (hE.k (by omega) (by omega)) (by omega) (by omega) d_h_attachedAt_18 d_h_attachedAt_21 q_h_attachedAt_226 (Nat.le_of_ble_eq_true rfl) rfl rfl ?_
      refine c_astore d_h_attachedAt_24 (by decide) ?_
      refine c_aload d_h_attachedAt_26 rfl ?_
      refine cg_h_260_2 (hE.k (by omega) (by omega)) d_h_attachedAt_28 rfl ?_
      refine c_iload_n d_h_attachedAt_31 rfl ?_
      refine c_icmp_ne (tgt := 47) d_h_attachedAt_32 (by decide) (by first | assumption | exact hR _ _ (by decide) | (unfold R32; omega)) (by first | assumption | exact hR _ _ (by decide) | (unfold R32; omega)) (fun z32 => ?_) (fun z32 => ?_)
      · refine c_iinc d_h_attachedAt_47 rfl (by decide) ?_
        refine c_goto (tgt := 2) d_h_attachedAt_50 (by decide) ?_
        exact ih (i + 1) _ (by omega) (by omega) (by show (if S 21 i = 10 * b + a then (i : Int) else aaN S (10 * b + a) i) = -1; rw [if_neg (by omega)]; exact q3)
      · refine c_aload d_h_attachedAt_35 rfl ?_
        refine cg_h_265_2 (hE.k (by omega) (by omega)) d_h_attachedAt_37 rfl ?_
        refine c_iload_n d_h_attachedAt_40 rfl ?_
        refine c_icmp_ne (tgt := 47) d_h_attachedAt_41 (by decide) (by first | assumption | exact hR _ _ (by decide) | (unfold R32; omega)) (by first | assumption | exact hR _ _ (by decide) | (unfold R32; omega)) (fun z41 => ?_) (fun z41 => ?_)
        · refine c_iinc d_h_attachedAt_47 rfl (by decide) ?_
          refine c_goto (tgt := 2) d_h_attachedAt_50 (by decide) ?_
          exact ih (i + 1) _ (by omega) (by omega) (by show (if S 21 i = 10 * b + a then (i : Int) else aaN S (10 * b + a) i) = -1; rw [if_neg (by omega)]; exact q3)
        · refine c_aload d_h_attachedAt_44 rfl ?_
          exact c_aret rfl (Or.inl ⟨_, rfl⟩) (Or.inr ⟨_, rfl⟩) d_h_attachedAt_46 (⟨by unfold aat; rw [aaN_hit S (10 * b + a) (i := i) (by omega) (S 11 0).toNat (by omega) (fun j h1 h2 h3 => hX9.2.1 i j (by omega) (by omega) (by omega) (by omega) (by omega) (by omega) (by omega)), rfo_ref (by omega)], rfl, rfl⟩)
theorem t_h_attachedAt {g : xG} {K : hp} {ad : cA} {S : gS} {QX : qKE} {b a : Int} (hI : Inv S) (hE : Ext S) (hX9 : InvX S) (hb0 : 0 ≤ b) (hb1 : b ≤ 3) (ha0 : 1 ≤ a) (ha1 : a ≤ 6) : cM g y_h_attachedAt k_h_attachedAt M_h_attachedAt K [.ref (ad 0 0), .int (iI b), .int (iI a)] ad S (rd ad S (rfo ad 4 (aat S b a))) QX := by
  refine cM.of rfl (by decide) rfl rfl rfl (by simp [Value.category]) (Nat.le_of_ble_eq_true rfl) rfl ?_
  obtain ⟨hR, hI1, hI2, hI3, hI4, hI5, hI6, hI7⟩ := id hI
  unfold Inv1 at hI1
  have h0 := hE.h
  have hL1 := hE.l (n := 1) (by decide) (by decide)
  have hL2 := hE.l (n := 2) (by decide) (by decide)
  have hL3 := hE.l (n := 3) (by decide) (by decide)
  have hL4 := hE.l (n := 4) (by decide) (by decide)
  have hL5 := hE.l (n := 5) (by decide) (by decide)
  have hO := hE.o
  have hRm := hE.r
  refine c_iconst d_h_attachedAt_0 ?_
  refine c_istore_n d_h_attachedAt_1 (by decide) ?_
  exact L_h_attachedAt hI hE hX9 hb0 hb1 ha0 ha1 (S 11 0 + 1).toNat 0 none (by omega) (by omega) rfl
theorem L_h_leastFreeAddress {g : xG} {K : hp} {ad : cA} {S : gS} {QX : qKE} {rc rs : Nat} {b : Int} (hI : Inv S) (hE : Ext S) (hX9 : InvX S) (hb0 : 0 ≤ b) (hb1 : b ≤ 3) : ∀ (n : Nat) (a : Int), a + n = 7 → 1 ≤ a → faN S b n a = fad S b → cW g M_h_leastFreeAddress K (rd ad S (.int (iI (if fad S b ≤ 6 then fad S b else -1)))) QX rc rs ad S 2 [some (.ref (ad 0 0)), some (.int (iI b)), some (.int (iI a))] [] := by
  intro n
  induction n with
  | zero =>
    intro a q1 q2 q3
    have e9 : fad S b = a := q3.symm
    obtain ⟨hR, hI1, hI2, hI3, hI4, hI5, hI6, hI7⟩ := id hI
    unfold Inv1 at hI1
    have h0 := hE.h
    have hL1 := hE.l (n := 1) (by decide) (by decide)
    have hL2 := hE.l (n := 2) (by decide) (by decide)
    have hL3 := hE.l (n := 3) (by decide) (by decide)
    have hL4 := hE.l (n := 4) (by decide) (by decide)
    have hL5 := hE.l (n := 5) (by decide) (by decide)
    have hO := hE.o
    have hRm := hE.r
    refine c_iload_n d_h_leastFreeAddress_2 rfl ?_
    refine c_bipush d_h_leastFreeAddress_3 (by decide) ?_
    refine c_icmp_gt (tgt := 25) d_h_leastFreeAddress_5 (by decide) (by first | assumption | exact hR _ _ (by decide) | (unfold R32; omega)) (by first | assumption | exact hR _ _ (by decide) | (unfold R32; omega)) (fun z5 => ?_) (fun z5 => ?_)
    · refine c_iconst d_h_leastFreeAddress_25 ?_
      exact c_iret rfl d_h_leastFreeAddress_26 (⟨by rw [e9, if_neg (by omega)], rfl, rfl⟩)
    · exfalso; omega
  | succ n ih =>
    intro a q1 q2 q3
    have q3' : (if a ≤ 6 ∧ aat S b a ≠ -1 then faN S b n (a + 1) else a) = fad S b := q3
    obtain ⟨hR, hI1, hI2, hI3, hI4, hI5, hI6, hI7⟩ := id hI
    unfold Inv1 at hI1
    have h0 := hE.h
    have hL1 := hE.l (n := 1) (by decide) (by decide)
    have hL2 := hE.l (n := 2) (by decide) (by decide)
    have hL3 := hE.l (n := 3) (by decide) (by decide)
    have hL4 := hE.l (n := 4) (by decide) (by decide)
    have hL5 := hE.l (n := 5) (by decide) (by decide)
    have hO := hE.o
    have hRm := hE.r
    refine c_iload_n d_h_leastFreeAddress_2 rfl ?_
    refine c_bipush d_h_leastFreeAddress_3 (by decide) ?_
    refine c_icmp_gt (tgt := 25) d_h_leastFreeAddress_5 (by decide) (by first | assumption | exact hR _ _ (by decide) | (unfold R32; omega)) (by first | assumption | exact hR _ _ (by decide) | (unfold R32; omega)) (fun z5 => ?_) (fun z5 => ?_)
    · exfalso; omega
    · refine c_aload_n d_h_leastFreeAddress_8 rfl ?_
      refine c_iload_n d_h_leastFreeAddress_9 rfl ?_
      refine c_iload_n d_h_leastFreeAddress_10 rfl ?_
      refine c_callV (r := (RX6, TX6, 7)) d_h_leastFreeAddress_11 q_h_leastFreeAddress_301 s_h_attachedAt v_h_attachedAt (t_h_attachedAt hI hE hX9 hb0 hb1 q2 (by omega)) (fun _ z => ⟨_, z.at 0 (by decide) h0⟩) rfl rfl rfl rfl (Nat.le_of_ble_eq_true rfl) rfl rfl rfl (fun _ _ _ z => z) ?_
      rintro _ _ _ ⟨rfl, rfl, rfl⟩
      refine c_ifnonnullR (tgt := 19) d_h_leastFreeAddress_14 (by decide) (fun z14 => ?_) (fun z14 => ?_)
      · refine c_iinc d_h_leastFreeAddress_19 rfl (by decide) ?_
        refine c_goto (tgt := 2) d_h_leastFreeAddress_22 (by decide) ?_
        exact ih (a + 1) (by omega) (by omega) (by rw [← q3', if_pos ⟨by omega, z14⟩])
      refine c_iload_n d_h_leastFreeAddress_17 rfl ?_
      exact c_iret rfl d_h_leastFreeAddress_18 (⟨by rw [show fad S b = a from q3'.symm.trans (if_neg (fun z => z.2 z14)), if_pos (by omega)], rfl, rfl⟩)
theorem t_h_leastFreeAddress {g : xG} {K : hp} {ad : cA} {S : gS} {QX : qKE} {b : Int} (hI : Inv S) (hE : Ext S) (hX9 : InvX S) (hb0 : 0 ≤ b) (hb1 : b ≤ 3) : cM g y_h_leastFreeAddress k_h_leastFreeAddress M_h_leastFreeAddress K [.ref (ad 0 0), .int (iI b)] ad S (rd ad S (.int (iI (if fad S b ≤ 6 then fad S b else -1)))) QX := by
  refine cM.of rfl (by decide) rfl rfl rfl (by simp [Value.category]) (Nat.le_of_ble_eq_true rfl) rfl ?_
  obtain ⟨hR, hI1, hI2, hI3, hI4, hI5, hI6, hI7⟩ := id hI
  unfold Inv1 at hI1
  have h0 := hE.h
  have hL1 := hE.l (n := 1) (by decide) (by decide)
  have hL2 := hE.l (n := 2) (by decide) (by decide)
  have hL3 := hE.l (n := 3) (by decide) (by decide)
  have hL4 := hE.l (n := 4) (by decide) (by decide)
  have hL5 := hE.l (n := 5) (by decide) (by decide)
  have hO := hE.o
  have hRm := hE.r
  refine c_iconst d_h_leastFreeAddress_0 ?_
  refine c_istore_n d_h_leastFreeAddress_1 (by decide) ?_
  exact L_h_leastFreeAddress hI hE hX9 hb0 hb1 6 1 (by omega) (by omega) rfl
