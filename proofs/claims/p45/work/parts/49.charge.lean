theorem bel_le {S : gS} (h2 : Inv2 S) (h1 : Inv1 S) {b : Int} (hb : 0 ≤ b) : ∀ (n : Nat) (a : Int), a < n → -1 ≤ a → a < S 6 0 → bel S a b = 1 → b ≤ a := by
  intro n
  induction n with
  | zero =>
    intro a q0 q1 q2 q3
    have : a = -1 := by omega
    subst this
    rw [bel_m1 hb] at q3
    omega
  | succ n ih =>
    intro a q0 q1 q2 q3
    by_cases hz : a = -1
    · subst hz
      rw [bel_m1 hb] at q3
      omega
    · by_cases hab : a = b
      · omega
      · have hp := h2.pa h1 a (by omega) q2
        rw [bel_s h2 h1 hb (by omega) q2 hab] at q3
        have := ih (S 7 a) (by omega) hp.1 (by omega) q3
        omega
/-- rows 30 and 31 of a group and of all above it, changed -/
def chS (S : gS) (p m n : Int) : gS := fun k j => if k = 30 ∧ 0 ≤ j ∧ bel S p j = 1 then S 30 j + m else if k = 31 ∧ 0 ≤ j ∧ bel S p j = 1 then S 31 j + n else S k j
theorem chS_m1 (S : gS) (m n : Int) : chS S (-1) m n = S := by
  funext k j
  unfold chS
  rw [if_neg (fun z => by rw [bel_m1 z.2.1] at z; omega), if_neg (fun z => by rw [bel_m1 z.2.1] at z; omega)]
theorem chS_r {S : gS} {p m n : Int} {k : Nat} (h0 : k ≠ 30) (h1 : k ≠ 31) : chS S p m n k = S k := by
  funext j
  unfold chS
  rw [if_neg (fun z => h0 z.1), if_neg (fun z => h1 z.1)]
theorem chS_s {S : gS} (h2 : Inv2 S) (h1 : Inv1 S) {p m n : Int} (h0 : 0 ≤ p) (h3 : p < S 6 0) : chS (sset (sset S 30 p (S 30 p + m)) 31 p (S 31 p + n)) (S 7 p) m n = chS S p m n := by
  have hp := h2.pa h1 p h0 h3
  funext k j
  have eb : bel (sset (sset S 30 p (S 30 p + m)) 31 p (S 31 p + n)) (S 7 p) j = bel S (S 7 p) j := bel_congr (by rw [sset_n _ _ _ (by decide), sset_n _ _ _ (by decide)]) _ _
  unfold chS
  rw [eb]
  by_cases hj0 : 0 ≤ j
  · by_cases hj : p = j
    · subst hj
      have e1 : bel S p p = 1 := bel_eq S p
      have e2 : ¬ bel S (S 7 p) p = 1 := fun q => by
        have := bel_le h2 h1 h0 (S 7 p + 1).toNat (S 7 p) (by omega) hp.1 (by omega) q
        omega
      rw [if_neg (fun z => e2 z.2.2), if_neg (fun z => e2 z.2.2)]
      unfold sset
      by_cases k30 : k = 30
      · subst k30
        rw [if_neg (by omega), if_pos ⟨rfl, rfl⟩, if_pos ⟨rfl, h0, e1⟩]
      · by_cases k31 : k = 31
        · subst k31
          rw [if_pos ⟨rfl, rfl⟩, if_neg (by omega), if_pos ⟨rfl, h0, e1⟩]
        · rw [if_neg (fun z => k31 z.1), if_neg (fun z => k30 z.1), if_neg (fun z => k30 z.1), if_neg (fun z => k31 z.1)]
    · rw [bel_s h2 h1 hj0 h0 h3 hj]
      have e1 : ∀ a, sset (sset S 30 p (S 30 p + m)) 31 p (S 31 p + n) a j = S a j := fun a => by rw [sset_o _ _ _ _ (fun z => hj z.symm), sset_o _ _ _ _ (fun z => hj z.symm)]
      rw [e1, e1, e1]
  · have hj : j ≠ p := by omega
    have e1 : ∀ a, sset (sset S 30 p (S 30 p + m)) 31 p (S 31 p + n) a j = S a j := fun a => by rw [sset_o _ _ _ _ hj, sset_o _ _ _ _ hj]
    rw [if_neg (fun z => hj0 z.2.1), if_neg (fun z => hj0 z.2.1), if_neg (fun z => hj0 z.2.1), if_neg (fun z => hj0 z.2.1), e1]
def chg (S : gS) (c m n : Int) : gS := chS (sset (sset S 14 c (S 14 c + m)) 15 c (S 15 c + n)) (S 20 c) m n
theorem L_c_charge {g : xG} {K : hp} {ad : cA} {S : gS} {QX : qKE} {rc rs : Nat} {m n : Int} {x : Nat} : ∀ (f9 : Nat) (p : Int) (T : gS), p < f9 → -1 ≤ p → p < T 6 0 → Inv2 T → Inv1 T → (∀ p, 0 ≤ p → p < T 6 0 → T 53 p = 1) → cW g M_c_charge K (fun v9 ad9 S9 => v9 = none ∧ ad = ad9 ∧ S9 = chS T p m n) QX rc rs ad T 25 [some (.ref x), some (.int (iI m)), some (.int (iI n)), some (rfo ad 3 p)] [] := by
  intro f9
  induction f9 with
  | zero =>
    intro p T q0 q1 q2 h2 h1 hG
    have hz : p = -1 := by omega
    subst hz
    refine c_aload_nN d_c_charge_25 rfl ?_
    refine c_ifnullN (tgt := 57) d_c_charge_26 (by decide) ?_
    exact c_vret rfl d_c_charge_57 (⟨rfl, rfl, (chS_m1 _ _ _).symm⟩)
  | succ f9 ih =>
    intro p T q0 q1 q2 h2 h1 hG
    by_cases hz : p = -1
    · subst hz
      refine c_aload_nN d_c_charge_25 rfl ?_
      refine c_ifnullN (tgt := 57) d_c_charge_26 (by decide) ?_
      exact c_vret rfl d_c_charge_57 (⟨rfl, rfl, (chS_m1 _ _ _).symm⟩)
    · rw [rfo_ref hz]
      have hp := h2.pa h1 p (by omega) q2
      refine c_aload_n d_c_charge_25 rfl ?_
      refine c_ifnull d_c_charge_26 ?_
      refine c_aload_n d_c_charge_29 rfl ?_
      refine c_dup d_c_charge_30 rfl ?_
      refine cg_c_41_3 (hG p (by omega) q2) d_c_charge_31 rfl ?_
      refine c_iload_n d_c_charge_34 rfl ?_
      refine c_iadd d_c_charge_35 ?_
      refine cp_c_41_3 (hG p (by omega) q2) d_c_charge_36 rfl ?_
      refine c_aload_n d_c_charge_39 rfl ?_
      refine c_dup d_c_charge_40 rfl ?_
      refine cg_c_44_3 (hG p (by omega) q2) d_c_charge_41 rfl ?_
      refine c_iload_n d_c_charge_44 rfl ?_
      refine c_iadd d_c_charge_45 ?_
      refine cp_c_44_3 (hG p (by omega) q2) d_c_charge_46 rfl ?_
      refine c_aload_n d_c_charge_49 rfl ?_
      refine cg_c_45_3 (hG p (by omega) q2) d_c_charge_50 rfl ?_
      refine c_astore_nR d_c_charge_53 (by decide) ?_
      refine c_goto (tgt := 25) d_c_charge_54 (by decide) ?_
      rw [← chS_s h2 h1 (m := m) (n := n) (by omega) q2]
      exact ih (T 7 p) (sset (sset T 30 p (T 30 p + m)) 31 p (T 31 p + n)) (by omega) hp.1 (by show T 7 p < T 6 0; omega) (h2.c rfl rfl rfl rfl) (h1.c rfl rfl rfl rfl) hG
theorem t_c_charge {g : xG} {K : hp} {ad : cA} {S : gS} {QX : qKE} {c m n : Int} (hc : S 54 c = 1) (h2 : Inv2 S) (h1 : Inv1 S) (hG : ∀ p, 0 ≤ p → p < S 6 0 → S 53 p = 1) (hg0 : 0 ≤ S 20 c) (hg1 : S 20 c < S 6 0) : cM g y_c_charge k_c_charge M_c_charge K [.ref (ad 4 c), .int (iI m), .int (iI n)] ad S (fun v9 ad9 S9 => v9 = none ∧ ad = ad9 ∧ S9 = chg S c m n) QX := by
  refine cM.of rfl (by decide) rfl rfl rfl (by simp [Value.category]) (Nat.le_of_ble_eq_true rfl) rfl ?_
  refine c_aload_n d_c_charge_0 rfl ?_
  refine c_dup d_c_charge_1 rfl ?_
  refine cg_c_35_2 hc d_c_charge_2 rfl ?_
  refine c_iload_n d_c_charge_5 rfl ?_
  refine c_iadd d_c_charge_6 ?_
  refine cp_c_35_2 hc d_c_charge_7 rfl ?_
  refine c_aload_n d_c_charge_10 rfl ?_
  refine c_dup d_c_charge_11 rfl ?_
  refine cg_c_38_2 hc d_c_charge_12 rfl ?_
  refine c_iload_n d_c_charge_15 rfl ?_
  refine c_iadd d_c_charge_16 ?_
  refine cp_c_38_2 hc d_c_charge_17 rfl ?_
  refine c_aload_n d_c_charge_20 rfl ?_
  refine cg_c_24_2 hc d_c_charge_21 rfl ?_
  refine c_astore_n d_c_charge_24 (by decide) ?_
  have e := L_c_charge (S := S) (QX := QX) (g := g) (K := K) (ad := ad) (m := m) (n := n) (x := ad 4 c) (rc := M_c_charge.2.2.2.2.2.2.cells) (rs := M_c_charge.2.2.2.2.2.2.slots) (S 20 c + 1).toNat (S 20 c) (sset (sset S 14 c (S 14 c + m)) 15 c (S 15 c + n)) (by omega) (by omega) hg1 (h2.c rfl rfl rfl rfl) (h1.c rfl rfl rfl rfl) hG
  rw [show rfo ad 3 (S 20 c) = .ref (ad 3 (S 20 c)) from rfo_ref (by omega)] at e
  exact e
theorem t_c_leaveBridge_c {g : xG} {K : hp} {ad : cA} {S : gS} {QX : qKE} {c : Int} (hc : S 54 c = 1) : cM g y_c_leaveBridge k_c_leaveBridge M_c_leaveBridge K [.ref (ad 4 c)] ad S (fun v9 ad9 S9 => v9 = none ∧ ad = ad9 ∧ S9 = sset (sset S 33 c (-1)) 34 c (-1)) QX := by
  refine cM.of rfl (by decide) rfl rfl rfl (by simp [Value.category]) (Nat.le_of_ble_eq_true rfl) rfl ?_
  refine c_aload_n d_c_leaveBridge_0 rfl ?_
  refine c_iconst d_c_leaveBridge_1 ?_
  refine cp_c_15_2 hc d_c_leaveBridge_2 rfl ?_
  refine c_aload_n d_c_leaveBridge_5 rfl ?_
  refine c_iconst d_c_leaveBridge_6 ?_
  refine cp_c_18_2 hc d_c_leaveBridge_7 rfl ?_
  exact c_vret rfl d_c_leaveBridge_10 (⟨rfl, rfl, rfl⟩)
theorem t_c_grant_c {g : xG} {K : hp} {ad : cA} {S : gS} {QX : qKE} {c u : Int} (hc : S 54 c = 1) : cM g y_c_grant k_c_grant M_c_grant K [.ref (ad 4 c), .int (iI u)] ad S (fun v9 ad9 S9 => v9 = none ∧ ad = ad9 ∧ S9 = sset S 22 c (S 22 c + u)) QX := by
  refine cM.of rfl (by decide) rfl rfl rfl (by simp [Value.category]) (Nat.le_of_ble_eq_true rfl) rfl ?_
  refine c_aload_n d_c_grant_0 rfl ?_
  refine c_dup d_c_grant_1 rfl ?_
  refine cg_c_32_2 hc d_c_grant_2 rfl ?_
  refine c_iload_n d_c_grant_5 rfl ?_
  refine c_iadd d_c_grant_6 ?_
  refine cp_c_32_2 hc d_c_grant_7 rfl ?_
  exact c_vret rfl d_c_grant_10 (⟨rfl, rfl, rfl⟩)
theorem t_g_grant_c {g : xG} {K : hp} {ad : cA} {S : gS} {QX : qKE} {p u : Int} (hp : S 53 p = 1) : cM g y_g_grant k_g_grant M_g_grant K [.ref (ad 3 p), .int (iI u)] ad S (fun v9 ad9 S9 => v9 = none ∧ ad = ad9 ∧ S9 = sset S 32 p (S 32 p + u)) QX := by
  refine cM.of rfl (by decide) rfl rfl rfl (by simp [Value.category]) (Nat.le_of_ble_eq_true rfl) rfl ?_
  refine c_aload_n d_g_grant_0 rfl ?_
  refine c_dup d_g_grant_1 rfl ?_
  refine cg_g_20_3 hp d_g_grant_2 rfl ?_
  refine c_iload_n d_g_grant_5 rfl ?_
  refine c_iadd d_g_grant_6 ?_
  refine cp_g_20_3 hp d_g_grant_7 rfl ?_
  exact c_vret rfl d_g_grant_10 (⟨rfl, rfl, rfl⟩)
def agr (S9 T : gS) : Prop := ∀ k, k < 28 → S9 k = T k
theorem agr_refl (S : gS) : agr S S := fun _ _ => Eq.refl _
theorem Inv_agr {S9 T : gS} (hI : Inv T) (h : agr S9 T) (hR : ExR S9) : Inv S9 := by
  obtain ⟨hr, h1, h2, h3, h4, h5, h6, h7⟩ := hI
  have e : ∀ k, (decide (k < 28)) = true → S9 k = T k := fun k hk => h k (of_decide_eq_true hk)
  refine ⟨fun k j hk => ?_, h1.c (e 3 rfl) (e 6 rfl) (e 11 rfl) (e 23 rfl), h2.c (e 3 rfl) (e 4 rfl) (e 6 rfl) (e 7 rfl), fun k hk => ?_, fun k h0 hk => ?_, h5.c (e 6 rfl) (e 8 rfl) (e 9 rfl) (e 10 rfl), ?_, ?_⟩
  · by_cases q : k < 28
    · rw [h k q]; exact hr k j hk
    · exact hR k j (by omega)
  · rw [isCK.eq (e 11 rfl) (e 23 rfl)] at hk
    rw [e 12 rfl, e 13 rfl, e 14 rfl, e 15 rfl, e 16 rfl, e 17 rfl, e 18 rfl, e 3 rfl]
    exact h3 k hk
  · rw [e 11 rfl] at hk
    rw [e 19 rfl, e 20 rfl, e 21 rfl, e 6 rfl, e 14 rfl, e 15 rfl, e 18 rfl]
    exact h4 k h0 hk
  · unfold Inv6
    rw [e 1 rfl, e 2 rfl, e 5 rfl, e 24 rfl, e 11 rfl]
    exact h6
  · unfold Inv7
    rw [e 3 rfl, e 4 rfl, e 5 rfl, e 8 rfl, e 9 rfl, e 12 rfl, memI_eq (e 7 rfl) (e 11 rfl) (e 14 rfl) (e 20 rfl), prcI_eq (e 7 rfl) (e 11 rfl) (e 15 rfl) (e 20 rfl)]
    refine ⟨fun k a b => ?_, fun k hk => ?_, h7.2.2⟩
    · rw [lay_congr (e 4 rfl)]; exact h7.1 k a b
    · rw [isCK.eq (e 11 rfl) (e 23 rfl)] at hk; exact h7.2.1 k hk
theorem ExM_chg {S : gS} (hI : Inv S) (hX : ExM S) {c m n : Int} (hc : 0 ≤ c) (hc2 : c < S 11 0) : ExM (chg S c m n) := by
  obtain ⟨hr, h1, h2, h3, h4, h5, h6, h7⟩ := id hI
  intro p h0 hp
  have hp' : p < S 6 0 := hp
  have hx := hX p h0 hp'
  have e30 : chg S c m n 30 p = S 30 p + (if bel S (S 20 c) p = 1 then m else 0) := by
    show (if 30 = 30 ∧ 0 ≤ p ∧ bel _ (S 20 c) p = 1 then S 30 p + m else if 30 = 31 ∧ 0 ≤ p ∧ bel _ (S 20 c) p = 1 then S 31 p + n else S 30 p) = _
    rw [bel_congr (S := S) (by rfl)]
    by_cases q : bel S (S 20 c) p = 1
    · rw [if_pos ⟨rfl, h0, q⟩, if_pos q]
    · rw [if_neg (fun z => q z.2.2), if_neg (fun z => q z.2.2), if_neg q]; omega
  have e31 : chg S c m n 31 p = S 31 p + (if bel S (S 20 c) p = 1 then n else 0) := by
    show (if 31 = 31 ∧ 0 ≤ p ∧ bel _ (S 20 c) p = 1 then S 31 p + n else S 31 p) = _
    rw [bel_congr (S := S) (by rfl)]
    by_cases q : bel S (S 20 c) p = 1
    · rw [if_pos ⟨rfl, h0, q⟩, if_pos q]
    · rw [if_neg (fun z => q z.2.2), if_neg q]; omega
  have e14 : chg S c m n 14 = sset S 14 c (S 14 c + m) 14 := by funext j; rfl
  have e15 : chg S c m n 15 = sset (sset S 14 c (S 14 c + m)) 15 c (S 15 c + n) 15 := by funext j; rfl
  have m1 := memI_up (S' := chg S c m n) h1 (by funext j; rfl) (by funext j; rfl) (by funext j; rfl) p hc hc2 (fun k hk => by rw [e14, sset_o _ _ _ _ hk])
  have m2 := prcI_up (S' := chg S c m n) h1 (by funext j; rfl) (by funext j; rfl) (by funext j; rfl) p hc hc2 (fun k hk => by rw [e15, sset_o _ _ _ _ hk, sset_o _ _ _ _ hk])
  rw [e14, sset_e] at m1
  rw [e15, sset_e] at m2
  rw [e30, e31, m1, m2]
  refine ⟨?_, ?_⟩
  · split <;> omega
  · split <;> omega
