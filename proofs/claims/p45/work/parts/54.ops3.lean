theorem cls_g25 {g : xG} {K : hp} {ad : cA} {S : gS} {h : hp} (hc : cls g K ad S h) (i v : Int) : cls g K ad (sset S 25 i v) h :=
  hc.ghost (fun q hq _ => sset_n S i v (by omega)) (fun n => rfl) (fun k j hk _ _ _ => by
    rcases k11 hk with rfl | rfl | rfl | rfl | rfl | rfl | rfl | rfl | rfl | rfl | rfl <;> rfl)
theorem brg {S : gS} (hE : Ext S) {c : Int} (hc0 : 0 ≤ c) (hc1 : c < S 11 0) (h : S 33 c ≠ -1 ∨ S 21 c ≠ -1) : 0 ≤ S 33 c ∧ S 33 c ≤ 3 ∧ 1 ≤ S 34 c ∧ S 34 c ≤ 6 ∧ S 21 c = 10 * S 33 c + S 34 c ∧ S 33 c = S 21 c / 10 := by
  have := hE.2.2.1 c hc0 hc1
  omega
theorem ExB_set {S : gS} (hE : ExB S) {c a b x : Int} (h : (x = -1 ∧ a = -1 ∧ b = -1) ∨ (0 ≤ a ∧ a ≤ 3 ∧ 1 ≤ b ∧ b ≤ 6 ∧ x = 10 * a + b)) : ExB (sset (sset (sset S 33 c a) 34 c b) 21 c x) := by
  intro j h0 h1
  show ((if 21 = 21 ∧ j = c then x else S 21 j) = -1 ∧ (if 33 = 33 ∧ j = c then a else S 33 j) = -1 ∧ (if 34 = 34 ∧ j = c then b else S 34 j) = -1) ∨ (0 ≤ (if 33 = 33 ∧ j = c then a else S 33 j) ∧ (if 33 = 33 ∧ j = c then a else S 33 j) ≤ 3 ∧ 1 ≤ (if 34 = 34 ∧ j = c then b else S 34 j) ∧ (if 34 = 34 ∧ j = c then b else S 34 j) ≤ 6 ∧ (if 21 = 21 ∧ j = c then x else S 21 j) = 10 * (if 33 = 33 ∧ j = c then a else S 33 j) + (if 34 = 34 ∧ j = c then b else S 34 j))
  have q := hE j h0 h1
  by_cases e : j = c
  · rw [if_pos ⟨rfl, e⟩, if_pos ⟨rfl, e⟩, if_pos ⟨rfl, e⟩]
    exact h
  · rw [if_neg (fun z => e z.2), if_neg (fun z => e z.2), if_neg (fun z => e z.2)]
    exact q
theorem Ext_brg {S : gS} (hE : Ext S) {c a b x : Int} (h : (x = -1 ∧ a = -1 ∧ b = -1) ∨ (0 ≤ a ∧ a ≤ 3 ∧ 1 ≤ b ∧ b ≤ 6 ∧ x = 10 * a + b)) : Ext (sset (sset (sset S 33 c a) 34 c b) 21 c x) := by
  have r : ∀ k, (k != 33 && k != 34 && k != 21) = true → sset (sset (sset S 33 c a) 34 c b) 21 c x k = S k := fun k hk => by
    simp only [Bool.and_eq_true, bne_iff_ne] at hk
    rw [sset_n _ _ _ hk.2, sset_n _ _ _ hk.1.2, sset_n _ _ _ hk.1.1]
  exact ⟨hE.1.c (r 3 rfl) (r 6 rfl) (r 11 rfl) (r 23 rfl) (fun q a b => by rw [sset_n _ _ _ (by omega), sset_n _ _ _ (by omega), sset_n _ _ _ (by omega)]), hE.2.1.c (r 6 rfl) (r 7 rfl) (r 11 rfl) (r 14 rfl) (r 15 rfl) (r 20 rfl) (r 30 rfl) (r 31 rfl), ExB_set hE.2.2.1 h, hE.2.2.2.1.c (r 3 rfl) (r 4 rfl) (r 11 rfl) (r 12 rfl) (r 23 rfl) (r 36 rfl), hE.2.2.2.2.1.c (r 6 rfl) (r 32 rfl), ((hE.2.2.2.2.2.set (fun _ => by unfold R32; omega)).set (fun _ => by unfold R32; omega)).set (fun q => absurd q (by decide))⟩
theorem brg_agr (S : gS) (c a b x : Int) : agr (sset (sset (sset S 33 c a) 34 c b) 21 c x) (sset S 21 c x) := by
  intro k hk
  by_cases q : k = 21
  · subst q; funext j; rfl
  · rw [sset_n _ _ _ q, sset_n _ _ _ q, sset_n _ _ _ (by omega), sset_n _ _ _ (by omega)]
-- killing until it fits
theorem agr_tm {S T : gS} (h : agr S T) (u m p : Int) : tm S p u m = tm T p u m := by
  have e : ∀ k, (decide (k < 28)) = true → S k = T k := fun k hk => h k (of_decide_eq_true hk)
  have q : ∀ (n : Nat) (p : Int), tmN S u m n p = tmN T u m n p := by
    intro n
    induction n with
    | zero => intro p; rfl
    | succ n ih =>
      intro p
      unfold tmN
      rw [memI_eq (e 7 rfl) (e 11 rfl) (e 14 rfl) (e 20 rfl), prcI_eq (e 7 rfl) (e 11 rfl) (e 15 rfl) (e 20 rfl), e 7 rfl, e 8 rfl, e 9 rfl, ih]
  exact q _ _
theorem agr_gre {S T : gS} (h : agr S T) (p : Int) : gre S p = gre T p := by
  have e : ∀ k, (decide (k < 28)) = true → S k = T k := fun k hk => h k (of_decide_eq_true hk)
  have q : ∀ n : Nat, grN S p n = grN T p n := by
    intro n
    induction n with
    | zero => rfl
    | succ n ih =>
      unfold grN
      rw [ih, e 19 rfl, e 20 rfl, e 14 rfl, bel_congr (e 7 rfl)]
  unfold gre
  rw [e 11 rfl]
  exact q _
theorem agr_stp {S T : gS} (h : agr S T) (c : Int) : agr (stp S c) (stp T c) := by
  intro k hk
  funext j
  unfold stp stq
  rw [h 24 (by omega), h k hk]
theorem agr.tr {S T U : gS} (h : agr S T) (h2 : agr T U) : agr S U := fun k hk => (h k hk).trans (h2 k hk)
theorem agr_alK {c u : Int} : ∀ (n : Nat) {S T : gS}, agr S T → agr (alK c u n S) (alK c u n T) := by
  intro n
  induction n with
  | zero => intro S T h; exact h
  | succ n ih =>
    intro S T h
    unfold alK
    rw [agr_tm h, h 20 (by omega), h 19 (by omega), agr_gre h]
    split
    · exact ih (agr_stp h _)
    · exact h
theorem InvX_agr {S9 T : gS} (hX : InvX T) (h : agr S9 T) : InvX S9 := by
  have e : ∀ k, (decide (k < 28)) = true → S9 k = T k := fun k hk => h k (of_decide_eq_true hk)
  refine ⟨fun p h0 h1 => ?_, ?_, ?_, ?_⟩
  · rw [e 6 rfl] at h1
    rw [prcI_eq (e 7 rfl) (e 11 rfl) (e 15 rfl) (e 20 rfl), e 9 rfl]
    exact hX.1 p h0 h1
  · rw [e 11 rfl, e 21 rfl]; exact hX.2.1
  · rw [e 11 rfl, e 19 rfl, e 15 rfl]; exact hX.2.2.1
  · rw [e 23 rfl, e 15 rfl]; exact hX.2.2.2
theorem InvX_stp {S : gS} (hI : Inv S) (hX : InvX S) {c : Int} (hc0 : 0 ≤ c) (hc1 : c < S 11 0) : InvX (stp S c) := by
  obtain ⟨hr, h1, h2, h3, h4, h5, h6, h7⟩ := id hI
  have e : ∀ k, (k != 14 && k != 15 && k != 18 && k != 19 && k != 21 && k != 24) = true → stp S c k = S k := fun k hk => by
    simp only [Bool.and_eq_true, bne_iff_ne] at hk
    exact stp_row hk.1.1.1.1.1 hk.1.1.1.1.2 hk.1.1.1.2 hk.1.1.2 hk.1.2 hk.2
  have q3 := (h3 c (Or.inl ⟨hc0, hc1⟩)).2.2.2.1
  have hN := h1.2.2.1
  refine ⟨fun p h0 hp => ?_, fun a b a0 a1 b0 b1 hab hn => ?_, fun a a0 a1 hn => ?_, fun k k0 k1 => ?_⟩
  · rw [e 6 rfl] at hp
    rw [e 9 rfl, prcI_up h1 (e 7 rfl) (e 11 rfl) (e 20 rfl) p hc0 hc1 (fun k hk => (stp_n S hk).2.1), (stp_c S c).2.1]
    have := hX.1 p h0 hp
    split <;> omega
  · rw [e 11 rfl] at a1 b1
    by_cases qa : a = c
    · subst qa
      exact absurd (stp_c S a).2.2.2.2 hn
    · rw [(stp_n S qa).2.2.2.2] at hn ⊢
      by_cases qb : b = c
      · subst qb
        rw [(stp_c S b).2.2.2.2]
        exact hn
      · rw [(stp_n S qb).2.2.2.2]
        exact hX.2.1 a b a0 a1 b0 b1 hab hn
  · rw [e 11 rfl] at a1
    by_cases qa : a = c
    · subst qa
      exact absurd (stp_c S a).2.2.2.1 hn
    · rw [(stp_n S qa).2.2.2.1] at hn
      rw [(stp_n S qa).2.1]
      exact hX.2.2.1 a a0 a1 hn
  · rw [e 23 rfl] at k1
    rw [(stp_n S (show 20 + k ≠ c by omega)).2.1]
    exact hX.2.2.2 k k0 k1
theorem ns_pos {S : gS} {c : Int} (hc0 : 0 ≤ c) (hc1 : c < S 11 0) (h : S 19 c ≠ 2) : 1 ≤ ns S := by
  have q := nsN_stp S hc0 h (S 11 0).toNat
  rw [if_pos (by omega)] at q
  unfold ns
  omega
theorem ns_agr {S T : gS} (h : agr S T) : ns S = ns T := by
  have q : ∀ n : Nat, nsN S n = nsN T n := by
    intro n
    induction n with
    | zero => rfl
    | succ n ih => unfold nsN; rw [ih, h 19 (by omega)]
  unfold ns
  rw [h 11 (by omega)]
  exact q _
theorem alK_id {S : gS} {c u : Int} (h : tm S (S 20 c) u 0 = -1 ∨ S 19 c ≠ 0) : ∀ n : Nat, alK c u n S = S := by
  intro n
  cases n with
  | zero => rfl
  | succ n => exact if_neg (fun z => h.elim z.1 (fun q => q z.2))
theorem xW_post {g : xG} {M : xMeth} {Q Q2 : qP} {QX QX2 : qE} {rc rs : Nat} {h : hp} {pc : Nat} {ls : List (Option Value)} {st : List Value} (k : xW g M Q QX rc rs h pc ls st) (h1 : ∀ v h', Q v h' → Q2 v h') (h2 : ∀ E h', QX E h' → QX2 E h') : xW g M Q2 QX2 rc rs h pc ls st := by
  intro G p e s m args below meth c H locs lsA cells slots C hh hl a1 a2 T hT X
  obtain ⟨t, a, o, b1, b2, q⟩ := k G p e s m args below meth c H locs lsA cells slots C hh hl a1 a2 T hT X
  refine ⟨t, a, o, b1, b2, ?_⟩
  rcases q with ⟨⟨v, h', e1, e2, e3⟩, z⟩ | ⟨qq, e1, E, ce, L, ⟨h', e2, e3⟩, z⟩
  · exact Or.inl ⟨⟨v, h', e1, h1 _ _ e2, e3⟩, z⟩
  · exact Or.inr ⟨qq, e1, E, ce, L, ⟨h', h2 _ _ e2, e3⟩, z⟩
theorem cW_post {g : xG} {M : xMeth} {K : hp} {Q Q2 : qK} {QX QX2 : qKE} {rc rs : Nat} {ad : cA} {S : gS} {pc : Nat} {ls : List (Option Value)} {st : List Value} (k : cW g M K Q QX rc rs ad S pc ls st) (h1 : ∀ v a s, Q v a s → Q2 v a s) (h2 : ∀ E a s, QX E a s → QX2 E a s) : cW g M K Q2 QX2 rc rs ad S pc ls st := fun h hc => xW_post (k h hc) (fun v h' ⟨a, s, q, z⟩ => ⟨a, s, h1 v a s q, z⟩) (fun E h' ⟨a, s, q, z⟩ => ⟨a, s, h2 E a s q, z⟩)
theorem L_h_killUntilFits {g : xG} {K : hp} {ad : cA} {S : gS} {QX : qKE} {rc rs : Nat} {c u : Int} (hc0 : 0 ≤ c) (hu0 : 0 ≤ u) (hu1 : u ≤ 10000) : ∀ (f9 m : Nat) (r : Int) (T : gS) (v4 v5 : Option Value), Inv T → Ext T → InvX T → c < T 11 0 → (T 19 c = 0 ∨ T 19 c = 2) → ns T < m → ns T < f9 → (0 ≤ r ∧ ns T + r ≤ T 11 0) → cW g M_h_killUntilFits K (fun v9 ad9 S9 => v9 = none ∧ ad = ad9 ∧ agr S9 (alK c u m T) ∧ Ext S9) QX rc rs ad T 2 [some (.ref (ad 0 0)), some (.ref (ad 4 c)), some (.int (iI u)), some (.int (iI r)), v4, v5] [] := by
  intro f9
  induction f9 with
  | zero => intros; omega
  | succ f9 ih =>
    intro m r T v4 v5 hI hE hX hc1 hcs q1 q2 q3
    obtain ⟨hR, hI1, hI2, hI3, hI4, hI5, hI6, hI7⟩ := id hI
    unfold Inv1 at hI1
    have h0 := hE.h
    have hL3 := hE.l (n := 3) (by decide) (by decide)
    have hg := (hI4 c hc0 hc1).2.1
    have h19 := (hI4 c hc0 hc1).1
    have hhk := hE.k hc0 hc1
    refine c_iload_n d_h_killUntilFits_2 rfl ?_
    refine c_aload_n d_h_killUntilFits_3 rfl ?_
    refine cg_h_19_6 h0 d_h_killUntilFits_4 rfl ?_
    refine c_lsize3 hL3 d_h_killUntilFits_7 q_h_killUntilFits_147 (Nat.le_of_ble_eq_true rfl) rfl ?_
    refine c_icmp_ge (tgt := 64) d_h_killUntilFits_10 (by decide) (by first | assumption | exact hR _ _ (by decide) | (unfold R32; omega)) (by first | assumption | exact hR _ _ (by decide) | (unfold R32; omega)) (fun z10 => ?_) (fun z10 => ?_)
    · exact c_vret rfl d_h_killUntilFits_64 (⟨rfl, rfl, by rw [alK_id (Or.inr (fun q => by have := ns_pos hc0 hc1 (show T 19 c ≠ 2 by omega); omega))]; exact agr_refl _, hE⟩)
    · refine c_aload_n d_h_killUntilFits_13 rfl ?_
      refine cg_h_214_2 hhk d_h_killUntilFits_14 rfl ?_
      refine c_iload_n d_h_killUntilFits_17 rfl ?_
      refine c_callV (r := (RX2, TX2, 7)) d_h_killUntilFits_18 q_h_killUntilFits_371 s_g_firstWithoutMemory v_g_firstWithoutMemory (t_g_firstWithoutMemory hI hI2 hI1 (fun p a b => hE.p a b) hE.2.1 hX.1 hg.1 hg.2 hu0 hu1) (fun _ z => ⟨_, z.at 3 (by decide) (hE.p hg.1 hg.2)⟩) rfl rfl rfl rfl (Nat.le_of_ble_eq_true rfl) rfl rfl rfl (fun _ _ _ z => z) ?_
      rintro _ _ _ ⟨rfl, rfl, rfl⟩
      refine c_astoreR d_h_killUntilFits_21 (by decide) ?_
      refine c_aloadR d_h_killUntilFits_23 rfl ?_
      refine c_ifnullR (tgt := 36) d_h_killUntilFits_25 (by decide) (fun z25 => ?_) (fun z25 => ?_)
      · exact c_vret rfl d_h_killUntilFits_36 ⟨rfl, rfl, by rw [alK_id (Or.inl z25)]; exact agr_refl _, hE⟩
      refine c_aload_n d_h_killUntilFits_28 rfl ?_
      refine cg_h_191_2 hhk d_h_killUntilFits_29 rfl ?_
      refine c_iconst d_h_killUntilFits_32 ?_
      refine c_icmp_ne (tgt := 37) d_h_killUntilFits_33 (by decide) (by first | assumption | exact hR _ _ (by decide) | (unfold R32; omega)) (by first | assumption | exact hR _ _ (by decide) | (unfold R32; omega)) (fun z33 => ?_) (fun z33 => ?_)
      · refine c_aload_n d_h_killUntilFits_37 rfl ?_
        have hv := vict hI hc0 hc1 (show T 19 c = 0 by omega) z25
        refine c_aloadV z25 d_h_killUntilFits_38 rfl ?_
        refine c_callV (r := (RX6, TX6, 7)) d_h_killUntilFits_40 q_h_killUntilFits_374 s_h_largestIn v_h_largestIn (t_h_largestIn hI hE hv.1 hv.2.1) (fun _ z => ⟨_, z.at 0 (by decide) h0⟩) rfl rfl rfl rfl (Nat.le_of_ble_eq_true rfl) rfl rfl rfl (fun _ _ _ z => z) ?_
        rintro _ _ _ ⟨rfl, rfl, rfl⟩
        refine c_astoreR d_h_killUntilFits_43 (by decide) ?_
        refine c_aloadR d_h_killUntilFits_45 rfl ?_
        refine c_ifnonnullR (tgt := 51) d_h_killUntilFits_47 (by decide) (fun z47 => ?_) (fun z47 => ?_)
        rotate_left
        · exfalso; omega
        refine c_aload_n d_h_killUntilFits_51 rfl ?_
        refine c_aloadV z47 d_h_killUntilFits_52 rfl ?_
        refine c_callV (r := (RX6, TX6, 7)) d_h_killUntilFits_54 q_h_killUntilFits_199 s_h_halt v_h_halt (t_h_halt hI hE hv.2.2.1 hv.2.2.2.1) (fun _ z => ⟨_, z.at 0 (by decide) h0⟩) rfl rfl rfl rfl (Nat.le_of_ble_eq_true rfl) rfl rfl rfl (fun _ _ _ z => z) ?_
        rintro _ _ _ ⟨rfl, rfl, rfl⟩
        refine c_pop d_h_killUntilFits_57 rfl ?_
        refine c_iinc d_h_killUntilFits_58 rfl (by decide) ?_
        refine c_goto (tgt := 2) d_h_killUntilFits_61 (by decide) ?_
        have ha := hlt_agr T (gre T (tm T (T 20 c) u 0))
        have hI' : Inv (hlt T (gre T (tm T (T 20 c) u 0))) := Inv_agr (Inv_stp hI hv.2.2.1 hv.2.2.2.1) ha (hlt_ext hI hE hv.2.2.1 hv.2.2.2.1).2.2.2.2.2
        have hn := ns_stp hI.2.1 hv.2.2.1 hv.2.2.2.1 hv.2.2.2.2
        rw [← ns_agr ha] at hn
        have e11 : hlt T (gre T (tm T (T 20 c) u 0)) 11 = T 11 := hlt_r (by decide) (by decide) (by decide) (by decide) (by decide) (by decide) (by decide) (by decide) (by decide) (by decide)
        have hcf : (hlt T (gre T (tm T (T 20 c) u 0))) 19 c = 0 ∨ (hlt T (gre T (tm T (T 20 c) u 0))) 19 c = 2 := by
          rw [ha 19 (by omega)]
          by_cases qc : c = gre T (tm T (T 20 c) u 0)
          · have hw9 : ∀ w, c = w → stp T w 19 c = 2 := fun w hw => by rw [hw]; exact (stp_c T w).2.2.2.1
            exact Or.inr (hw9 _ qc)
          · rw [(stp_n T qc).2.2.2.1]
            omega
        have e := ih (m - 1) (r + 1) (hlt T (gre T (tm T (T 20 c) u 0))) (some (rfo ad 3 (tm T (T 20 c) u 0))) (some (rfo ad 4 (gre T (tm T (T 20 c) u 0)))) hI' (hlt_ext hI hE hv.2.2.1 hv.2.2.2.1) (InvX_agr (InvX_stp hI hX hv.2.2.1 hv.2.2.2.1) ha) (by rw [e11]; exact hc1) hcf (by omega) (by omega) (by rw [e11]; omega)
        refine cW_post e (fun v9 ad9 S9 z => ⟨z.1, z.2.1, z.2.2.1.tr ?_, z.2.2.2⟩) (fun _ _ _ z => z)
        have ek : alK c u m T = alK c u (m - 1) (stp T (gre T (tm T (T 20 c) u 0))) := by
          rw [show m = (m - 1) + 1 by omega]
          exact if_pos ⟨z25, by omega⟩
        rw [ek]
        exact agr_alK _ ha
      · exact c_vret rfl d_h_killUntilFits_36 (⟨rfl, rfl, by rw [alK_id (Or.inr (by omega))]; exact agr_refl _, hE⟩)
theorem t_h_killUntilFits {g : xG} {K : hp} {ad : cA} {S : gS} {QX : qKE} {c u : Int} (hI : Inv S) (hE : Ext S) (hX : InvX S) (hc0 : 0 ≤ c) (hc1 : c < S 11 0) (hs : S 19 c = 0) (hu0 : 0 ≤ u) (hu1 : u ≤ 10000) : cM g y_h_killUntilFits k_h_killUntilFits M_h_killUntilFits K [.ref (ad 0 0), .ref (ad 4 c), .int (iI u)] ad S (fun v9 ad9 S9 => v9 = none ∧ ad = ad9 ∧ agr S9 (alS S c u) ∧ Ext S9) QX := by
  refine cM.of rfl (by decide) rfl rfl rfl (by simp [Value.category]) (Nat.le_of_ble_eq_true rfl) rfl ?_
  obtain ⟨hR, hI1, hI2, hI3, hI4, hI5, hI6, hI7⟩ := id hI
  unfold Inv1 at hI1
  have h0 := hE.h
  have hL1 := hE.l (n := 1) (by decide) (by decide)
  have hL2 := hE.l (n := 2) (by decide) (by decide)
  have hL3 := hE.l (n := 3) (by decide) (by decide)
  have hL4 := hE.l (n := 4) (by decide) (by decide)
  have hL5 := hE.l (n := 5) (by decide) (by decide)
  have hO := hE.o
  have hRm := hE.r
  have hnb : ns S ≤ 20 := by
    have := nsN_b S (S 11 0).toNat
    unfold ns
    omega
  have hnb2 : (ns S : Int) ≤ S 11 0 := by
    have := nsN_b S (S 11 0).toNat
    unfold ns
    omega
  refine c_iconst d_h_killUntilFits_0 ?_
  refine c_istore_n d_h_killUntilFits_1 (by decide) ?_
  exact L_h_killUntilFits (S := S) hc0 hu0 hu1 21 21 0 S none none hI hE hX hc1 (Or.inl hs) (by omega) (by omega) ⟨by omega, by omega⟩
/-- what alK keeps: the invariants, who lives -/
theorem alK_inv {c u : Int} (hc0 : 0 ≤ c) : ∀ (n : Nat) {S : gS}, Inv S → InvX S → c < S 11 0 → (S 19 c = 0 ∨ S 19 c = 2) → Inv (alK c u n S) ∧ InvX (alK c u n S) ∧ c < alK c u n S 11 0 ∧ (alK c u n S 19 c = 0 ∨ alK c u n S 19 c = 2) := by
  intro n
  induction n with
  | zero => intro S a b d e; exact ⟨a, b, d, e⟩
  | succ n ih =>
    intro S a b d e
    unfold alK
    split
    · rename_i q
      have hv := vict a hc0 d q.2 q.1
      refine ih (Inv_stp a hv.2.2.1 hv.2.2.2.1) (InvX_stp a b hv.2.2.1 hv.2.2.2.1) (by rw [stp_row (by decide) (by decide) (by decide) (by decide) (by decide) (by decide)]; exact d) ?_
      by_cases qc : c = gre S (tm S (S 20 c) u 0)
      · have hw9 : ∀ w, c = w → stp S w 19 c = 2 := fun w hw => by rw [hw]; exact (stp_c S w).2.2.2.1
        exact Or.inr (hw9 _ qc)
      · rw [(stp_n S qc).2.2.2.1]
        exact e
    · exact ⟨a, b, d, e⟩
theorem agr_set {S T : gS} (h : agr S T) {r : Nat} {i v : Int} : agr (sset S r i v) (sset T r i v) := by
  intro k hk
  funext j
  unfold sset
  rw [h k hk]
theorem t_h_allocate {g : xG} {K : hp} {ad : cA} {S : gS} {c u : Int} (hI : Inv S) (hE : Ext S) (hc : R32 c) (hu : R32 u) (hX9 : InvX S) : cM g y_h_allocate k_h_allocate M_h_allocate K [.ref (ad 0 0), .int (iI c), .int (iI u)] ad S (opC (cd_allocate S c u) (vl_allocate S c u) (st_allocate S c u)) (opX [eIO, eIA, eIS] ad S (cd_allocate S c u)) := by
  refine cM.of rfl (by decide) rfl rfl rfl (by simp [Value.category]) (Nat.le_of_ble_eq_true rfl) rfl ?_
  obtain ⟨hR, hI1, hI2, hI3, hI4, hI5, hI6, hI7⟩ := id hI
  unfold Inv1 at hI1
  have h0 := hE.h
  have hL1 := hE.l (n := 1) (by decide) (by decide)
  have hL2 := hE.l (n := 2) (by decide) (by decide)
  have hL3 := hE.l (n := 3) (by decide) (by decide)
  have hL4 := hE.l (n := 4) (by decide) (by decide)
  have hL5 := hE.l (n := 5) (by decide) (by decide)
  have hO := hE.o
  have hRm := hE.r
  refine c_aload_n d_h_allocate_0 rfl ?_
  refine c_iload_n d_h_allocate_1 rfl ?_
  refine c_callV (r := (RX6, TX6, 7)) d_h_allocate_2 q_h_allocate_127 s_h_containerAt v_h_containerAt (t_h_containerAt hI hE hc (fun q => ⟨rfl, rfl, 0, rfl, (by unfold cd_allocate; (repeat' split) <;> omega)⟩)) (fun _ z => ⟨_, z.at 0 (by decide) h0⟩) rfl rfl rfl rfl (Nat.le_of_ble_eq_true rfl) rfl rfl rfl (fun _ _ _ z => z) ?_
  rintro _ _ _ ⟨rfl, rfl, rfl, hc0, hc1⟩
  refine c_astore_n d_h_allocate_5 (by decide) ?_
  refine c_iload_n d_h_allocate_6 rfl ?_
  refine c_sipush d_h_allocate_7 (by decide) ?_
  refine c_callS d_h_allocate_10 q_h_allocate_71 s_h_requireWithin (t_h_requireWithin_c hu (by unfold R32; omega) (fun q => ⟨rfl, rfl, 1, rfl, (by unfold cd_allocate; (repeat' split) <;> omega)⟩)) rfl rfl (Nat.le_of_ble_eq_true rfl) rfl rfl rfl (fun _ _ _ z => z) ?_
  rintro _ _ _ ⟨rfl, rfl, rfl, hw0, hw1⟩
  refine c_aload_n d_h_allocate_13 rfl ?_
  refine c_callS d_h_allocate_14 q_h_allocate_203 s_h_requireRunning (t_h_requireRunning_c (hE.k hc0 hc1) (hR 19 c (by decide)) (fun q => ⟨rfl, rfl, 2, rfl, (by unfold cd_allocate; (repeat' split) <;> omega)⟩)) rfl rfl (Nat.le_of_ble_eq_true rfl) rfl rfl rfl (fun _ _ _ z => z) ?_
  rintro _ _ _ ⟨rfl, rfl, rfl, hs0⟩
  refine c_aload_n d_h_allocate_17 rfl ?_
  refine c_aload_n d_h_allocate_18 rfl ?_
  refine c_iload_n d_h_allocate_19 rfl ?_
  refine c_callV (r := (RX6, TX6, 7)) d_h_allocate_20 q_h_allocate_207 s_h_killUntilFits v_h_killUntilFits (t_h_killUntilFits hI hE hX9 hc0 hc1 hs0 (by omega) (by omega)) (fun _ z => ⟨_, z.at 0 (by decide) h0⟩) rfl rfl rfl rfl (Nat.le_of_ble_eq_true rfl) rfl rfl rfl (fun _ _ _ z => z) ?_
  rintro _ _ T ⟨rfl, rfl, hT, hET⟩
  have hv9 := alK_inv (u := u) hc0 21 hI hX9 hc1 (Or.inl hs0)
  have hIT : Inv T := Inv_agr hv9.1 hT hET.2.2.2.2.2
  have hcT : c < T 11 0 := by rw [hT 11 (by omega)]; exact hv9.2.2.1
  have h19T : T 19 c = alS S c u 19 c := congrFun (hT 19 (by omega)) c
  have hTR := hIT.1
  have hTg := (hIT.2.2.2.2.1 c hc0 hcT).2.1
  have hT14 := hIT.2.2.2.1 c (Or.inl ⟨hc0, hcT⟩)
  refine c_aload_n d_h_allocate_23 rfl ?_
  refine cg_h_191_2 (hET.k hc0 hcT) d_h_allocate_24 rfl ?_
  refine c_iconst d_h_allocate_27 ?_
  refine c_icmp_ne (tgt := 33) d_h_allocate_28 (by decide) (hTR 19 c (by decide)) (by unfold R32; omega) (fun z28 => ?_) (fun z28 => ?_)
  · refine c_aload_n d_h_allocate_33 rfl ?_
    refine c_iload_n d_h_allocate_34 rfl ?_
    refine c_iconst d_h_allocate_35 ?_
    refine c_callV (r := (RX1, TX1, 13)) d_h_allocate_36 q_h_allocate_182 s_c_charge v_c_charge (t_c_charge (hET.k hc0 hcT) hIT.2.2.1 hIT.2.1 (fun p a b => hET.p a b) hTg.1 hTg.2) (fun _ z => ⟨_, z.at 4 (by decide) (hET.k hc0 hcT)⟩) rfl rfl rfl rfl (Nat.le_of_ble_eq_true rfl) rfl rfl rfl (fun _ _ _ z => z) ?_
    rintro _ _ _ ⟨rfl, rfl, rfl⟩
    refine c_aload_n d_h_allocate_39 rfl ?_
    refine cg_h_211_2 ((congrFun (chg_r (by decide) (by decide) (by decide) (by decide)) c).trans (hET.k hc0 hcT)) d_h_allocate_40 rfl ?_
    exact c_iret rfl d_h_allocate_43 (⟨(by unfold cd_allocate; (repeat' split) <;> omega), by unfold vl_allocate; rw [if_neg (by omega), chg_14, hT 14 (by omega)], by unfold st_allocate; rw [if_neg (by omega), ← congrFun (hT 14 (by omega)) c]; exact (chg_agrm T c u).tr (agr_set hT), chg_ext hIT hET hc0 hcT (by omega) (by omega) (by omega) (by omega)⟩)
  · refine c_iconst d_h_allocate_31 ?_
    exact c_iret rfl d_h_allocate_32 (⟨(by unfold cd_allocate; (repeat' split) <;> omega), by unfold vl_allocate; rw [if_pos (by omega)], by unfold st_allocate; rw [if_pos (by omega)]; exact hT, hET⟩)
theorem t_h_attach {g : xG} {K : hp} {ad : cA} {S : gS} {c b : Int} (hI : Inv S) (hE : Ext S) (hc : R32 c) (hb : R32 b) (hX9 : InvX S) : cM g y_h_attach k_h_attach M_h_attach K [.ref (ad 0 0), .int (iI c), .int (iI b)] ad S (opC (cd_attach S c b) (vl_attach S c b) (st_attach S c b)) (opX [eIO, eIS] ad S (cd_attach S c b)) := by
  refine cM.of rfl (by decide) rfl rfl rfl (by simp [Value.category]) (Nat.le_of_ble_eq_true rfl) rfl ?_
  obtain ⟨hR, hI1, hI2, hI3, hI4, hI5, hI6, hI7⟩ := id hI
  unfold Inv1 at hI1
  have h0 := hE.h
  have hL1 := hE.l (n := 1) (by decide) (by decide)
  have hL2 := hE.l (n := 2) (by decide) (by decide)
  have hL3 := hE.l (n := 3) (by decide) (by decide)
  have hL4 := hE.l (n := 4) (by decide) (by decide)
  have hL5 := hE.l (n := 5) (by decide) (by decide)
  have hO := hE.o
  have hRm := hE.r
  refine c_aload_n d_h_attach_0 rfl ?_
  refine c_iload_n d_h_attach_1 rfl ?_
  refine c_callV (r := (RX6, TX6, 7)) d_h_attach_2 q_h_attach_127 s_h_containerAt v_h_containerAt (t_h_containerAt hI hE hc (fun q => ⟨rfl, rfl, 0, rfl, (by unfold cd_attach; have hb01 := bit_01 (S 17 c) 2; (repeat' split) <;> omega)⟩)) (fun _ z => ⟨_, z.at 0 (by decide) h0⟩) rfl rfl rfl rfl (Nat.le_of_ble_eq_true rfl) rfl rfl rfl (fun _ _ _ z => z) ?_
  rintro _ _ _ ⟨rfl, rfl, rfl, hc0, hc1⟩
  have hbx := hE.2.2.1 c hc0 hc1
  have h17 := (hI3 c (Or.inl ⟨hc0, hc1⟩)).2.2.2.2.2.1
  have hfb := fad_b S b
  refine c_astore_n d_h_attach_5 (by decide) ?_
  refine c_iload_n d_h_attach_6 rfl ?_
  refine c_if_lt (tgt := 15) d_h_attach_7 (by decide) (by first | assumption | exact hR _ _ (by decide) | (unfold R32; omega)) (fun z7 => ?_) (fun z7 => ?_)
  · exact fun h hc => tht_1 rfl sr_255 d_h_attach_15 d_h_attach_18 d_h_attach_19 d_h_attach_21 d_h_attach_24 rfl (by decide) (by decide) (by decide) (by decide) ⟨ad, S, ⟨rfl, rfl, 0, rfl, (by unfold cd_attach; (repeat' split) <;> omega)⟩, hc⟩
  · refine c_iload_n d_h_attach_10 rfl ?_
    refine c_iconst d_h_attach_11 ?_
    refine c_icmp_lt (tgt := 25) d_h_attach_12 (by decide) (by first | assumption | exact hR _ _ (by decide) | (unfold R32; omega)) (by first | assumption | exact hR _ _ (by decide) | (unfold R32; omega)) (fun z12 => ?_) (fun z12 => ?_)
    · refine c_aload_n d_h_attach_25 rfl ?_
      refine c_callS d_h_attach_26 q_h_attach_203 s_h_requireRunning (t_h_requireRunning_c (hE.k hc0 hc1) (hR 19 c (by decide)) (fun q => ⟨rfl, rfl, 1, rfl, (by unfold cd_attach; have hb01 := bit_01 (S 17 c) 2; (repeat' split) <;> omega)⟩)) rfl rfl (Nat.le_of_ble_eq_true rfl) rfl rfl rfl (fun _ _ _ z => z) ?_
      rintro _ _ _ ⟨rfl, rfl, rfl, hs0⟩
      refine c_aload_n d_h_attach_29 rfl ?_
      refine c_iconst d_h_attach_30 ?_
      refine c_callS d_h_attach_31 q_h_attach_245 s_h_requireEffective (t_h_requireEffective_c (hE.k hc0 hc1) h17.1 (by omega) (by omega) (fun q => ⟨rfl, rfl, 1, rfl, (by unfold cd_attach; have hb01 := bit_01 (S 17 c) 2; (repeat' split) <;> omega)⟩)) rfl rfl (Nat.le_of_ble_eq_true rfl) rfl rfl rfl (fun _ _ _ z => z) ?_
      rintro _ _ _ ⟨rfl, rfl, rfl, he0⟩
      refine c_aload_n d_h_attach_34 rfl ?_
      refine c_iload_n d_h_attach_35 rfl ?_
      refine c_callV (r := (RX6, TX6, 7)) d_h_attach_36 q_h_attach_257 s_h_leastFreeAddress v_h_leastFreeAddress (t_h_leastFreeAddress hI hE hX9 (by omega) (by omega)) (fun _ z => ⟨_, z.at 0 (by decide) h0⟩) rfl rfl rfl rfl (Nat.le_of_ble_eq_true rfl) rfl rfl rfl (fun _ _ _ z => z) ?_
      rintro _ _ _ ⟨rfl, rfl, rfl⟩
      by_cases hfc : fad S b ≤ 6
      rotate_left
      · rw [if_neg hfc]
        refine c_istore d_h_attach_39 (by decide) ?_
        refine c_aload_n d_h_attach_41 rfl ?_
        refine cg_h_260_2 (hE.k hc0 hc1) d_h_attach_42 rfl ?_
        refine c_iconst d_h_attach_45 ?_
        refine c_icmp_ne (tgt := 55) d_h_attach_46 (by decide) (by first | assumption | exact hR _ _ (by decide) | (unfold R32; omega)) (by first | assumption | exact hR _ _ (by decide) | (unfold R32; omega)) (fun z46 => ?_) (fun z46 => ?_)
        · exact fun h hc => thw_3 rfl sr_263 d_h_attach_55 d_h_attach_58 d_h_attach_59 d_h_attach_62 d_h_attach_65 rfl (by decide) (by decide) (by decide) (by decide) ⟨ad, S, ⟨rfl, rfl, 1, rfl, (by unfold cd_attach; have hb01 := bit_01 (S 17 c) 2; (repeat' split) <;> omega)⟩, hc⟩
        · refine c_iload d_h_attach_49 rfl ?_
          refine c_iconst d_h_attach_51 ?_
          refine c_icmp_ne (tgt := 66) d_h_attach_52 (by decide) (by first | assumption | exact hR _ _ (by decide) | (unfold R32; omega)) (by first | assumption | exact hR _ _ (by decide) | (unfold R32; omega)) (fun z52 => ?_) (fun z52 => ?_)
          · exfalso; omega
          · exact fun h hc => thw_3 rfl sr_263 d_h_attach_55 d_h_attach_58 d_h_attach_59 d_h_attach_62 d_h_attach_65 rfl (by decide) (by decide) (by decide) (by decide) ⟨ad, S, ⟨rfl, rfl, 1, rfl, (by unfold cd_attach; have hb01 := bit_01 (S 17 c) 2; (repeat' split) <;> omega)⟩, hc⟩
      · rw [if_pos hfc]
        refine c_istore d_h_attach_39 (by decide) ?_
        refine c_aload_n d_h_attach_41 rfl ?_
        refine cg_h_260_2 (hE.k hc0 hc1) d_h_attach_42 rfl ?_
        refine c_iconst d_h_attach_45 ?_
        refine c_icmp_ne (tgt := 55) d_h_attach_46 (by decide) (by first | assumption | exact hR _ _ (by decide) | (unfold R32; omega)) (by first | assumption | exact hR _ _ (by decide) | (unfold R32; omega)) (fun z46 => ?_) (fun z46 => ?_)
        · exact fun h hc => thw_3 rfl sr_263 d_h_attach_55 d_h_attach_58 d_h_attach_59 d_h_attach_62 d_h_attach_65 rfl (by decide) (by decide) (by decide) (by decide) ⟨ad, S, ⟨rfl, rfl, 1, rfl, (by unfold cd_attach; have hb01 := bit_01 (S 17 c) 2; (repeat' split) <;> omega)⟩, hc⟩
        · refine c_iload d_h_attach_49 rfl ?_
          refine c_iconst d_h_attach_51 ?_
          refine c_icmp_ne (tgt := 66) d_h_attach_52 (by decide) (by first | assumption | exact hR _ _ (by decide) | (unfold R32; omega)) (by first | assumption | exact hR _ _ (by decide) | (unfold R32; omega)) (fun z52 => ?_) (fun z52 => ?_)
          · refine c_aload_n d_h_attach_66 rfl ?_
            refine c_iload_n d_h_attach_67 rfl ?_
            refine cp_h_260_2 (hE.k hc0 hc1) d_h_attach_68 rfl ?_
            refine c_aload_n d_h_attach_71 rfl ?_
            refine c_iload d_h_attach_72 rfl ?_
            refine cp_h_265_2 (hE.k hc0 hc1) d_h_attach_74 rfl ?_
            refine c_goS (S' := sset (sset (sset S 33 c b) 34 c (fad S b)) 21 c (10 * b + fad S b)) (fun h hc => cls_g21 hc c _) ?_
            refine c_iload d_h_attach_77 rfl ?_
            exact c_iret rfl d_h_attach_79 ⟨(by unfold cd_attach; have hb01 := bit_01 (S 17 c) 2; (repeat' split) <;> omega), rfl, brg_agr S c b (fad S b) _, Ext_brg hE (by omega)⟩
          · exact fun h hc => thw_3 rfl sr_263 d_h_attach_55 d_h_attach_58 d_h_attach_59 d_h_attach_62 d_h_attach_65 rfl (by decide) (by decide) (by decide) (by decide) ⟨ad, S, ⟨rfl, rfl, 1, rfl, (by unfold cd_attach; have hb01 := bit_01 (S 17 c) 2; (repeat' split) <;> omega)⟩, hc⟩
    · exact fun h hc => tht_1 rfl sr_255 d_h_attach_15 d_h_attach_18 d_h_attach_19 d_h_attach_21 d_h_attach_24 rfl (by decide) (by decide) (by decide) (by decide) ⟨ad, S, ⟨rfl, rfl, 0, rfl, (by unfold cd_attach; (repeat' split) <;> omega)⟩, hc⟩
theorem t_h_detach {g : xG} {K : hp} {ad : cA} {S : gS} {c : Int} (hI : Inv S) (hE : Ext S) (hc : R32 c) : cM g y_h_detach k_h_detach M_h_detach K [.ref (ad 0 0), .int (iI c)] ad S (opC (cd_detach S c) (vl_detach S c) (st_detach S c)) (opX [eIO, eIS] ad S (cd_detach S c)) := by
  refine cM.of rfl (by decide) rfl rfl rfl (by simp [Value.category]) (Nat.le_of_ble_eq_true rfl) rfl ?_
  obtain ⟨hR, hI1, hI2, hI3, hI4, hI5, hI6, hI7⟩ := id hI
  unfold Inv1 at hI1
  have h0 := hE.h
  have hL1 := hE.l (n := 1) (by decide) (by decide)
  have hL2 := hE.l (n := 2) (by decide) (by decide)
  have hL3 := hE.l (n := 3) (by decide) (by decide)
  have hL4 := hE.l (n := 4) (by decide) (by decide)
  have hL5 := hE.l (n := 5) (by decide) (by decide)
  have hO := hE.o
  have hRm := hE.r
  refine c_aload_n d_h_detach_0 rfl ?_
  refine c_iload_n d_h_detach_1 rfl ?_
  refine c_callV (r := (RX6, TX6, 7)) d_h_detach_2 q_h_detach_188 s_h_runningAt v_h_runningAt (t_h_runningAt hI hE hc (fun q => ⟨rfl, rfl, 0, rfl, (by unfold cd_detach; (repeat' split) <;> omega)⟩) (fun a b q => ⟨rfl, rfl, 1, rfl, (by unfold cd_detach; (repeat' split) <;> omega)⟩)) (fun _ z => ⟨_, z.at 0 (by decide) h0⟩) rfl rfl rfl rfl (Nat.le_of_ble_eq_true rfl) rfl rfl rfl (fun _ _ _ z => z) ?_
  rintro _ _ _ ⟨rfl, rfl, rfl, ⟨hc0, hc1⟩, hs0⟩
  have h15 := (hI3 c (Or.inl ⟨hc0, hc1⟩)).2.2.2.1
  have hg := (hI4 c hc0 hc1).2.1
  have hbx := hE.2.2.1 c hc0 hc1
  have h17 := (hI3 c (Or.inl ⟨hc0, hc1⟩)).2.2.2.2.2.1
  refine c_astore_n d_h_detach_5 (by decide) ?_
  refine c_aload_n d_h_detach_6 rfl ?_
  refine c_callS d_h_detach_7 q_h_detach_268 s_h_requireAttached (t_h_requireAttached_c (hE.k hc0 hc1) (hR 33 c (by decide)) (fun q => ⟨rfl, rfl, 1, rfl, (by unfold cd_detach; (repeat' split) <;> omega)⟩)) rfl rfl (Nat.le_of_ble_eq_true rfl) rfl rfl rfl (fun _ _ _ z => z) ?_
  rintro _ _ _ ⟨rfl, rfl, rfl, ht0⟩
  refine c_aload_n d_h_detach_10 rfl ?_
  refine cg_h_260_2 (hE.k hc0 hc1) d_h_detach_11 rfl ?_
  refine c_istore_n d_h_detach_14 (by decide) ?_
  refine c_aload_n d_h_detach_15 rfl ?_
  refine c_callV (r := (RX1, TX1, 13)) d_h_detach_16 q_h_detach_271 s_c_leaveBridge v_c_leaveBridge (t_c_leaveBridge_c (hE.k hc0 hc1)) (fun _ z => ⟨_, z.at 4 (by decide) (hE.k hc0 hc1)⟩) rfl rfl rfl rfl (Nat.le_of_ble_eq_true rfl) rfl rfl rfl (fun _ _ _ z => z) ?_
  rintro _ _ _ ⟨rfl, rfl, rfl⟩
  refine c_goS (S' := sset (sset (sset S 33 c (-1)) 34 c (-1)) 21 c (-1)) (fun h hc => cls_g21 hc c _) ?_
  refine c_iload_n d_h_detach_19 rfl ?_
  exact c_iret rfl d_h_detach_20 ⟨(by unfold cd_detach; (repeat' split) <;> omega), by unfold vl_detach; rw [show S 21 c / 10 = S 33 c by omega], brg_agr S c (-1) (-1) _, Ext_brg hE (by omega)⟩
theorem t_h_connectHost {g : xG} {K : hp} {ad : cA} {S : gS} {k : Int} (hI : Inv S) (hE : Ext S) (hk : R32 k) : cM g y_h_connectHost k_h_connectHost M_h_connectHost K [.ref (ad 0 0), .int (iI k)] ad S (opR ad S (cd_connectHost S k) (vl_connectHost S k)) (opX [eIO] ad S (cd_connectHost S k)) := by
  refine cM.of rfl (by decide) rfl rfl rfl (by simp [Value.category]) (Nat.le_of_ble_eq_true rfl) rfl ?_
  obtain ⟨hR, hI1, hI2, hI3, hI4, hI5, hI6, hI7⟩ := id hI
  unfold Inv1 at hI1
  have h0 := hE.h
  have hL1 := hE.l (n := 1) (by decide) (by decide)
  have hL2 := hE.l (n := 2) (by decide) (by decide)
  have hL3 := hE.l (n := 3) (by decide) (by decide)
  have hL4 := hE.l (n := 4) (by decide) (by decide)
  have hL5 := hE.l (n := 5) (by decide) (by decide)
  have hO := hE.o
  have hRm := hE.r
  refine c_iload_n d_h_connectHost_0 rfl ?_
  refine c_callS d_h_connectHost_1 q_h_connectHost_291 s_h_requireHostPort (t_h_requireHostPort_c hk (fun q => ⟨rfl, rfl, 0, rfl, (by unfold cd_connectHost; (repeat' split) <;> omega)⟩)) rfl rfl (Nat.le_of_ble_eq_true rfl) rfl rfl rfl (fun _ _ _ z => z) ?_
  rintro _ _ _ ⟨rfl, rfl, rfl, hk0, hk1⟩
  have hpk := hI6.2.2.2 k hk0 hk1
  refine c_aload_n d_h_connectHost_4 rfl ?_
  refine cg_h_27_6 h0 d_h_connectHost_5 rfl ?_
  refine c_iload_n d_h_connectHost_8 rfl ?_
  refine c_pald hO d_h_connectHost_9 (by omega) (by omega) ?_
  refine c_astore_nR d_h_connectHost_10 (by decide) ?_
  refine c_aload_nR d_h_connectHost_11 rfl ?_
  refine c_ifnullR (tgt := 29) d_h_connectHost_12 (by decide) (fun z12 => ?_) (fun z12 => ?_)
  · refine c_iconst d_h_connectHost_29 ?_
    exact c_iret rfl d_h_connectHost_30 (opR.good (by unfold cd_connectHost; (repeat' split) <;> omega) (by unfold vl_connectHost; rw [if_neg (by omega)]) rfl (hE))
  refine c_aload_nV z12 d_h_connectHost_15 rfl ?_
  refine cg_h_191_2 (hE.k (by omega) hpk.2) d_h_connectHost_16 rfl ?_
  refine c_if_ne (tgt := 29) d_h_connectHost_19 (by decide) (by first | assumption | exact hR _ _ (by decide) | (unfold R32; omega)) (fun z19 => ?_) (fun z19 => ?_)
  · refine c_iconst d_h_connectHost_29 ?_
    first
    | exact c_iret rfl d_h_connectHost_30 (opR.good (by unfold cd_connectHost; (repeat' split) <;> omega) (by unfold vl_connectHost; rw [if_pos (by omega)]) rfl (hE))
    | exact c_iret rfl d_h_connectHost_30 (opR.good (by unfold cd_connectHost; (repeat' split) <;> omega) (by unfold vl_connectHost; rw [if_neg (by omega)]) rfl (hE))
  · refine c_aload_nV z12 d_h_connectHost_22 rfl ?_
    refine cg_h_185_2 (hE.k (by omega) hpk.2) d_h_connectHost_23 rfl ?_
    refine c_goto (tgt := 30) d_h_connectHost_26 (by decide) ?_
    first
    | exact c_iret rfl d_h_connectHost_30 (opR.good (by unfold cd_connectHost; (repeat' split) <;> omega) (by unfold vl_connectHost; rw [if_pos (by omega)]) rfl (hE))
    | exact c_iret rfl d_h_connectHost_30 (opR.good (by unfold cd_connectHost; (repeat' split) <;> omega) (by unfold vl_connectHost; rw [if_neg (by omega)]) rfl (hE))
theorem t_h_connect {g : xG} {K : hp} {ad : cA} {S : gS} {c a p : Int} (hI : Inv S) (hE : Ext S) (hc : R32 c) (ha : R32 a) (hp : R32 p) (hX9 : InvX S) : cM g y_h_connect k_h_connect M_h_connect K [.ref (ad 0 0), .int (iI c), .int (iI a), .int (iI p)] ad S (opR ad S (cd_connect S c a p) (vl_connect S c a p)) (opX [eIO, eIA, eIS] ad S (cd_connect S c a p)) := by
  refine cM.of rfl (by decide) rfl rfl rfl (by simp [Value.category]) (Nat.le_of_ble_eq_true rfl) rfl ?_
  obtain ⟨hR, hI1, hI2, hI3, hI4, hI5, hI6, hI7⟩ := id hI
  unfold Inv1 at hI1
  have h0 := hE.h
  have hL1 := hE.l (n := 1) (by decide) (by decide)
  have hL2 := hE.l (n := 2) (by decide) (by decide)
  have hL3 := hE.l (n := 3) (by decide) (by decide)
  have hL4 := hE.l (n := 4) (by decide) (by decide)
  have hL5 := hE.l (n := 5) (by decide) (by decide)
  have hO := hE.o
  have hRm := hE.r
  refine c_aload_n d_h_connect_0 rfl ?_
  refine c_iload_n d_h_connect_1 rfl ?_
  refine c_callV (r := (RX6, TX6, 7)) d_h_connect_2 q_h_connect_127 s_h_containerAt v_h_containerAt (t_h_containerAt hI hE hc (fun q => ⟨rfl, rfl, 0, rfl, (by unfold cd_connect; (repeat' split) <;> omega)⟩)) (fun _ z => ⟨_, z.at 0 (by decide) h0⟩) rfl rfl rfl rfl (Nat.le_of_ble_eq_true rfl) rfl rfl rfl (fun _ _ _ z => z) ?_
  rintro _ _ _ ⟨rfl, rfl, rfl, hc0, hc1⟩
  have hbx := hE.2.2.1 c hc0 hc1
  have h17 := (hI3 c (Or.inl ⟨hc0, hc1⟩)).2.2.2.2.2.1
  refine c_astore d_h_connect_5 (by decide) ?_
  refine c_iload_n d_h_connect_7 rfl ?_
  refine c_callS d_h_connect_8 q_h_connect_274 s_h_requirePort (t_h_requirePort_c hp (fun q => ⟨rfl, rfl, 0, rfl, (by unfold cd_connect; (repeat' split) <;> omega)⟩)) rfl rfl (Nat.le_of_ble_eq_true rfl) rfl rfl rfl (fun _ _ _ z => z) ?_
  rintro _ _ _ ⟨rfl, rfl, rfl, hp0, hp1⟩
  refine c_iload_n d_h_connect_11 rfl ?_
  refine c_bipush d_h_connect_12 (by decide) ?_
  refine c_callS d_h_connect_14 q_h_connect_71 s_h_requireWithin (t_h_requireWithin_c ha (by unfold R32; omega) (fun q => ⟨rfl, rfl, 1, rfl, (by unfold cd_connect; (repeat' split) <;> omega)⟩)) rfl rfl (Nat.le_of_ble_eq_true rfl) rfl rfl rfl (fun _ _ _ z => z) ?_
  rintro _ _ _ ⟨rfl, rfl, rfl, ha0, ha1⟩
  refine c_aload d_h_connect_17 rfl ?_
  refine c_callS d_h_connect_19 q_h_connect_203 s_h_requireRunning (t_h_requireRunning_c (hE.k hc0 hc1) (hR 19 c (by decide)) (fun q => ⟨rfl, rfl, 2, rfl, (by unfold cd_connect; (repeat' split) <;> omega)⟩)) rfl rfl (Nat.le_of_ble_eq_true rfl) rfl rfl rfl (fun _ _ _ z => z) ?_
  rintro _ _ _ ⟨rfl, rfl, rfl, hs0⟩
  refine c_aload d_h_connect_22 rfl ?_
  refine c_callS d_h_connect_24 q_h_connect_268 s_h_requireAttached (t_h_requireAttached_c (hE.k hc0 hc1) (hR 33 c (by decide)) (fun q => ⟨rfl, rfl, 2, rfl, (by unfold cd_connect; (repeat' split) <;> omega)⟩)) rfl rfl (Nat.le_of_ble_eq_true rfl) rfl rfl rfl (fun _ _ _ z => z) ?_
  rintro _ _ _ ⟨rfl, rfl, rfl, ht0⟩
  have hbq : S 33 c = S 21 c / 10 := by omega
  have hab := aat_b hI.2.1 (S 33 c) a
  have hb01 := bit_01 (S 18 (aat S (S 33 c) a)) p
  refine c_aload_n d_h_connect_27 rfl ?_
  refine c_aload d_h_connect_28 rfl ?_
  refine cg_h_260_2 (hE.k hc0 hc1) d_h_connect_30 rfl ?_
  refine c_iload_n d_h_connect_33 rfl ?_
  refine c_callV (r := (RX6, TX6, 7)) d_h_connect_34 q_h_connect_301 s_h_attachedAt v_h_attachedAt (t_h_attachedAt hI hE hX9 (by omega) (by omega) ha0 ha1) (fun _ z => ⟨_, z.at 0 (by decide) h0⟩) rfl rfl rfl rfl (Nat.le_of_ble_eq_true rfl) rfl rfl rfl (fun _ _ _ z => z) ?_
  rintro _ _ _ ⟨rfl, rfl, rfl⟩
  refine c_astoreR d_h_connect_37 (by decide) ?_
  refine c_aloadR d_h_connect_39 rfl ?_
  refine c_ifnullR (tgt := 61) d_h_connect_41 (by decide) (fun z41 => ?_) (fun z41 => ?_)
  · refine c_iconst d_h_connect_61 ?_
    exact c_iret rfl d_h_connect_62 (opR.good (by unfold cd_connect; (repeat' split) <;> omega) (by unfold vl_connect cnr; rw [← hbq, if_neg (by omega)]) rfl (hE))
  refine c_aloadV z41 d_h_connect_44 rfl ?_
  refine cg_h_191_2 (hE.k (by omega) hab.2) d_h_connect_46 rfl ?_
  refine c_if_ne (tgt := 61) d_h_connect_49 (by decide) (by first | assumption | exact hR _ _ (by decide) | (unfold R32; omega)) (fun z49 => ?_) (fun z49 => ?_)
  · refine c_iconst d_h_connect_61 ?_
    exact c_iret rfl d_h_connect_62 (opR.good (by unfold cd_connect; (repeat' split) <;> omega) (by unfold vl_connect cnr; rw [← hbq, if_neg (by omega)]) rfl (hE))
  · refine c_aloadV z41 d_h_connect_52 rfl ?_
    refine c_iload_n d_h_connect_54 rfl ?_
    refine c_callV (r := (RX1, TX1, 13)) d_h_connect_55 q_h_connect_277 s_c_listensOn v_c_listensOn (t_c_listensOn_c (hE.k (by omega) hab.2) (hI3 _ (Or.inl ⟨by omega, hab.2⟩)).2.2.2.2.2.2.1 hp0 (by omega)) (fun _ z => ⟨_, z.at 4 (by decide) (hE.k (by omega) hab.2)⟩) rfl rfl rfl rfl (Nat.le_of_ble_eq_true rfl) rfl rfl rfl (fun _ _ _ z => z) ?_
    rintro _ _ _ ⟨rfl, rfl, rfl⟩
    refine c_if_ne (tgt := 63) d_h_connect_58 (by decide) (by first | assumption | exact hR _ _ (by decide) | (unfold R32; omega)) (fun z58 => ?_) (fun z58 => ?_)
    · refine c_aloadV z41 d_h_connect_63 rfl ?_
      refine cg_h_185_2 (hE.k (by omega) hab.2) d_h_connect_65 rfl ?_
      exact c_iret rfl d_h_connect_68 (opR.good (by unfold cd_connect; (repeat' split) <;> omega) (by unfold vl_connect cnr; rw [← hbq, if_pos (by omega)]) rfl (hE))
    · refine c_iconst d_h_connect_61 ?_
      exact c_iret rfl d_h_connect_62 (opR.good (by unfold cd_connect; (repeat' split) <;> omega) (by unfold vl_connect cnr; rw [← hbq, if_neg (by omega)]) rfl (hE))
