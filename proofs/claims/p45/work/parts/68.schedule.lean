theorem sox_22o (S : gS) (w : Int) {j : Int} (h : ¬ (0 ≤ j ∧ j < 20)) : sox S w 22 j = S 22 j := by
  have a : ∀ B : gS, ∀ m, s4 B m 22 j = B 22 j := fun B m => by
    unfold s4
    have c1 : ¬ (22 = 26 ∧ 0 ≤ j ∧ j < 8) := by omega
    have c2 : ¬ (22 = 22 ∧ 0 ≤ j ∧ j < 20) := by omega
    have c3 : ¬ (22 = 27) := by omega
    rw [if_neg c1, if_neg c2, if_neg c3]
  unfold sox
  rw [a]
  unfold s2
  have c1 : ¬ (22 = 26 ∧ 0 ≤ j ∧ j < 8 ∧ j < 28 ∧ isp S j w = 1) := by omega
  have c2 : ¬ (22 = 22 ∧ 0 ≤ j ∧ j + 8 < 28 ∧ isp S (j + 8) w = 1) := by omega
  have c3 : ¬ (22 = 27 ∧ 0 ≤ j ∧ j < 28) := by omega
  rw [if_neg c1, if_neg c2, if_neg c3]
theorem sch_22o (S : gS) {j : Int} (h : ¬ (0 ≤ j ∧ j < 20)) : ∀ n : Nat, sch S n 22 j = S 22 j := by
  intro n
  induction n with
  | zero => rfl
  | succ n ih =>
    show sox (sch S n) n 22 j = _
    rw [sox_22o _ _ h, ih]
theorem sg_22 (S : gS) (u n : Int) : sg S u n 22 = S 22 := by
  funext j
  unfold sg
  exact if_neg (by omega)
/-- the class's grid while the groups below n have shared -/
def SI (S : gS) (u : Int) (n : Nat) (T : gS) : Prop := (∀ k, k ≠ 22 → k ≠ 32 → k ≠ 35 → k ≠ 41 → k ≠ 42 → k ≠ 43 → k ≠ 44 → k ≠ 58 → T k = S k) ∧ (∀ j, T 22 j = sch (sg S u 8) n 22 j) ∧ (∀ j, 0 ≤ j → j < 8 → T 32 j = if (n : Int) ≤ j then sch (sg S u 8) n 26 j else 0) ∧ Ex0 T ∧ ExR T
/-- rows 26 and 27 as the reference's -/
def gh (T R : gS) : gS := fun k j => if k = 26 ∨ k = 27 then R k j else T k j
theorem gh_r (T R : gS) {k : Nat} (h : k ≠ 26) (h2 : k ≠ 27) : gh T R k = T k := by
  funext j
  exact if_neg (by omega)
theorem cls_gh {g : xG} {K : hp} {ad : cA} {S : gS} {h : hp} (hc : cls g K ad S h) (R : gS) : cls g K ad (gh S R) h := hc.gst (fun a j hd => by
  refine if_neg (fun z => ?_)
  rcases z with rfl | rfl
  · exact hd.elim (by decide) (fun q => q.elim)
  · exact hd.elim (by decide) (fun q => q.elim))
/-- at the start: the root has all; what is no group holds nothing -/
def z32 (S : gS) (u : Int) : gS := fun k j => if k = 32 ∧ S 6 0 ≤ j then 0 else sset S 32 0 u k j
theorem z32_r (S : gS) (u : Int) {k : Nat} (h : k ≠ 32) : z32 S u k = S k := by
  funext j
  unfold z32
  rw [if_neg (fun z => h z.1), sset_n _ _ _ h]
theorem z32_SI {S : gS} {u : Int} (hI : Inv S) (hE : Ext S) (hu : R32 u) : SI S u 0 (z32 S u) := by
  have hi1 := hI.2.1
  unfold Inv1 at hi1
  refine ⟨fun k a b c d e f g i => z32_r _ _ b, fun j => ?_, fun j a b => ?_, hE.x0.c (z32_r _ _ (by decide)) (z32_r _ _ (by decide)) (z32_r _ _ (by decide)) (z32_r _ _ (by decide)) (fun q a b => z32_r _ _ (by omega)), fun k j hk => ?_⟩
  · show z32 S u 22 j = sg S u 8 22 j
    rw [sg_22, z32_r _ _ (by decide)]
  · rw [if_pos (show ((0 : Nat) : Int) ≤ j by omega)]
    show z32 S u 32 j = sg S u 8 26 j
    have e1 : sg S u 8 26 j = if j = 0 then u else 0 := by
      unfold sg
      have q : 26 = 26 ∧ 0 ≤ j ∧ j < 8 := ⟨rfl, a, b⟩
      exact if_pos q
    rw [e1]
    unfold z32
    by_cases z : j = 0
    · rw [if_pos z, if_neg (fun w => absurd w.2 (by omega)), z]
      exact sset_e _ _ _ _
    · rw [if_neg z]
      by_cases y : j < S 6 0
      · rw [if_neg (fun w => absurd w.2 (by omega))]
        unfold sset
        rw [if_neg (fun w => z w.2)]
        exact hE.2.2.2.2.1 j a y
      · exact if_pos ⟨rfl, by omega⟩
  · unfold z32
    split
    · unfold R32; omega
    · exact hE.2.2.2.2.2.set (fun _ => hu) k j hk
theorem SI.s {S T T' : gS} {u : Int} {n : Nat} (hI : Inv S) (hu1 : 1 ≤ u) (hu2 : u ≤ 10000) (hn : (n : Int) < S 6 0) (h : SI S u n T) (hT : SO T n T') : SI S u (n + 1) T' := by
  have hi1 := hI.2.1
  unfold Inv1 at hi1
  have hIs := sg_I (n := 8) hI (show R32 u by unfold R32; omega)
  have hgs := sg_g hI hu1 hu2
  have hsI := sch_I hIs hgs n (by show (n : Int) ≤ sg S u 8 6 0; rw [show sg S u 8 6 0 = S 6 0 from rfl]; omega)
  have hE : sEq S (sch (sg S u 8) n) := (sg_eq S u 8).trans hsI.2.2
  have r : ∀ k, k ≠ 22 → k ≠ 32 → k ≠ 35 → k ≠ 41 → k ≠ 42 → k ≠ 43 → k ≠ 44 → k ≠ 58 → T k = S k := h.1
  have hTn : T 32 n = sch (sg S u 8) n 26 n := by rw [h.2.2.1 n (by omega) (by omega), if_pos (by omega)]
  have hisp : ∀ p, isp (rg T) p (n : Int) = isp (sch (sg S u 8) n) p n := fun p => by
    rw [rg_isp, hE.isp]
    exact isp_c (r 6 (by decide) (by decide) (by decide) (by decide) (by decide) (by decide) (by decide) (by decide)) (r 7 (by decide) (by decide) (by decide) (by decide) (by decide) (by decide) (by decide) (by decide)) (r 11 (by decide) (by decide) (by decide) (by decide) (by decide) (by decide) (by decide) (by decide)) (r 19 (by decide) (by decide) (by decide) (by decide) (by decide) (by decide) (by decide) (by decide)) (r 20 (by decide) (by decide) (by decide) (by decide) (by decide) (by decide) (by decide) (by decide)) p n
  have hshp : ∀ p, shp (rg T) p = shp (sch (sg S u 8) n) p := fun p => by
    rw [rg_shp, hE.shp]
    exact shp_c (r 10 (by decide) (by decide) (by decide) (by decide) (by decide) (by decide) (by decide) (by decide)) (r 13 (by decide) (by decide) (by decide) (by decide) (by decide) (by decide) (by decide) (by decide)) p
  have ha : ∀ p, amt (rg T) n p = amt (sch (sg S u 8) n) n p := fun p => amt_c hisp hshp (by rw [rg_26, hTn]) p
  have hun : 0 ≤ sch (sg S u 8) n 26 n := ((hsI.2.1 n (by omega) (by omega)).1).1
  have h0 : ∀ j, 0 ≤ j → j ≤ (n : Int) → amt (sch (sg S u 8) n) n j = 0 := fun j a b => by
    have z : isp (sch (sg S u 8) n) j n = 0 := by
      rcases isp_01 (sch (sg S u 8) n) j n with y | y
      · exact y
      · rcases isp_lv a y with w | w
        · have e7 : sch (sg S u 8) n 7 = S 7 := hE 7 (by decide) (by decide) (by decide)
          have e6 : sch (sg S u 8) n 6 = S 6 := hE 6 (by decide) (by decide) (by decide)
          rw [e7, e6] at w
          have := hI.2.2.1.pa hI.2.1 j a w.2.1
          omega
        · omega
    exact (amt_b hsI.1 (by omega) a (by omega) hun).2 z
  refine ⟨fun k a b c d e f g i => by rw [hT.1 k a b c d e f g i, r k a b c d e f g i], fun j => ?_, fun j a b => ?_, hT.2.2.2.1, hT.2.2.2.2⟩
  · rw [hT.2.1 j, h.2.1 j]
    show _ = sox (sch (sg S u 8) n) n 22 j
    by_cases y : 0 ≤ j ∧ j < 20
    · rw [if_pos y, sox_22 _ _ y.1 y.2, ha]
    · rw [if_neg y, sox_22o _ _ y]
  · rw [hT.2.2.1 j, if_pos ⟨a, b⟩, ha]
    show _ = if ((n + 1 : Nat) : Int) ≤ j then sox (sch (sg S u 8) n) n 26 j else 0
    rw [sox_26 _ _ a b]
    by_cases y : ((n + 1 : Nat) : Int) ≤ j
    · have y2 : ¬ j = (n : Int) := by omega
      rw [if_pos y, if_neg y2, h.2.2.1 j a b, if_pos (by omega)]
    · rw [if_neg y, h0 j a (by omega)]
      by_cases y2 : j = (n : Int)
      · rw [if_pos y2]; rfl
      · rw [if_neg y2, h.2.2.1 j a b, if_neg (by omega)]; rfl
theorem SI_fin {S T : gS} {u : Int} (hI : Inv S) (hE : Ext S) (hu1 : 1 ≤ u) (hu2 : u ≤ 10000) (h : SI S u (S 6 0).toNat T) : agr (gh T (st_schedule S u)) (st_schedule S u) ∧ Ext (gh T (st_schedule S u)) := by
  have hi1 := hI.2.1
  unfold Inv1 at hi1
  have hIs := sg_I (n := 8) hI (show R32 u by unfold R32; omega)
  have hgs := sg_g hI hu1 hu2
  have hsI := sch_I hIs hgs (S 6 0).toNat (by show ((S 6 0).toNat : Int) ≤ sg S u 8 6 0; rw [show sg S u 8 6 0 = S 6 0 from rfl]; omega)
  have hEq : sEq S (st_schedule S u) := (sg_eq S u 8).trans hsI.2.2
  have r : ∀ k, (k != 22 && k != 32 && k != 35 && k != 41 && k != 42 && k != 43 && k != 44 && k != 58 && k != 26 && k != 27) = true → gh T (st_schedule S u) k = S k := fun k hk => by
    simp only [Bool.and_eq_true, bne_iff_ne] at hk
    rw [gh_r _ _ hk.1.2 hk.2]
    exact h.1 k hk.1.1.1.1.1.1.1.1.1 hk.1.1.1.1.1.1.1.1.2 hk.1.1.1.1.1.1.1.2 hk.1.1.1.1.1.1.2 hk.1.1.1.1.1.2 hk.1.1.1.1.2 hk.1.1.1.2 hk.1.1.2
  refine ⟨fun k hk => ?_, h.2.2.2.1.c (gh_r _ _ (by decide) (by decide)) (gh_r _ _ (by decide) (by decide)) (gh_r _ _ (by decide) (by decide)) (gh_r _ _ (by decide) (by decide)) (fun q a b => gh_r _ _ (by omega) (by omega)), hE.2.1.c (r 6 rfl) (r 7 rfl) (r 11 rfl) (r 14 rfl) (r 15 rfl) (r 20 rfl) (r 30 rfl) (r 31 rfl), hE.2.2.1.c (r 11 rfl) (r 21 rfl) (r 33 rfl) (r 34 rfl), hE.2.2.2.1.c (r 3 rfl) (r 4 rfl) (r 11 rfl) (r 12 rfl) (r 23 rfl) (r 36 rfl), fun p a b => ?_, fun k j hk => ?_⟩
  · by_cases a : k = 26 ∨ k = 27
    · funext j
      exact if_pos a
    · rw [gh_r _ _ (by omega) (by omega)]
      by_cases b : k = 22
      · subst b
        funext j
        exact h.2.1 j
      · rw [h.1 k b (by omega) (by omega) (by omega) (by omega) (by omega) (by omega) (by omega), hEq k b (by omega) (by omega)]
  · rw [r 6 rfl] at b
    rw [gh_r _ _ (by decide) (by decide), h.2.2.1 p a (by omega), if_neg (by omega)]
  · rw [gh_r _ _ (by omega) (by omega)]
    exact h.2.2.2.2 k j hk
theorem L_h_schedule {g : xG} {K : hp} {S : gS} {ad0 : cA} {u : Int} (hI : Inv S) (hE : Ext S) (hu1 : 1 ≤ u) (hu2 : u ≤ 10000) (hrun : run1 S 0 = 1) : ∀ (f9 n : Nat) (T : gS) (ad : cA), SI S u n T → (n : Int) ≤ S 6 0 → S 6 0 ≤ (n : Int) + f9 → cW g M_h_schedule K (opC (cd_schedule S u) (vl_schedule S u) (st_schedule S u)) (opX [eIA] ad0 S (cd_schedule S u)) (28 * f9) (924 * f9) ad T 30 [some (.ref (ad 0 0)), some (.int (iI u)), some (.ref (ad 3 0)), some (.int (iI (n : Int)))] [] := by
  have hi1 := hI.2.1
  unfold Inv1 at hi1
  have fin : ∀ (n : Nat) (T : gS) (ad : cA) (rc rs : Nat), SI S u n T → (n : Int) ≤ S 6 0 → S 6 0 ≤ (n : Int) → cW g M_h_schedule K (opC (cd_schedule S u) (vl_schedule S u) (st_schedule S u)) (opX [eIA] ad0 S (cd_schedule S u)) rc rs ad T 62 [some (.ref (ad 0 0)), some (.int (iI u)), some (.ref (ad 3 0)), some (.int (iI (n : Int)))] [] := fun n T ad rc rs hT a b => by
    have hn : n = (S 6 0).toNat := by omega
    subst hn
    have hF := SI_fin hI hE hu1 hu2 hT
    refine c_goS (S' := gh T (st_schedule S u)) (fun h hc => cls_gh hc _) ?_
    refine c_iload_n d_h_schedule_62 rfl ?_
    exact c_iret rfl d_h_schedule_63 ⟨(by unfold cd_schedule; (repeat' split) <;> omega), by unfold vl_schedule; rw [gsc_v hI hu1 hu2, if_pos hrun], hF.1, hF.2⟩
  intro f9
  induction f9 with
  | zero =>
    intro n T ad hT q1 q2
    have h0 : T 50 0 = 1 := hT.2.2.2.1.h
    have hL2 : T 51 2 = 1 := hT.2.2.2.1.l (by decide) (by decide)
    have e6 : T 6 0 = S 6 0 := by rw [hT.1 6 (by decide) (by decide) (by decide) (by decide) (by decide) (by decide) (by decide) (by decide)]
    refine c_iload_n d_h_schedule_30 rfl ?_
    refine c_aload_n d_h_schedule_31 rfl ?_
    refine cg_h_16_6 h0 d_h_schedule_32 rfl ?_
    refine c_lsize2 hL2 d_h_schedule_35 q_h_schedule_147 (Nat.le_of_ble_eq_true rfl) rfl ?_
    refine c_icmp_ge (tgt := 62) d_h_schedule_38 (by decide) (by first | assumption | (unfold R32; omega)) (by first | assumption | (unfold R32; omega)) (fun z38 => ?_) (fun z38 => ?_)
    · exact fin n T ad _ _ hT q1 (by omega)
    · exfalso; omega
  | succ f9 ih =>
    intro n T ad hT q1 q2
    have hXT := hT.2.2.2.1
    have h0 : T 50 0 = 1 := hXT.h
    have hL2 : T 51 2 = 1 := hXT.l (by decide) (by decide)
    have e6 : T 6 0 = S 6 0 := by rw [hT.1 6 (by decide) (by decide) (by decide) (by decide) (by decide) (by decide) (by decide) (by decide)]
    have hIT : Inv T := by
      have hA : Inv (fun k j => if k = 22 then T 22 j else S k j) := Inv_sEq hI (fun k j hk => by
        show R32 (if k = 22 then T 22 j else S k j)
        rw [if_neg hk]
        exact hI.1 k j hk) (fun k a b c => by funext j; exact if_neg a)
      refine Inv_agr hA (fun k hk => ?_) hT.2.2.2.2
      funext j
      by_cases z : k = 22
      · subst z
        exact (if_pos rfl).symm
      · rw [hT.1 k z (by omega) (by omega) (by omega) (by omega) (by omega) (by omega) (by omega)]
        exact (if_neg z).symm
    have hIs := sg_I (n := 8) hI (show R32 u by unfold R32; omega)
    have hgs := sg_g hI hu1 hu2
    have hsI := sch_I hIs hgs n (by show (n : Int) ≤ sg S u 8 6 0; rw [show sg S u 8 6 0 = S 6 0 from rfl]; omega)
    have h32 : ∀ j, 0 ≤ j → j < 8 → 0 ≤ T 32 j ∧ T 32 j ≤ 10000 := fun j a b => by
      rw [hT.2.2.1 j a b]
      have q := (hsI.2.1 j a b).1
      split
      · exact q
      · omega
    refine c_iload_n d_h_schedule_30 rfl ?_
    refine c_aload_n d_h_schedule_31 rfl ?_
    refine cg_h_16_6 h0 d_h_schedule_32 rfl ?_
    refine c_lsize2 hL2 d_h_schedule_35 q_h_schedule_147 (Nat.le_of_ble_eq_true rfl) rfl ?_
    refine c_icmp_ge (tgt := 62) d_h_schedule_38 (by decide) (by first | assumption | (unfold R32; omega)) (by first | assumption | (unfold R32; omega)) (fun z38 => ?_) (fun z38 => ?_)
    · exact fin n T ad _ _ hT q1 (by omega)
    · refine c_aload_n d_h_schedule_41 rfl ?_
      refine c_aload_n d_h_schedule_42 rfl ?_
      refine cg_h_16_6 h0 d_h_schedule_43 rfl ?_
      refine c_iload_n d_h_schedule_46 rfl ?_
      refine c_lget2 hL2 (hXT.p (by omega) (by omega)) (by omega) (by omega) d_h_schedule_47 d_h_schedule_50 q_h_schedule_226 (Nat.le_of_ble_eq_true rfl) rfl rfl ?_
      refine c_callV (rc' := 28 * f9) (rs' := 924 * f9) (r := (RX6, TX6, 7)) d_h_schedule_53 q_h_schedule_230 s_h_shareOut v_h_shareOut (t_h_shareOut hIT hXT hT.2.2.2.2 (by omega) (by omega) h32) (fun _ z => ⟨_, z.at 0 (by decide) h0⟩) rfl rfl rfl rfl (Nat.le_of_ble_eq_true rfl) rfl (by show 28 * (f9 + 1) = 28 * f9 + 28; omega) (by show 924 * (f9 + 1) = 924 * f9 + 924; omega) (fun _ _ _ z => z) ?_
      rintro _ _ T2 ⟨rfl, ⟨d9, rfl⟩, hT2⟩
      have hS2 := hT.s hI hu1 hu2 (by omega) hT2
      refine c_iinc d_h_schedule_56 rfl (by decide) ?_
      refine c_goto (tgt := 30) d_h_schedule_59 (by decide) ?_
      exact ih (n + 1) T2 (cup ad 8 5 d9) hS2 (by omega) (by omega)
theorem t_h_schedule {g : xG} {K : hp} {ad : cA} {S : gS} {u : Int} (hI : Inv S) (hE : Ext S) (hu : R32 u) : cM g y_h_schedule k_h_schedule M_h_schedule K [.ref (ad 0 0), .int (iI u)] ad S (opC (cd_schedule S u) (vl_schedule S u) (st_schedule S u)) (opX [eIA] ad S (cd_schedule S u)) := by
  refine cM.of rfl (by decide) rfl rfl rfl (by simp [Value.category]) (Nat.le_of_ble_eq_true rfl) rfl ?_
  obtain ⟨hR, hI1, hI2, hI3, hI4, hI5, hI6, hI7⟩ := id hI
  unfold Inv1 at hI1
  have h0 := hE.h
  have hL1 := hE.l (n := 1) (by decide) (by decide)
  have hL2 := hE.l (n := 2) (by decide) (by decide)
  have hL3 := hE.l (n := 3) (by decide) (by decide)
  have hL4 := hE.l (n := 4) (by decide) (by decide)
  have hL5 := hE.l (n := 5) (by decide) (by decide)
  have hO := hE.o
  have hRm := hE.r
  refine c_iload_n d_h_schedule_0 rfl ?_
  refine c_sipush d_h_schedule_1 (by decide) ?_
  refine c_callS d_h_schedule_4 q_h_schedule_71 s_h_requireWithin (t_h_requireWithin_c hu (by unfold R32; omega) (fun q => ⟨rfl, rfl, 0, rfl, (by unfold cd_schedule; (repeat' split) <;> omega)⟩)) rfl rfl (Nat.le_of_ble_eq_true rfl) rfl rfl rfl (fun _ _ _ z => z) ?_
  rintro _ _ _ ⟨rfl, rfl, rfl, hu0, hu1⟩
  refine c_aload_n d_h_schedule_7 rfl ?_
  refine c_iconst d_h_schedule_8 ?_
  refine c_callV (r := (RX6, TX6, 7)) d_h_schedule_9 q_h_schedule_143 s_h_groupAt v_h_groupAt (t_h_groupAt hI hE (by unfold R32; omega) (fun q => absurd (show 0 ≤ (0 : Int) ∧ (0 : Int) < S 6 0 by omega) q)) (fun _ z => ⟨_, z.at 0 (by decide) h0⟩) rfl rfl rfl rfl (Nat.le_of_ble_eq_true rfl) rfl rfl rfl (fun _ _ _ z => z) ?_
  rintro _ _ _ ⟨rfl, rfl, rfl, hg0, hg1⟩
  refine c_astore_n d_h_schedule_12 (by decide) ?_
  refine c_aload_n d_h_schedule_13 rfl ?_
  refine c_aload_n d_h_schedule_14 rfl ?_
  refine c_callV (r := (RX6, TX6, 7)) d_h_schedule_15 q_h_schedule_219 s_h_hasRunning v_h_hasRunning (t_h_hasRunning hI hE (by omega) hg1) (fun _ z => ⟨_, z.at 0 (by decide) h0⟩) rfl rfl rfl rfl (Nat.le_of_ble_eq_true rfl) rfl rfl rfl (fun _ _ _ z => z) ?_
  rintro _ _ _ ⟨rfl, rfl, rfl⟩
  have hr01 := run1_01 S 0
  refine c_if_ne (tgt := 23) d_h_schedule_18 (by decide) (by first | assumption | exact hR _ _ (by decide) | (unfold R32; omega)) (fun z18 => ?_) (fun z18 => ?_)
  · refine c_aload_n d_h_schedule_23 rfl ?_
    refine c_iload_n d_h_schedule_24 rfl ?_
    refine cp_h_223_3 (hE.p (by omega) hg1) d_h_schedule_25 rfl ?_
    refine c_iconst d_h_schedule_28 ?_
    refine c_istore_n d_h_schedule_29 (by decide) ?_
    refine c_goS (S' := z32 S u) (fun h hc => hc.gst (fun a j hd => ?_)) ?_
    · unfold z32
      refine if_neg (fun z => ?_)
      have q := z.1
      subst q
      rcases hd with q | q
      · exact absurd q (by decide)
      · have := (hE.1.2.2.2.1 j).1 q
        omega
    have hS0 : SI S u 0 (z32 S u) := z32_SI hI hE (by unfold R32; omega)
    exact c_mono (L_h_schedule hI hE hu0 hu1 (by omega) 8 0 _ ad hS0 (by omega) (by omega)) (by decide) (by decide)
  · have hz := gsc_0 (sg_I (n := 8) hI (show R32 u by unfold R32; omega)) (sg_g hI hu0 hu1) (by have e : run1 (sg S u 8) 0 = run1 S 0 := runN_c (S := S) (T := sg S u 8) (sg_eq S u 8 7 (by decide) (by decide) (by decide)) (sg_eq S u 8 19 (by decide) (by decide) (by decide)) (sg_eq S u 8 20 (by decide) (by decide) (by decide)) 0 _; rw [e]; omega) (S 6 0).toNat (by show ((S 6 0).toNat : Int) ≤ sg S u 8 6 0; rw [show sg S u 8 6 0 = S 6 0 from rfl]; omega)
    have hsI := sch_I (sg_I (n := 8) hI (show R32 u by unfold R32; omega)) (sg_g hI hu0 hu1) (S 6 0).toNat (by show ((S 6 0).toNat : Int) ≤ sg S u 8 6 0; rw [show sg S u 8 6 0 = S 6 0 from rfl]; omega)
    have hEq : sEq S (st_schedule S u) := (sg_eq S u 8).trans hsI.2.2
    refine c_goS (S' := gh S (st_schedule S u)) (fun h hc => cls_gh hc _) ?_
    refine c_iconst d_h_schedule_21 ?_
    refine c_iret rfl d_h_schedule_22 ⟨(by unfold cd_schedule; (repeat' split) <;> omega), by unfold vl_schedule; rw [hz.1], fun k hk => ?_, hE.c (fun k hk => gh_r _ _ (fun e => by subst e; revert hk; decide) (fun e => by subst e; revert hk; decide)) (fun k j hk => by rw [gh_r _ _ (by omega) (by omega)]; exact hE.2.2.2.2.2 k j hk)⟩
    by_cases a : k = 26 ∨ k = 27
    · funext j
      exact if_pos a
    · rw [gh_r _ _ (by omega) (by omega)]
      by_cases b : k = 22
      · subst b
        funext j
        show S 22 j = sch (sg S u 8) (S 6 0).toNat 22 j
        by_cases y : 0 ≤ j ∧ j < 20
        · rw [hz.2 j y.1 y.2, sg_22]
        · rw [sch_22o _ y, sg_22]
      · rw [hEq k b (by omega) (by omega)]
