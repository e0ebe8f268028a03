theorem c_val {g : xG} {M : xMeth} {K : hp} {Q : qK} {QX : qKE} {rc rs : Nat} {ad : cA} {S : gS} {pc : Nat} {ls : List (Option Value)} {st : List Value} {a b : Int} (e : a = b) (kk : cW g M K Q QX rc rs ad S pc ls (.int (iI b) :: st)) : cW g M K Q QX rc rs ad S pc ls (.int (iI a) :: st) := by
  rw [e]
  exact kk
theorem ez_12 {X Y : gS} {l : Int} {k : Nat} (h : X k = Y k) : ez X l 32 k = ez Y l 32 k := by
  funext j
  unfold ez
  rw [h]
theorem bgn_o {S : gS} {i w p s : Int} {r : Nat} {j : Int} (h0 : 12 ≤ r) (h1 : r ≤ 22) (hj : j ≠ S 11 0) : bgn S i w p s r j = S r j := by
  unfold bgn bgn0
  rw [sset_n _ _ _ (by omega), ez_r _ _ (by omega) (by omega), sset_o _ _ _ _ hj, sset_o _ _ _ _ hj, sset_o _ _ _ _ hj, sset_o _ _ _ _ hj, sset_o _ _ _ _ hj, sset_o _ _ _ _ hj, sset_o _ _ _ _ hj, sset_o _ _ _ _ hj, sset_o _ _ _ _ hj, sset_o _ _ _ _ hj, sset_o _ _ _ _ hj]
theorem run_agr {S T Y : gS} {i w p s : Int} (h1 : ∀ k, k ≠ 1 → k ≠ 2 → k < 28 → T k = sset (sset (sset (sset (sset (sset (sset (sset (sset (sset (sset (sset S 12 (S 11 0) i) 13 (S 11 0) s) 14 (S 11 0) 0) 15 (S 11 0) 1) 16 (S 11 0) p) 17 (S 11 0) p) 18 (S 11 0) 0) 19 (S 11 0) 0) 20 (S 11 0) w) 21 (S 11 0) (-1)) 22 (S 11 0) 0) 11 0 (S 11 0 + 1) k) (h2 : ∀ k, k = 1 ∨ k = 2 → T k = Y k) (hY : Y = bly (Cg S (S 11 0) i w s) (10 + S 11 0)) : agr T (bgn S i w p s) := by
  intro k hk
  by_cases c : k = 1 ∨ k = 2
  · rw [h2 k c, hY, bly_r (by omega) (by omega)]
    unfold Cg bgn
    rw [sset_n _ _ _ (by omega), sset_n _ _ _ (by omega)]
    refine ez_12 ?_
    rw [bg9_r (by omega) (by omega) (by omega)]
    unfold bgn0
    rw [sset_n _ _ _ (by omega), sset_n _ _ _ (by omega), sset_n _ _ _ (by omega), sset_n _ _ _ (by omega), sset_n _ _ _ (by omega), sset_n _ _ _ (by omega), sset_n _ _ _ (by omega), sset_n _ _ _ (by omega), sset_n _ _ _ (by omega), sset_n _ _ _ (by omega), sset_n _ _ _ (by omega)]
  · rw [h1 k (by omega) (by omega) hk]
    unfold bgn
    by_cases c11 : k = 11
    · subst c11
      rw [sset_s, sset_s, ez_r _ _ (by decide) (by decide)]
      rfl
    · rw [sset_n _ _ _ c11, sset_n _ _ _ c11, ez_r _ _ (by omega) (by omega)]
      rfl
theorem fset2 (f : Int → Int) (n a b : Int) : fset (fset f n a) n b = fset f n b := by
  funext j
  unfold fset
  by_cases z : j = n
  · rw [if_pos z, if_pos z]
  · rw [if_neg z, if_neg z, if_neg z]
theorem bgn_row {S : gS} {i w p s : Int} {r : Nat} {v : Int} (h : (r = 12 ∧ v = i) ∨ (r = 13 ∧ v = s) ∨ ((r = 14 ∨ r = 18 ∨ r = 19 ∨ r = 22) ∧ v = 0) ∨ (r = 15 ∧ v = 1) ∨ ((r = 16 ∨ r = 17) ∧ v = p) ∨ (r = 20 ∧ v = w) ∨ (r = 21 ∧ v = -1)) : bgn S i w p s r = fset (S r) (S 11 0) v := by
  unfold bgn
  rw [sset_n _ _ _ (by omega), ez_r _ _ (by omega) (by omega)]
  rcases h with ⟨rfl, rfl⟩ | ⟨rfl, rfl⟩ | ⟨rfl | rfl | rfl | rfl, rfl⟩ | ⟨rfl, rfl⟩ | ⟨rfl | rfl, rfl⟩ | ⟨rfl, rfl⟩ | ⟨rfl, rfl⟩
  all_goals
    unfold bgn0
    simp only [sset_n, sset_s, ne_eq, Nat.reduceEqDiff, not_false_eq_true]
theorem rst_agr {S T Y : gS} {w f : Int} (hf : f ≠ S 11 0) (hf2 : 10 + f ≠ 10 + S 11 0) (h1 : ∀ k, k ≠ 1 → k ≠ 2 → k < 28 → T k = sset (sset (sset (sset (sset (sset (sset (sset (sset (sset (sset (sset S 12 (S 11 0) (S 12 f)) 13 (S 11 0) (S 13 f)) 14 (S 11 0) (S 14 f)) 15 (S 11 0) (S 15 f)) 16 (S 11 0) (S 16 f)) 17 (S 11 0) (S 17 f)) 18 (S 11 0) (S 18 f)) 19 (S 11 0) 0) 20 (S 11 0) w) 21 (S 11 0) (-1)) 22 (S 11 0) 0) 11 0 (S 11 0 + 1) k) (h2 : ∀ k, k = 1 ∨ k = 2 → T k = Y k) (hY : Y = cz (bly (Cg S (S 11 0) (S 12 f) w (S 13 f)) (10 + S 11 0)) (10 + S 11 0) (10 + f) 32) : agr T (kps (bgn S 0 w 0 1) (S 11 0) f) := by
  intro k hk
  have X0 : ∀ k, k = 1 ∨ k = 2 → bly (Cg S (S 11 0) (S 12 f) w (S 13 f)) (10 + S 11 0) k = ez S (10 + S 11 0) 32 k := fun k c => by
    rw [bly_r (by omega) (by omega)]
    unfold Cg
    rw [sset_n _ _ _ (by omega)]
    exact ez_12 (bg9_r (by omega) (by omega) (by omega))
  have Y0 : ∀ k, k = 1 ∨ k = 2 → kps0 (bgn S 0 w 0 1) (S 11 0) f k = ez S (10 + S 11 0) 32 k := fun k c => by
    unfold kps0
    rw [sset_n _ _ _ (by omega), sset_n _ _ _ (by omega), sset_n _ _ _ (by omega), sset_n _ _ _ (by omega), sset_n _ _ _ (by omega), sset_n _ _ _ (by omega), sset_n _ _ _ (by omega)]
    unfold bgn
    rw [sset_n _ _ _ (by omega)]
    refine ez_12 ?_
    unfold bgn0
    rw [sset_n _ _ _ (by omega), sset_n _ _ _ (by omega), sset_n _ _ _ (by omega), sset_n _ _ _ (by omega), sset_n _ _ _ (by omega), sset_n _ _ _ (by omega), sset_n _ _ _ (by omega), sset_n _ _ _ (by omega), sset_n _ _ _ (by omega), sset_n _ _ _ (by omega), sset_n _ _ _ (by omega)]
  by_cases c : k = 1 ∨ k = 2
  · rw [h2 k c, hY]
    unfold kps
    funext j
    unfold cz
    rw [X0 1 (Or.inl rfl), X0 2 (Or.inr rfl), X0 k c, Y0 1 (Or.inl rfl), Y0 2 (Or.inr rfl), Y0 k c]
  · rw [h1 k (by omega) (by omega) hk]
    unfold kps
    rw [cz_rr _ _ _ (by omega) (by omega)]
    unfold kps0
    rw [bgn_o (r := 12) (by decide) (by decide) hf, bgn_o (r := 13) (by decide) (by decide) hf, bgn_o (r := 14) (by decide) (by decide) hf, bgn_o (r := 15) (by decide) (by decide) hf, bgn_o (r := 16) (by decide) (by decide) hf, bgn_o (r := 17) (by decide) (by decide) hf, bgn_o (r := 18) (by decide) (by decide) hf]
    by_cases cs : k < 11 ∨ 22 < k
    · rw [sset_n _ _ _ (by omega), sset_n _ _ _ (by omega), sset_n _ _ _ (by omega), sset_n _ _ _ (by omega), sset_n _ _ _ (by omega), sset_n _ _ _ (by omega), sset_n _ _ _ (by omega), sset_n _ _ _ (by omega), sset_n _ _ _ (by omega), sset_n _ _ _ (by omega), sset_n _ _ _ (by omega), sset_n _ _ _ (by omega), sset_n _ _ _ (by omega), sset_n _ _ _ (by omega), sset_n _ _ _ (by omega), sset_n _ _ _ (by omega), sset_n _ _ _ (by omega), sset_n _ _ _ (by omega), sset_n _ _ _ (by omega)]
      unfold bgn
      rw [sset_n _ _ _ (by omega), ez_r _ _ (by omega) (by omega)]
      unfold bgn0
      rw [sset_n _ _ _ (by omega), sset_n _ _ _ (by omega), sset_n _ _ _ (by omega), sset_n _ _ _ (by omega), sset_n _ _ _ (by omega), sset_n _ _ _ (by omega), sset_n _ _ _ (by omega), sset_n _ _ _ (by omega), sset_n _ _ _ (by omega), sset_n _ _ _ (by omega), sset_n _ _ _ (by omega)]
    · have hk9 : k = 11 ∨ k = 12 ∨ k = 13 ∨ k = 14 ∨ k = 15 ∨ k = 16 ∨ k = 17 ∨ k = 18 ∨ k = 19 ∨ k = 20 ∨ k = 21 ∨ k = 22 := by omega
      rcases hk9 with rfl | rfl | rfl | rfl | rfl | rfl | rfl | rfl | rfl | rfl | rfl | rfl
      · simp only [sset_n, sset_s, ne_eq, Nat.reduceEqDiff, not_false_eq_true]
        unfold bgn
        rw [sset_s, ez_r _ _ (by decide) (by decide)]
        rfl
      · simp only [sset_n, sset_s, ne_eq, Nat.reduceEqDiff, not_false_eq_true, bgn_row (S := S) (i := 0) (w := w) (p := 0) (s := 1) (r := 12) (v := 0) (by omega), fset2]
      · simp only [sset_n, sset_s, ne_eq, Nat.reduceEqDiff, not_false_eq_true, bgn_row (S := S) (i := 0) (w := w) (p := 0) (s := 1) (r := 13) (v := 1) (by omega), fset2]
      · simp only [sset_n, sset_s, ne_eq, Nat.reduceEqDiff, not_false_eq_true, bgn_row (S := S) (i := 0) (w := w) (p := 0) (s := 1) (r := 14) (v := 0) (by omega), fset2]
      · simp only [sset_n, sset_s, ne_eq, Nat.reduceEqDiff, not_false_eq_true, bgn_row (S := S) (i := 0) (w := w) (p := 0) (s := 1) (r := 15) (v := 1) (by omega), fset2]
      · simp only [sset_n, sset_s, ne_eq, Nat.reduceEqDiff, not_false_eq_true, bgn_row (S := S) (i := 0) (w := w) (p := 0) (s := 1) (r := 16) (v := 0) (by omega), fset2]
      · simp only [sset_n, sset_s, ne_eq, Nat.reduceEqDiff, not_false_eq_true, bgn_row (S := S) (i := 0) (w := w) (p := 0) (s := 1) (r := 17) (v := 0) (by omega), fset2]
      · simp only [sset_n, sset_s, ne_eq, Nat.reduceEqDiff, not_false_eq_true, bgn_row (S := S) (i := 0) (w := w) (p := 0) (s := 1) (r := 18) (v := 0) (by omega), fset2]
      · simp only [sset_n, sset_s, ne_eq, Nat.reduceEqDiff, not_false_eq_true, bgn_row (S := S) (i := 0) (w := w) (p := 0) (s := 1) (r := 19) (v := 0) (by omega), fset2]
      · simp only [sset_n, sset_s, ne_eq, Nat.reduceEqDiff, not_false_eq_true, bgn_row (S := S) (i := 0) (w := w) (p := 0) (s := 1) (r := 20) (v := w) (by omega), fset2]
      · simp only [sset_n, sset_s, ne_eq, Nat.reduceEqDiff, not_false_eq_true, bgn_row (S := S) (i := 0) (w := w) (p := 0) (s := 1) (r := 21) (v := -1) (by omega), fset2]
      · simp only [sset_n, sset_s, ne_eq, Nat.reduceEqDiff, not_false_eq_true, bgn_row (S := S) (i := 0) (w := w) (p := 0) (s := 1) (r := 22) (v := 0) (by omega), fset2]
/-- what the two makers of containers ask of the grid ahead of the container's birth -/
theorem Cg_at {S : gS} {n i w s : Int} : Cg S n i w s 12 n = i ∧ Cg S n i w s 20 n = w ∧ Cg S n i w s 13 n = s ∧ (Cg S n i w s 19 n = 0 ∧ Cg S n i w s 14 n = 0 ∧ Cg S n i w s 15 n = 0 ∧ Cg S n i w s 22 n = 0 ∧ Cg S n i w s 16 n = 0 ∧ Cg S n i w s 17 n = 0 ∧ Cg S n i w s 18 n = 0 ∧ Cg S n i w s 33 n = -1 ∧ Cg S n i w s 34 n = -1) := by
  have e : ∀ r, r ≠ 36 → r ≠ 1 → r ≠ 2 → Cg S n i w s r n = bg9 S n i w s r n := fun r a b c => by
    unfold Cg
    rw [sset_n _ _ _ a, ez_r _ _ b c]
  rw [e 12 (by decide) (by decide) (by decide), e 20 (by decide) (by decide) (by decide), e 13 (by decide) (by decide) (by decide), e 19 (by decide) (by decide) (by decide), e 14 (by decide) (by decide) (by decide), e 15 (by decide) (by decide) (by decide), e 22 (by decide) (by decide) (by decide), e 16 (by decide) (by decide) (by decide), e 17 (by decide) (by decide) (by decide), e 18 (by decide) (by decide) (by decide), e 33 (by decide) (by decide) (by decide), e 34 (by decide) (by decide) (by decide)]
  unfold bg9
  simp only [sset_n, sset_s, ne_eq, Nat.reduceEqDiff, not_false_eq_true]
  exact ⟨if_pos rfl, if_pos rfl, if_pos rfl, if_pos rfl, if_pos rfl, if_pos rfl, if_pos rfl, if_pos rfl, if_pos rfl, if_pos rfl, if_pos rfl, if_pos rfl⟩
theorem Inv1_mk {S P : gS} (h1 : Inv1 S) (hn : S 11 0 < 20) (h3 : P 3 0 = S 3 0) (h6 : P 6 0 = S 6 0) (h11 : P 11 0 = S 11 0 + 1) (h23 : P 23 0 = S 23 0) : Inv1 P := by
  unfold Inv1 at *
  omega
theorem t_h_run {g : xG} {K : hp} {ad : cA} {S : gS} {i w p s : Int} (hI : Inv S) (hE : Ext S) (hi : R32 i) (hw : R32 w) (hp : R32 p) (hs : R32 s) : cM g y_h_run k_h_run M_h_run K [.ref (ad 0 0), .int (iI i), .int (iI w), .int (iI p), .int (iI s)] ad S (opC (cd_run S i w p s) (vl_run S i w p s) (st_run S i w p s)) (opX [eIO, eIA, eIS] ad S (cd_run S i w p s)) := by
  refine cM.of rfl (by decide) rfl rfl rfl (by simp [Value.category]) (Nat.le_of_ble_eq_true rfl) rfl ?_
  obtain ⟨hR, hI1, hI2, hI3, hI4, hI5, hI6, hI7⟩ := id hI
  unfold Inv1 at hI1
  have h0 := hE.h
  have hL1 := hE.l (n := 1) (by decide) (by decide)
  have hL2 := hE.l (n := 2) (by decide) (by decide)
  have hL3 := hE.l (n := 3) (by decide) (by decide)
  have hL4 := hE.l (n := 4) (by decide) (by decide)
  have hL5 := hE.l (n := 5) (by decide) (by decide)
  have hO := hE.o
  have hRm := hE.r
  have hI1' := hI.2.1
  refine c_aload_n d_h_run_0 rfl ?_
  refine c_iload_n d_h_run_1 rfl ?_
  refine c_callV (r := (RX6, TX6, 7)) d_h_run_2 q_h_run_47 s_h_imageAt v_h_imageAt (t_h_imageAt hI hE hi (fun q => ⟨rfl, rfl, 0, rfl, (by unfold cd_run; (repeat' split) <;> omega)⟩)) (fun _ z => ⟨_, z.at 0 (by decide) h0⟩) rfl rfl rfl rfl (Nat.le_of_ble_eq_true rfl) rfl rfl rfl (fun _ _ _ z => z) ?_
  rintro _ _ _ ⟨rfl, rfl, rfl, hi0, hi1⟩
  have h5i := hI6.2.2.1 i
  refine c_astore d_h_run_5 (by decide) ?_
  refine c_aload_n d_h_run_7 rfl ?_
  refine c_iload_n d_h_run_8 rfl ?_
  refine c_callV (r := (RX6, TX6, 7)) d_h_run_9 q_h_run_143 s_h_groupAt v_h_groupAt (t_h_groupAt hI hE hw (fun q => ⟨rfl, rfl, 0, rfl, (by unfold cd_run; (repeat' split) <;> omega)⟩)) (fun _ z => ⟨_, z.at 0 (by decide) h0⟩) rfl rfl rfl rfl (Nat.le_of_ble_eq_true rfl) rfl rfl rfl (fun _ _ _ z => z) ?_
  rintro _ _ _ ⟨rfl, rfl, rfl, hw0, hw1⟩
  refine c_astore d_h_run_12 (by decide) ?_
  refine c_iload_n d_h_run_14 rfl ?_
  refine c_if_lt (tgt := 24) d_h_run_15 (by decide) (by first | assumption | exact hR _ _ (by decide) | (unfold R32; omega)) (fun z15 => ?_) (fun z15 => ?_)
  · exact fun h hc => tht_2 rfl sr_160 d_h_run_24 d_h_run_27 d_h_run_28 d_h_run_30 d_h_run_33 rfl (by decide) (by decide) (by decide) (by decide) ⟨ad, S, ⟨rfl, rfl, 1, rfl, (by unfold cd_run; (repeat' split) <;> omega)⟩, hc⟩
  · refine c_iload_n d_h_run_18 rfl ?_
    refine c_bipush d_h_run_19 (by decide) ?_
    refine c_icmp_le (tgt := 34) d_h_run_21 (by decide) (by first | assumption | exact hR _ _ (by decide) | (unfold R32; omega)) (by first | assumption | exact hR _ _ (by decide) | (unfold R32; omega)) (fun z21 => ?_) (fun z21 => ?_)
    · refine c_iload d_h_run_34 rfl ?_
      refine c_bipush d_h_run_36 (by decide) ?_
      refine c_callS d_h_run_38 q_h_run_71 s_h_requireWithin (t_h_requireWithin_c hs (by unfold R32; omega) (fun q => ⟨rfl, rfl, 1, rfl, (by unfold cd_run; (repeat' split) <;> omega)⟩)) rfl rfl (Nat.le_of_ble_eq_true rfl) rfl rfl rfl (fun _ _ _ z => z) ?_
      rintro _ _ _ ⟨rfl, rfl, rfl, hs0, hs1⟩
      refine c_aload d_h_run_41 rfl ?_
      refine cg_h_109_4 (hE.i hi0 hi1) d_h_run_43 rfl ?_
      refine c_if_ne (tgt := 59) d_h_run_46 (by decide) (by first | assumption | exact hR _ _ (by decide) | (unfold R32; omega)) (fun z46 => ?_) (fun z46 => ?_)
      · refine c_aload_n d_h_run_59 rfl ?_
        refine c_callV (r := (RX6, TX6, 7)) d_h_run_60 q_h_run_165 s_h_requireContainerSlot v_h_requireContainerSlot (t_h_requireContainerSlot hI hE (fun q => ⟨rfl, rfl, 2, rfl, (by unfold cd_run; (repeat' split) <;> omega)⟩)) (fun _ z => ⟨_, z.at 0 (by decide) h0⟩) rfl rfl rfl rfl (Nat.le_of_ble_eq_true rfl) rfl rfl rfl (fun _ _ _ z => z) ?_
        rintro _ _ _ ⟨rfl, rfl, rfl, hn9⟩
        refine c_aload d_h_run_63 rfl ?_
        refine c_iconst d_h_run_65 ?_
        refine c_iconst d_h_run_66 ?_
        refine c_callS d_h_run_67 q_h_run_168 s_h_requireRoom (t_h_requireRoom hI hE hw0 hw1 (by omega) (by omega) (by omega) (by omega) (fun q => ⟨rfl, rfl, 2, rfl, (by unfold cd_run; (repeat' split) <;> omega)⟩)) rfl rfl (Nat.le_of_ble_eq_true rfl) rfl rfl rfl (fun _ _ _ z => z) ?_
        rintro _ _ _ ⟨rfl, rfl, rfl, ht0⟩
        refine c_aload_n d_h_run_70 rfl ?_
        refine c_aload d_h_run_71 rfl ?_
        obtain ⟨hd54, hd55, hd6, hd7⟩ := dead11 hI hE hn9
        have hW := Wf_of hI hE
        have h51 : ∀ n, 1 ≤ n → n ≤ 5 → S 51 n = 1 := fun n a b => hE.l a b
        have h15 : ∀ i, S 58 i = 1 ∨ S 51 i = 1 → 1 ≤ i ∧ i ≤ 5 := fun i h => hE.e h
        have hWg := Wf_Cg (i := i) (w := w) (s := s) hW hd54 hd6 hI1.2.2.1.1
        obtain ⟨c12, c20, c13, cz9⟩ := Cg_at (S := S) (n := S 11 0) (i := i) (w := w) (s := s)
        refine c_goS (S' := Cg S (S 11 0) i w s) (fun h hc => cls_Cg hc hd54 hd55 hd6 hd7) ?_
        have hbl : blw (Cg S (S 11 0) i w s) (10 + S 11 0) = i := (if_neg (by omega)).trans (by rw [show 10 + S 11 0 - 10 = S 11 0 by omega]; exact c12)
        have hil : Cg S (S 11 0) i w s 56 i = 1 := hE.y (lvl.i hi0 hi1)
        have hi2 : Cg S (S 11 0) i w s 52 i = 1 := hE.i hi0 hi1
        have h36n : Cg S (S 11 0) i w s 36 (10 + S 11 0) = if i = -1 then 1 else Cg S (S 11 0) i w s 36 i + 1 := by
          have e1 : Cg S (S 11 0) i w s 36 (10 + S 11 0) = lay S i + 1 := sset_e _ _ _ _
          have e2 : Cg S (S 11 0) i w s 36 i = S 36 i := (sset_o _ _ _ _ (by omega)).trans (by rw [ez_r _ _ (by decide) (by decide), bg9_r (by decide) (by decide) (by decide)])
          rw [if_neg (by omega), e1, e2, hE.2.2.2.1.1 i hi0 hi1]
        intro h hc
        refine nw_h_58 d_h_run_73 rfl rfl rfl (fun x hx => ?_)
        refine x_dup d_h_run_76 rfl ?_
        refine x_aload d_h_run_77 rfl ?_
        refine fg_h_79_4 d_h_run_79 rfl ((hset_n _ _ (hc.ne (k := 2) (by decide) hi2 hx)).trans (hc.at 2 (by decide) hi2)) rfl ?_
        have hLI := t_l_initR (g := g) (QX := cE g K (opX [eIO, eIA, eIS] ad S (cd_run S i w p s))) (ad := ad) (S := Cg S (S 11 0) i w s) (b := i) (x := x) (h := hset h x (.inr (5, zfX4))) (hset_s _ _ _) (Or.inr ⟨(hset_n _ _ (hc.ne (k := 6) (by decide) hil hx)).trans (hc.at 6 (by decide) hil), hc.ne (k := 6) (by decide) hil hx⟩)
        rw [rfo_ref (by omega)] at hLI
        refine x_callI d_h_run_82 rfl q_h_run_60 s_l_init rfl hLI rfl (by rfl) (Nat.le_of_ble_eq_true rfl) rfl rfl rfl (fun _ _ hx9 => hx9) ?_
        rintro _ _ ⟨rfl, q, hq, rfl⟩
        have hq2 := hset_none hq
        rw [hset_sw hq2.1]
        have hL := cls_mkl hc hWg (fun m hm => h51 m (h15 m (Or.inl hm)).1 (h15 m (Or.inl hm)).2) (l := 10 + S 11 0) hd6 hd7 (by omega) (by omega) hq2.2 hx hq2.1 (by rw [hbl]; exact Or.inr hil) h36n (by
          show sset (ez (bg9 S (S 11 0) i w s) (10 + S 11 0) 32) 36 (10 + S 11 0) (lay S i + 1) 2 (10 + S 11 0) = 0
          rw [sset_n _ _ _ (by decide)]; exact if_pos ⟨rfl, rfl⟩) (fun f a b => ez_f _ _ a b)
        rw [hbl, rfo_ref (by omega)] at hL
        refine cW_at hL ?_
        have ex : aly ad (10 + S 11 0) q x 6 (10 + S 11 0) = x := cup_s _ _ _ _
        show cW g M_h_run K _ _ _ _ (aly ad (10 + S 11 0) q x) (bly (Cg S (S 11 0) i w s) (10 + S 11 0)) 85 _ [.ref x, .ref (ad 3 w), .ref (ad 0 0)]
        rw [show (Value.ref x) = .ref (aly ad (10 + S 11 0) q x 6 (10 + S 11 0)) from congrArg Value.ref ex.symm]
        refine c_iload d_h_run_85 rfl ?_
        refine c_callV (r := (RX6, TX6, 7)) d_h_run_87 q_h_run_172 s_h_addContainer v_h_addContainer (t_h_addContainer (S := (bly (Cg S (S 11 0) i w s) (10 + S 11 0))) (ad := aly ad (10 + S 11 0) q x) (n := S 11 0) (w := w) (s := s) (Wf_bly hWg (by rw [hbl]; exact Or.inr hil)) h15 h51 h0 rfl hI1.2.2.1.1 hn9 hd54 (if_pos ⟨rfl, rfl⟩) (hE.p hw0 hw1) c20 c13 cz9) (fun _ z => ⟨_, z.at 0 (by decide) h0⟩) rfl rfl rfl rfl (Nat.le_of_ble_eq_true rfl) rfl rfl rfl (fun _ _ _ z => z) ?_
        rintro _ _ _ ⟨rfl, ⟨q4, d4, rfl⟩, N9, hN9, rfl⟩
        have h54n : lad3 (sset (bly (Cg S (S 11 0) i w s) (10 + S 11 0)) 54 (S 11 0) 1) N9 54 (S 11 0) = 1 := by rw [lad3_r (by decide) (by decide) (by decide) (by decide)]; exact sset_e _ _ _ _
        have h20n : lad3 (sset (bly (Cg S (S 11 0) i w s) (10 + S 11 0)) 54 (S 11 0) 1) N9 20 (S 11 0) = w := c20
        have e18 : sset (sset (lad3 (sset (bly (Cg S (S 11 0) i w s) (10 + S 11 0)) 54 (S 11 0) 1) N9) 16 (S 11 0) p) 17 (S 11 0) p 18 (S 11 0) = 0 := cz9.2.2.2.2.2.2.1
        have e18s : sset (sset (sset (lad3 (sset (bly (Cg S (S 11 0) i w s) (10 + S 11 0)) 54 (S 11 0) 1) N9) 16 (S 11 0) p) 17 (S 11 0) p) 18 (S 11 0) 0 = sset (sset (lad3 (sset (bly (Cg S (S 11 0) i w s) (10 + S 11 0)) 54 (S 11 0) 1) N9) 16 (S 11 0) p) 17 (S 11 0) p := (congrArg (sset _ 18 (S 11 0)) e18.symm).trans (sset_id _ 18 (S 11 0))
        have hF := fin_rows (pe := p) (ef := p) (po := 0) (m := 0) (pr := 1) (s := s) hI hE rfl hn9 hi0 hi1 hw0 hw1 (by omega) (by omega) (by omega) (by omega) hN9 (Y := (bly (Cg S (S 11 0) i w s) (10 + S 11 0))) (fun k _ _ => rfl)
        rw [e18s] at hF
        refine c_astore d_h_run_90 (by decide) ?_
        refine c_aload d_h_run_92 rfl ?_
        refine c_iload_n d_h_run_94 rfl ?_
        refine cp_h_176_2 h54n d_h_run_95 rfl ?_
        refine c_aload d_h_run_98 rfl ?_
        refine c_iload_n d_h_run_100 rfl ?_
        refine cp_h_179_2 h54n d_h_run_101 rfl ?_
        refine c_aload d_h_run_104 rfl ?_
        refine c_iconst d_h_run_106 ?_
        refine c_iconst d_h_run_107 ?_
        refine c_callV (r := (RX1, TX1, 13)) d_h_run_108 q_h_run_182 s_c_charge v_c_charge (t_c_charge (c := S 11 0) h54n (hI2.c rfl rfl rfl rfl) (Inv1_mk hI1' hn9 rfl rfl rfl rfl) (fun p a b => hE.p a b) (by rw [show sset (sset (lad3 (sset (bly (Cg S (S 11 0) i w s) (10 + S 11 0)) 54 (S 11 0) 1) N9) 16 (S 11 0) p) 17 (S 11 0) p 20 (S 11 0) = w from h20n]; exact hw0) (by rw [show sset (sset (lad3 (sset (bly (Cg S (S 11 0) i w s) (10 + S 11 0)) 54 (S 11 0) 1) N9) 16 (S 11 0) p) 17 (S 11 0) p 20 (S 11 0) = w from h20n]; exact hw1)) (fun _ z => ⟨_, z.at 4 (by decide) h54n⟩) rfl rfl rfl rfl (Nat.le_of_ble_eq_true rfl) rfl rfl rfl (fun _ _ _ z => z) ?_
        rintro _ _ _ ⟨rfl, rfl, rfl⟩
        refine c_aload d_h_run_111 rfl ?_
        refine cg_h_185_2 (i := S 11 0) ((congrFun (chg_r (by decide) (by decide) (by decide) (by decide)) (S 11 0)).trans h54n) d_h_run_113 rfl ?_
        exact c_iret rfl d_h_run_116 ⟨(by unfold cd_run; (repeat' split) <;> omega), rfl, run_agr hF.2.1 hF.2.2 rfl, hF.1⟩
      · exact fun h hc => tht_3 rfl sr_163 d_h_run_49 d_h_run_52 d_h_run_53 d_h_run_55 d_h_run_58 rfl (by decide) (by decide) (by decide) (by decide) ⟨ad, S, ⟨rfl, rfl, 2, rfl, (by unfold cd_run; (repeat' split) <;> omega)⟩, hc⟩
    · exact fun h hc => tht_2 rfl sr_160 d_h_run_24 d_h_run_27 d_h_run_28 d_h_run_30 d_h_run_33 rfl (by decide) (by decide) (by decide) (by decide) ⟨ad, S, ⟨rfl, rfl, 1, rfl, (by unfold cd_run; (repeat' split) <;> omega)⟩, hc⟩
theorem t_h_restore {g : xG} {K : hp} {ad : cA} {S : gS} {k w : Int} (hI : Inv S) (hE : Ext S) (hk : R32 k) (hw : R32 w) : cM g y_h_restore k_h_restore M_h_restore K [.ref (ad 0 0), .int (iI k), .int (iI w)] ad S (opC (cd_restore S k w) (vl_restore S k w) (st_restore S k w)) (opX [eIO, eIS] ad S (cd_restore S k w)) := by
  refine cM.of rfl (by decide) rfl rfl rfl (by simp [Value.category]) (Nat.le_of_ble_eq_true rfl) rfl ?_
  obtain ⟨hR, hI1, hI2, hI3, hI4, hI5, hI6, hI7⟩ := id hI
  unfold Inv1 at hI1
  have h0 := hE.h
  have hL1 := hE.l (n := 1) (by decide) (by decide)
  have hL2 := hE.l (n := 2) (by decide) (by decide)
  have hL3 := hE.l (n := 3) (by decide) (by decide)
  have hL4 := hE.l (n := 4) (by decide) (by decide)
  have hL5 := hE.l (n := 5) (by decide) (by decide)
  have hO := hE.o
  have hRm := hE.r
  have hI1' := hI.2.1
  refine c_iload_n d_h_restore_0 rfl ?_
  refine c_if_lt (tgt := 15) d_h_restore_1 (by decide) (by first | assumption | exact hR _ _ (by decide) | (unfold R32; omega)) (fun z1 => ?_) (fun z1 => ?_)
  · exact fun h hc => thw_1 rfl sr_311 d_h_restore_15 d_h_restore_18 d_h_restore_19 d_h_restore_22 d_h_restore_25 rfl (by decide) (by decide) (by decide) (by decide) ⟨ad, S, ⟨rfl, rfl, 0, rfl, (by unfold cd_restore; (repeat' split) <;> omega)⟩, hc⟩
  · refine c_iload_n d_h_restore_4 rfl ?_
    refine c_aload_n d_h_restore_5 rfl ?_
    refine cg_h_22_6 h0 d_h_restore_6 rfl ?_
    refine c_lsize4 hL4 d_h_restore_9 q_h_restore_147 (Nat.le_of_ble_eq_true rfl) rfl ?_
    refine c_icmp_lt (tgt := 26) d_h_restore_12 (by decide) (by first | assumption | exact hR _ _ (by decide) | (unfold R32; omega)) (by first | assumption | exact hR _ _ (by decide) | (unfold R32; omega)) (fun z12 => ?_) (fun z12 => ?_)
    · refine c_aload_n d_h_restore_26 rfl ?_
      refine cg_h_22_6 h0 d_h_restore_27 rfl ?_
      refine c_iload_n d_h_restore_30 rfl ?_
      refine c_lget4 hL4 (hE.s (by omega) (by omega)) (by omega) (by omega) d_h_restore_31 d_h_restore_34 q_h_restore_226 (Nat.le_of_ble_eq_true rfl) rfl rfl ?_
      refine c_astore_n d_h_restore_37 (by decide) ?_
      refine c_aload_n d_h_restore_38 rfl ?_
      refine c_iload_n d_h_restore_39 rfl ?_
      refine c_callV (r := (RX6, TX6, 7)) d_h_restore_40 q_h_restore_143 s_h_groupAt v_h_groupAt (t_h_groupAt hI hE hw (fun q => ⟨rfl, rfl, 0, rfl, (by unfold cd_restore; (repeat' split) <;> omega)⟩)) (fun _ z => ⟨_, z.at 0 (by decide) h0⟩) rfl rfl rfl rfl (Nat.le_of_ble_eq_true rfl) rfl rfl rfl (fun _ _ _ z => z) ?_
      rintro _ _ _ ⟨rfl, rfl, rfl, hw0, hw1⟩
      have hk3 := hI3 (20 + k) (Or.inr ⟨by omega, by omega⟩)
      refine c_astore d_h_restore_43 (by decide) ?_
      refine c_aload_n d_h_restore_45 rfl ?_
      refine c_callV (r := (RX6, TX6, 7)) d_h_restore_46 q_h_restore_165 s_h_requireContainerSlot v_h_requireContainerSlot (t_h_requireContainerSlot hI hE (fun q => ⟨rfl, rfl, 1, rfl, (by unfold cd_restore; (repeat' split) <;> omega)⟩)) (fun _ z => ⟨_, z.at 0 (by decide) h0⟩) rfl rfl rfl rfl (Nat.le_of_ble_eq_true rfl) rfl rfl rfl (fun _ _ _ z => z) ?_
      rintro _ _ _ ⟨rfl, rfl, rfl, hn9⟩
      refine c_aload d_h_restore_49 rfl ?_
      refine c_aload_n d_h_restore_51 rfl ?_
      refine cg_h_313_1 (hE.s (by omega) (by omega)) d_h_restore_52 rfl ?_
      refine c_aload_n d_h_restore_55 rfl ?_
      refine cg_h_314_1 (hE.s (by omega) (by omega)) d_h_restore_56 rfl ?_
      refine c_callS d_h_restore_59 q_h_restore_168 s_h_requireRoom (t_h_requireRoom hI hE hw0 hw1 (by omega) (by omega) (by omega) (by omega) (fun q => ⟨rfl, rfl, 1, rfl, (by unfold cd_restore; (repeat' split) <;> omega)⟩)) rfl rfl (Nat.le_of_ble_eq_true rfl) rfl rfl rfl (fun _ _ _ z => z) ?_
      rintro _ _ _ ⟨rfl, rfl, rfl, ht0⟩
      refine c_aload_n d_h_restore_62 rfl ?_
      refine c_aload d_h_restore_63 rfl ?_
      refine c_aload_n d_h_restore_65 rfl ?_
      refine cg_h_315_1 (hE.s (by omega) (by omega)) d_h_restore_66 rfl ?_
      obtain ⟨hd54, hd55, hd6, hd7⟩ := dead11 hI hE hn9
      have hW := Wf_of hI hE
      have h51 : ∀ n, 1 ≤ n → n ≤ 5 → S 51 n = 1 := fun n a b => hE.l a b
      have h15 : ∀ i, S 58 i = 1 ∨ S 51 i = 1 → 1 ≤ i ∧ i ≤ 5 := fun i h => hE.e h
      have hWg := Wf_Cg (i := S 12 (20 + k)) (w := w) (s := S 13 (20 + k)) hW hd54 hd6 hI1.2.2.1.1
      obtain ⟨c12, c20, c13, cz9⟩ := Cg_at (S := S) (n := S 11 0) (i := S 12 (20 + k)) (w := w) (s := S 13 (20 + k))
      refine c_goS (S' := (Cg S (S 11 0) (S 12 (20 + k)) w (S 13 (20 + k)))) (fun h hc => cls_Cg hc hd54 hd55 hd6 hd7) ?_
      have hbl : blw (Cg S (S 11 0) (S 12 (20 + k)) w (S 13 (20 + k))) (10 + S 11 0) = S 12 (20 + k) := (if_neg (by omega)).trans (by rw [show 10 + S 11 0 - 10 = S 11 0 by omega]; exact c12)
      have cgo : ∀ r, 12 ≤ r → r ≤ 22 → (Cg S (S 11 0) (S 12 (20 + k)) w (S 13 (20 + k))) r (20 + k) = S r (20 + k) := fun r a b => by
        unfold Cg
        rw [sset_n _ _ _ (by omega), ez_r _ _ (by omega) (by omega)]
        unfold bg9
        have hj : 20 + k ≠ S 11 0 := by omega
        rw [sset_o _ _ _ _ hj, sset_o _ _ _ _ hj, sset_o _ _ _ _ hj, sset_o _ _ _ _ hj, sset_o _ _ _ _ hj, sset_o _ _ _ _ hj, sset_o _ _ _ _ hj, sset_o _ _ _ _ hj, sset_o _ _ _ _ hj, sset_o _ _ _ _ hj, sset_o _ _ _ _ hj, sset_o _ _ _ _ hj, sset_o _ _ _ _ hj]
      have hbk : blw (Cg S (S 11 0) (S 12 (20 + k)) w (S 13 (20 + k))) (30 + k) = S 12 (20 + k) := (if_neg (by omega)).trans (by rw [show 30 + k - 10 = 20 + k by omega]; exact cgo 12 (by omega) (by omega))
      have hsl : S 56 (30 + k) = 1 := hE.y (lvl.s (by omega) (by omega))
      have hil : S 56 (S 12 (20 + k)) = 1 := hE.y (lvl.i hk3.1.1 hk3.1.2)
      have h36n : (Cg S (S 11 0) (S 12 (20 + k)) w (S 13 (20 + k))) 36 (10 + S 11 0) = if blw (Cg S (S 11 0) (S 12 (20 + k)) w (S 13 (20 + k))) (30 + k) = -1 then 1 else (Cg S (S 11 0) (S 12 (20 + k)) w (S 13 (20 + k))) 36 (blw (Cg S (S 11 0) (S 12 (20 + k)) w (S 13 (20 + k))) (30 + k)) + 1 := by
        have e1 : (Cg S (S 11 0) (S 12 (20 + k)) w (S 13 (20 + k))) 36 (10 + S 11 0) = lay S (S 12 (20 + k)) + 1 := sset_e _ _ _ _
        have e2 : (Cg S (S 11 0) (S 12 (20 + k)) w (S 13 (20 + k))) 36 (S 12 (20 + k)) = S 36 (S 12 (20 + k)) := (sset_o _ _ _ _ (by omega)).trans (by rw [ez_r _ _ (by decide) (by decide), bg9_r (by decide) (by decide) (by decide)])
        rw [hbk, if_neg (by omega), e1, e2, hE.2.2.2.1.1 _ hk3.1.1 hk3.1.2]
      refine c_callV (r := (RX4, TX4, 4)) d_h_restore_69 q_h_restore_139 s_l_copied v_l_copied (t_l_copied (S := (Cg S (S 11 0) (S 12 (20 + k)) w (S 13 (20 + k)))) (l := 10 + S 11 0) (s := 30 + k) hWg (fun m hm => h51 m (h15 m (Or.inl hm)).1 (h15 m (Or.inl hm)).2) hsl hd6 hd7 (by omega) (by omega) (hbl.trans hbk.symm) h36n (by
        show sset (ez (bg9 S (S 11 0) (S 12 (20 + k)) w (S 13 (20 + k))) (10 + S 11 0) 32) 36 (10 + S 11 0) (lay S (S 12 (20 + k)) + 1) 2 (10 + S 11 0) = 0
        rw [sset_n _ _ _ (by decide)]; exact if_pos ⟨rfl, rfl⟩) (fun f a b => ez_f _ _ a b)) (fun _ z => ⟨_, z.at 6 (by decide) hsl⟩) rfl rfl rfl rfl (Nat.le_of_ble_eq_true rfl) rfl rfl rfl (fun _ _ _ z => z) ?_
      rintro _ _ _ ⟨rfl, ⟨q, x, rfl⟩, rfl⟩
      have yo : ∀ r, 12 ≤ r → r ≤ 22 → (cz (bly (Cg S (S 11 0) (S 12 (20 + k)) w (S 13 (20 + k))) (10 + S 11 0)) (10 + S 11 0) (30 + k) 32) r (20 + k) = S r (20 + k) := fun r a b => by
        rw [cz_rr _ _ _ (by omega) (by omega), bly_r (by omega) (by omega)]
        exact cgo r a b
      have yn : ∀ r, r ≠ 1 → r ≠ 2 → r ≠ 56 → r ≠ 57 → (cz (bly (Cg S (S 11 0) (S 12 (20 + k)) w (S 13 (20 + k))) (10 + S 11 0)) (10 + S 11 0) (30 + k) 32) r (S 11 0) = (Cg S (S 11 0) (S 12 (20 + k)) w (S 13 (20 + k))) r (S 11 0) := fun r a b c d => by
        rw [cz_rr _ _ _ a b, bly_r d c]
      have hk5 : S 55 k = 1 := hE.s (by omega) (by omega)
      refine c_aload_n d_h_restore_72 rfl ?_
      refine cg_h_316_1 (i := k) hk5 d_h_restore_73 rfl ?_
      refine c_val (yo 13 (by omega) (by omega)) ?_
      refine c_callV (r := (RX6, TX6, 7)) d_h_restore_76 q_h_restore_172 s_h_addContainer v_h_addContainer (t_h_addContainer (S := (cz (bly (Cg S (S 11 0) (S 12 (20 + k)) w (S 13 (20 + k))) (10 + S 11 0)) (10 + S 11 0) (30 + k) 32)) (ad := aly ad (10 + S 11 0) q x) (n := S 11 0) (w := w) (s := S 13 (20 + k)) (Wf_c12 (Wf_bly hWg (by rw [hbl]; exact Or.inr hil)) (fun k a b => cz_rr _ _ _ a b)) h15 h51 h0 rfl hI1.2.2.1.1 hn9 hd54 (by rw [cz_rr _ _ _ (by decide) (by decide)]; exact if_pos ⟨rfl, rfl⟩) (hE.p hw0 hw1) ((yn 20 (by decide) (by decide) (by decide) (by decide)).trans c20) ((yn 13 (by decide) (by decide) (by decide) (by decide)).trans c13) (by
        rw [yn 19 (by decide) (by decide) (by decide) (by decide), yn 14 (by decide) (by decide) (by decide) (by decide), yn 15 (by decide) (by decide) (by decide) (by decide), yn 22 (by decide) (by decide) (by decide) (by decide), yn 16 (by decide) (by decide) (by decide) (by decide), yn 17 (by decide) (by decide) (by decide) (by decide), yn 18 (by decide) (by decide) (by decide) (by decide), yn 33 (by decide) (by decide) (by decide) (by decide), yn 34 (by decide) (by decide) (by decide) (by decide)]
        exact cz9)) (fun _ z => ⟨_, z.at 0 (by decide) h0⟩) rfl rfl rfl rfl (Nat.le_of_ble_eq_true rfl) rfl rfl rfl (fun _ _ _ z => z) ?_
      rintro _ _ _ ⟨rfl, ⟨q4, d4, rfl⟩, N9, hN9, rfl⟩
      have bo : ∀ r, 12 ≤ r → r ≤ 22 → (lad3 (sset (cz (bly (Cg S (S 11 0) (S 12 (20 + k)) w (S 13 (20 + k))) (10 + S 11 0)) (10 + S 11 0) (30 + k) 32) 54 (S 11 0) 1) N9) r (20 + k) = S r (20 + k) := fun r a b => by
        rw [lad3_r (by omega) (by omega) (by omega) (by omega), sset_n _ _ _ (by omega)]
        exact yo r a b
      have hj : 20 + k ≠ S 11 0 := by omega
      have h54n : (lad3 (sset (cz (bly (Cg S (S 11 0) (S 12 (20 + k)) w (S 13 (20 + k))) (10 + S 11 0)) (10 + S 11 0) (30 + k) 32) 54 (S 11 0) 1) N9) 54 (S 11 0) = 1 := by rw [lad3_r (by decide) (by decide) (by decide) (by decide)]; exact sset_e _ _ _ _
      have h20n : (lad3 (sset (cz (bly (Cg S (S 11 0) (S 12 (20 + k)) w (S 13 (20 + k))) (10 + S 11 0)) (10 + S 11 0) (30 + k) 32) 54 (S 11 0) 1) N9) 20 (S 11 0) = w := by rw [lad3_r (by decide) (by decide) (by decide) (by decide), sset_n _ _ _ (by decide)]; exact (yn 20 (by decide) (by decide) (by decide) (by decide)).trans c20
      have hF := fin_rows (pe := S 16 (20 + k)) (ef := S 17 (20 + k)) (po := S 18 (20 + k)) (m := S 14 (20 + k)) (pr := S 15 (20 + k)) (i := S 12 (20 + k)) (w := w) (s := S 13 (20 + k)) hI hE rfl hn9 hk3.1.1 hk3.1.2 hw0 hw1 (by omega) (by omega) (by omega) (by omega) hN9 (Y := (cz (bly (Cg S (S 11 0) (S 12 (20 + k)) w (S 13 (20 + k))) (10 + S 11 0)) (10 + S 11 0) (30 + k) 32)) (fun k a b => cz_rr _ _ _ a b)
      refine c_astore d_h_restore_79 (by decide) ?_
      refine c_aload d_h_restore_81 rfl ?_
      refine c_aload_n d_h_restore_83 rfl ?_
      refine cg_h_319_1 (i := k) hk5 d_h_restore_84 rfl ?_
      refine c_val (bo 16 (by omega) (by omega)) ?_
      refine cp_h_176_2 (i := S 11 0) h54n d_h_restore_87 rfl ?_
      refine c_aload d_h_restore_90 rfl ?_
      refine c_aload_n d_h_restore_92 rfl ?_
      refine cg_h_320_1 (i := k) hk5 d_h_restore_93 rfl ?_
      refine c_val ((sset_o _ _ _ _ hj).trans (bo 17 (by omega) (by omega))) ?_
      refine cp_h_179_2 (i := S 11 0) h54n d_h_restore_96 rfl ?_
      refine c_aload d_h_restore_99 rfl ?_
      refine c_aload_n d_h_restore_101 rfl ?_
      refine cg_h_321_1 (i := k) hk5 d_h_restore_102 rfl ?_
      refine c_val ((sset_o _ _ _ _ hj).trans ((sset_o _ _ _ _ hj).trans (bo 18 (by omega) (by omega)))) ?_
      refine cp_h_283_2 (i := S 11 0) h54n d_h_restore_105 rfl ?_
      refine c_aload d_h_restore_108 rfl ?_
      refine c_aload_n d_h_restore_110 rfl ?_
      refine cg_h_313_1 (i := k) hk5 d_h_restore_111 rfl ?_
      refine c_val ((sset_o _ _ _ _ hj).trans ((sset_o _ _ _ _ hj).trans ((sset_o _ _ _ _ hj).trans (bo 14 (by omega) (by omega))))) ?_
      refine c_aload_n d_h_restore_114 rfl ?_
      refine cg_h_314_1 (i := k) hk5 d_h_restore_115 rfl ?_
      refine c_val ((sset_o _ _ _ _ hj).trans ((sset_o _ _ _ _ hj).trans ((sset_o _ _ _ _ hj).trans (bo 15 (by omega) (by omega))))) ?_
      refine c_callV (r := (RX1, TX1, 13)) d_h_restore_118 q_h_restore_182 s_c_charge v_c_charge (t_c_charge (c := S 11 0) h54n (hI2.c rfl rfl rfl rfl) (Inv1_mk hI1' hn9 rfl rfl rfl rfl) (fun p a b => hE.p a b) (by rw [show sset (sset (sset (lad3 (sset (cz (bly (Cg S (S 11 0) (S 12 (20 + k)) w (S 13 (20 + k))) (10 + S 11 0)) (10 + S 11 0) (30 + k) 32) 54 (S 11 0) 1) N9) 16 (S 11 0) (S 16 (20 + k))) 17 (S 11 0) (S 17 (20 + k))) 18 (S 11 0) (S 18 (20 + k)) 20 (S 11 0) = w from h20n]; exact hw0) (by rw [show sset (sset (sset (lad3 (sset (cz (bly (Cg S (S 11 0) (S 12 (20 + k)) w (S 13 (20 + k))) (10 + S 11 0)) (10 + S 11 0) (30 + k) 32) 54 (S 11 0) 1) N9) 16 (S 11 0) (S 16 (20 + k))) 17 (S 11 0) (S 17 (20 + k))) 18 (S 11 0) (S 18 (20 + k)) 20 (S 11 0) = w from h20n]; exact hw1)) (fun _ z => ⟨_, z.at 4 (by decide) h54n⟩) rfl rfl rfl rfl (Nat.le_of_ble_eq_true rfl) rfl rfl rfl (fun _ _ _ z => z) ?_
      rintro _ _ _ ⟨rfl, rfl, rfl⟩
      refine c_aload d_h_restore_121 rfl ?_
      refine cg_h_185_2 (i := S 11 0) ((congrFun (chg_r (by decide) (by decide) (by decide) (by decide)) (S 11 0)).trans h54n) d_h_restore_123 rfl ?_
      exact c_iret rfl d_h_restore_126 ⟨(by unfold cd_restore; (repeat' split) <;> omega), rfl, rst_agr (by omega) (by omega) hF.2.1 hF.2.2 (by rw [show 10 + (20 + k) = 30 + k by omega]), hF.1⟩
    · exact fun h hc => thw_1 rfl sr_311 d_h_restore_15 d_h_restore_18 d_h_restore_19 d_h_restore_22 d_h_restore_25 rfl (by decide) (by decide) (by decide) (by decide) ⟨ad, S, ⟨rfl, rfl, 0, rfl, (by unfold cd_restore; (repeat' split) <;> omega)⟩, hc⟩
