theorem cz_rr (S : gS) (t f : Int) {k : Nat} (h1 : k ≠ 1) (h2 : k ≠ 2) : cz S t f 32 k = S k := by
  funext j
  unfold cz
  rw [if_neg (fun z => h2 z.1), if_neg (fun z => h1 z.1)]
theorem cz_ez (X : gS) {l f : Int} (h : l ≠ f) : cz (ez X l 32) l f 32 = cz X l f 32 := by
  funext a j
  by_cases h2 : a = 2
  · subst h2
    show (if 2 = 2 ∧ j = l then (if 2 = 2 ∧ f = l then (0 : Int) else X 2 f) else (if 2 = 2 ∧ j = l then (0 : Int) else X 2 j)) = (if 2 = 2 ∧ j = l then X 2 f else X 2 j)
    by_cases z : j = l
    · simp [z, Ne.symm h]
    · simp [z]
  · by_cases h1 : a = 1
    · subst h1
      show (if 1 = 1 ∧ 32 * l ≤ j ∧ j < 32 * l + 32 then (if 1 = 1 ∧ 32 * l ≤ j - 32 * l + 32 * f ∧ j - 32 * l + 32 * f < 32 * l + 32 then (0 : Int) else X 1 (j - 32 * l + 32 * f)) else (if 1 = 1 ∧ 32 * l ≤ j ∧ j < 32 * l + 32 then (0 : Int) else X 1 j)) = (if 1 = 1 ∧ 32 * l ≤ j ∧ j < 32 * l + 32 then X 1 (j - 32 * l + 32 * f) else X 1 j)
      by_cases z : 32 * l ≤ j ∧ j < 32 * l + 32
      · have p2 : ¬ (32 * l ≤ j - 32 * l + 32 * f ∧ j - 32 * l + 32 * f < 32 * l + 32) := fun w => h (by omega)
        simp only [true_and, if_pos z, if_neg p2]
      · simp only [true_and, if_neg z]
    · rw [cz_rr _ _ _ h1 h2, cz_rr _ _ _ h1 h2, ez_r _ _ h1 h2]
theorem cz_bly (X : gS) (l t f : Int) : cz (bly X l) t f 32 = bly (cz X t f 32) l := by
  funext a j
  by_cases h : a = 56 ∨ a = 57
  · rcases h with e | e <;> (subst e; rfl)
  · have ea : bly X l a = X a := bly_r (by omega) (by omega)
    have e1 : bly X l 1 = X 1 := bly_r (by decide) (by decide)
    have e2 : bly X l 2 = X 2 := bly_r (by decide) (by decide)
    have eb : bly (cz X t f 32) l a = cz X t f 32 a := bly_r (by omega) (by omega)
    rw [eb]
    unfold cz
    rw [ea, e1, e2]
theorem cz_36 (X : gS) (l : Int) (v : Int) (t f : Int) {k : Nat} (hk : k ≠ 36) : cz (sset X 36 l v) t f 32 k = cz X t f 32 k := by
  funext j
  unfold cz
  rw [sset_n _ _ _ hk, sset_n _ _ _ (by decide), sset_n _ _ _ (by decide)]
theorem Wf_c12 {S T : gS} (hW : Wf S) (h : ∀ k, k ≠ 1 → k ≠ 2 → T k = S k) : Wf T := by
  have e : ∀ k, (k == 1 || k == 2) = false → T k = S k := fun k hk => by
    simp only [Bool.or_eq_false_iff, beq_eq_false_iff_ne] at hk
    exact h k hk.1 hk.2
  have eb : ∀ l, blw T l = blw S l := fun l => by unfold blw; rw [e 4 rfl, e 12 rfl]
  have ec : ∀ n, cnt T n = cnt S n := fun n => by unfold cnt; rw [e 3 rfl, e 6 rfl, e 11 rfl, e 23 rfl, e 43 rfl]
  refine ⟨by rw [e 52 rfl, e 56 rfl]; exact hW.1, by rw [e 54 rfl, e 56 rfl, e 53 rfl, e 20 rfl]; exact hW.2.1, by rw [e 55 rfl, e 56 rfl]; exact hW.2.2.1, fun l hl => ?_, by rw [e 53 rfl, e 7 rfl]; exact hW.2.2.2.2.1, fun n j a b c => ?_, by rw [e 24 rfl, e 54 rfl]; exact hW.2.2.2.2.2.2⟩
  · rw [e 56 rfl] at hl
    rw [e 57 rfl, eb, e 56 rfl]
    exact hW.2.2.2.1 l hl
  · rw [e 51 rfl] at a
    rw [ec] at c
    have e1 : elK T n j = elK S n j := by unfold elK; rw [e 44 rfl]
    have e2 : elI T n j = elI S n j := by unfold elI; rw [e 44 rfl]
    have hb := elK_b S n j
    rw [e1, e2, h _ (by omega) (by omega)]
    exact hW.2.2.2.2.2.1 n j a b c
theorem ck_agr {S : gS} {n p f b N' : Int} (hn : n = S 3 0) (hf : n ≠ f) : agr (lad1 (sset (cz (bly (nIg S n p b) n) n f 32) 52 n 1) N') (sset (cz (sset (sset S 4 n p) 5 n b) n f 32) 3 0 (n + 1)) := by
  intro k hk
  by_cases h3 : k = 3
  · subst h3
    funext j
    show (if 3 = 3 ∧ j = 0 then S 3 0 + 1 else S 3 j) = (if 3 = 3 ∧ j = 0 then n + 1 else S 3 j)
    rw [hn]
  · rw [lad1_r (by omega) (by omega) (by omega) h3, sset_n _ _ _ (by omega), cz_bly, bly_r (by omega) (by omega), sset_n _ _ _ h3]
    unfold nIg
    rw [cz_36 _ _ _ _ _ (by omega), cz_ez _ hf]
theorem t_h_commit {g : xG} {K : hp} {ad : cA} {S : gS} {c : Int} (hI : Inv S) (hE : Ext S) (hc : R32 c) : cM g y_h_commit k_h_commit M_h_commit K [.ref (ad 0 0), .int (iI c)] ad S (opC (cd_commit S c) (vl_commit S c) (st_commit S c)) (opX [eIO, eIS] ad S (cd_commit S c)) := by
  refine cM.of rfl (by decide) rfl rfl rfl (by simp [Value.category]) (Nat.le_of_ble_eq_true rfl) rfl ?_
  obtain ⟨hR, hI1, hI2, hI3, hI4, hI5, hI6, hI7⟩ := id hI
  unfold Inv1 at hI1
  have h0 := hE.h
  have hL1 := hE.l (n := 1) (by decide) (by decide)
  have hL2 := hE.l (n := 2) (by decide) (by decide)
  have hL3 := hE.l (n := 3) (by decide) (by decide)
  have hL4 := hE.l (n := 4) (by decide) (by decide)
  have hL5 := hE.l (n := 5) (by decide) (by decide)
  have hO := hE.o
  have hRm := hE.r
  refine c_aload_n d_h_commit_0 rfl ?_
  refine c_iload_n d_h_commit_1 rfl ?_
  refine c_callV (r := (RX6, TX6, 7)) d_h_commit_2 q_h_commit_127 s_h_containerAt v_h_containerAt (t_h_containerAt hI hE hc (fun q => ⟨rfl, rfl, 0, rfl, (by unfold cd_commit; (repeat' split) <;> omega)⟩)) (fun _ z => ⟨_, z.at 0 (by decide) h0⟩) rfl rfl rfl rfl (Nat.le_of_ble_eq_true rfl) rfl rfl rfl (fun _ _ _ z => z) ?_
  rintro _ _ _ ⟨rfl, rfl, rfl, hc0, hc1⟩
  have h36 := hE.2.2.2.1.2 c (Or.inl ⟨hc0, hc1⟩)
  have hk12 := (hI3 c (Or.inl ⟨hc0, hc1⟩)).1
  have hl8 := (hI7.1 _ hk12.1 hk12.2).1
  have hln := lay_nn S (S 12 c)
  refine cg_h_131_2 (hE.k hc0 hc1) d_h_commit_5 rfl ?_
  refine c_astore_n d_h_commit_8 (by decide) ?_
  refine c_aload_n d_h_commit_9 rfl ?_
  refine cg_h_113_5 (hE.y (lvl.k hc0 hc1)) d_h_commit_10 rfl ?_
  refine c_bipush d_h_commit_13 (by decide) ?_
  refine c_icmp_le (tgt := 28) d_h_commit_15 (by decide) (by first | assumption | exact hR _ _ (by decide) | (unfold R32; omega)) (by first | assumption | exact hR _ _ (by decide) | (unfold R32; omega)) (fun z15 => ?_) (fun z15 => ?_)
  · refine c_aload_n d_h_commit_28 rfl ?_
    refine c_callV (r := (RX6, TX6, 7)) d_h_commit_29 q_h_commit_55 s_h_requireImageSlot v_h_requireImageSlot (t_h_requireImageSlot hI hE (fun q => ⟨rfl, rfl, 1, rfl, (by have hl9 := hE.2.2.2.1.2 c (Or.inl ⟨hc0, hc1⟩); unfold cd_commit; (repeat' split) <;> omega)⟩)) (fun _ z => ⟨_, z.at 0 (by decide) h0⟩) rfl rfl rfl rfl (Nat.le_of_ble_eq_true rfl) rfl rfl rfl (fun _ _ _ z => z) ?_
    rintro _ _ _ ⟨rfl, rfl, rfl, hs9⟩
    obtain ⟨hd2, hd6, hd7⟩ := dead3 hI hE hs9
    refine c_aload_n d_h_commit_32 rfl ?_
    refine c_aload_n d_h_commit_33 rfl ?_
    have hW := Wf_of hI hE
    have h51 : ∀ n, 1 ≤ n → n ≤ 5 → S 51 n = 1 := fun n a b => hE.l a b
    have h15 : ∀ i, S 58 i = 1 ∨ S 51 i = 1 → 1 ≤ i ∧ i ≤ 5 := fun i h => hE.e h
    have hWg := Wf_nIg (p := S 12 c) (b := 1) hW hI1.1.1 hs9 hd6
    have hbl : blw (nIg S (S 3 0) (S 12 c) 1) (S 3 0) = S 12 c := (if_pos hs9).trans (if_pos ⟨rfl, rfl⟩)
    have hbc : blw (nIg S (S 3 0) (S 12 c) 1) (10 + c) = S 12 c := (if_neg (by omega)).trans (by rw [show 10 + c - 10 = c by omega]; rfl)
    have h36n : nIg S (S 3 0) (S 12 c) 1 36 (S 3 0) = if blw (nIg S (S 3 0) (S 12 c) 1) (10 + c) = -1 then 1 else nIg S (S 3 0) (S 12 c) 1 36 (blw (nIg S (S 3 0) (S 12 c) 1) (10 + c)) + 1 := by
      rw [hbc, if_neg (by omega), show nIg S (S 3 0) (S 12 c) 1 36 (S 3 0) = lay S (S 12 c) + 1 from if_pos ⟨rfl, rfl⟩, show nIg S (S 3 0) (S 12 c) 1 36 (S 12 c) = S 36 (S 12 c) from if_neg (fun w => by omega), hE.2.2.2.1.1 _ hk12.1 hk12.2]
    refine c_goS (S' := nIg S (S 3 0) (S 12 c) 1) (fun h hc => cls_nIg hc hd2 hd6 hd7) ?_
    refine c_callV (r := (RX4, TX4, 4)) d_h_commit_34 q_h_commit_139 s_l_copied v_l_copied (t_l_copied (S := nIg S (S 3 0) (S 12 c) 1) (l := S 3 0) (s := 10 + c) hWg (fun m hm => h51 m (h15 m (Or.inl hm)).1 (h15 m (Or.inl hm)).2) (hE.y (lvl.k hc0 hc1)) hd6 hd7 hI1.1.1 (by omega) (hbl.trans hbc.symm) h36n (by show (if 2 = 2 ∧ S 3 0 = S 3 0 then (0 : Int) else S 2 (S 3 0)) = 0; rw [if_pos ⟨rfl, rfl⟩]) (fun f a b => ez_f _ _ a b)) (fun _ z => ⟨_, z.at 6 (by decide) (hE.y (lvl.k hc0 hc1))⟩) rfl rfl rfl rfl (Nat.le_of_ble_eq_true rfl) rfl rfl rfl (fun _ _ _ z => z) ?_
    rintro _ _ _ ⟨rfl, ⟨q, x, rfl⟩, rfl⟩
    refine c_iconst d_h_commit_37 ?_
    refine c_callV (r := (RX6, TX6, 7)) d_h_commit_38 q_h_commit_63 s_h_addImage v_h_addImage (t_h_addImage (S := cz (bly (nIg S (S 3 0) (S 12 c) 1) (S 3 0)) (S 3 0) (10 + c) 32) (ad := aly ad (S 3 0) q x) (n := S 3 0) (Wf_c12 (Wf_bly hWg (by rw [hbl]; exact Or.inr (hE.y (lvl.i hk12.1 hk12.2)))) (fun k a b => cz_rr _ _ _ a b)) h15 h51 h0 rfl hI1.1.1 hs9 hd2 (by rw [cz_rr _ _ _ (by decide) (by decide)]; exact if_pos ⟨rfl, rfl⟩) (by rw [cz_rr _ _ _ (by decide) (by decide)]; show (if 5 = 5 ∧ S 3 0 = S 3 0 then (1 : Int) else S 5 (S 3 0)) = 1; rw [if_pos ⟨rfl, rfl⟩]) (Or.inr rfl)) (fun _ z => ⟨_, z.at 0 (by decide) h0⟩) rfl rfl rfl rfl (Nat.le_of_ble_eq_true rfl) rfl rfl rfl (fun _ _ _ z => z) ?_
    rintro _ _ _ ⟨rfl, N', hN9, rfl⟩
    exact c_iret rfl d_h_commit_41 ⟨(by have hl9 := hE.2.2.2.1.2 c (Or.inl ⟨hc0, hc1⟩); unfold cd_commit; (repeat' split) <;> omega), rfl, ck_agr rfl (by omega), by rw [cz_bly]; exact mk_ext (p := S 12 c) hI hE rfl hs9 (by omega) (by omega) hN9 hl8 (by rw [cz_rr _ _ _ (by decide) (by decide)]; unfold nIg; rw [sset_n _ _ _ (by decide), ez_r _ _ (by decide) (by decide), sset_n _ _ _ (by decide), sset_s]) (by rw [cz_rr _ _ _ (by decide) (by decide)]; unfold nIg; rw [sset_s, ez_r _ _ (by decide) (by decide), sset_n _ _ _ (by decide), sset_n _ _ _ (by decide)]) (fun k a b d e f => by rw [cz_rr _ _ _ a b]; exact nIg_r a b d e f)⟩
  · exact fun h hc => tht_3 rfl sr_136 d_h_commit_18 d_h_commit_21 d_h_commit_22 d_h_commit_24 d_h_commit_27 rfl (by decide) (by decide) (by decide) (by decide) ⟨ad, S, ⟨rfl, rfl, 1, rfl, (by have hl9 := hE.2.2.2.1.2 c (Or.inl ⟨hc0, hc1⟩); unfold cd_commit; (repeat' split) <;> omega)⟩, hc⟩
theorem bel_push {S T : gS} (h2 : Inv2 S) (h1 : Inv1 S) {n p : Int} (hn : n = S 6 0) (h7 : T 7 = fset (S 7) n p) (b : Int) : ∀ a, -1 ≤ a → a < n → bel T a b = bel S a b := by
  have q : ∀ (m : Nat) (a : Int), -1 ≤ a → a < n → belN T m a b = belN S m a b := by
    intro m
    induction m with
    | zero => intros; rfl
    | succ m ih =>
      intro a x y
      unfold belN
      by_cases z : a = b
      · rw [if_pos z, if_pos z]
      · by_cases z1 : a = -1
        · rw [if_neg z, if_neg z, if_pos z1, if_pos z1]
        · have w := h2.pa h1 a (by omega) (by omega)
          have e : T 7 a = S 7 a := by rw [h7]; exact if_neg (by omega)
          rw [if_neg z, if_neg z, if_neg z1, if_neg z1, e, ih _ w.1 (by omega)]
  exact fun a x y => q _ a x y
theorem memN_g {S T : gS} (h20 : T 20 = S 20) (h14 : T 14 = S 14) (g : Int) : ∀ n : Nat, (∀ k : Nat, k < n → bel T (S 20 k) g = bel S (S 20 k) g) → memN T g n = memN S g n := by
  intro n
  induction n with
  | zero => intro _; rfl
  | succ n ih =>
    intro h
    unfold memN
    rw [ih (fun k hk => h k (by omega)), h20, h14, h n (by omega)]
theorem prcN_g {S T : gS} (h20 : T 20 = S 20) (h15 : T 15 = S 15) (g : Int) : ∀ n : Nat, (∀ k : Nat, k < n → bel T (S 20 k) g = bel S (S 20 k) g) → prcN T g n = prcN S g n := by
  intro n
  induction n with
  | zero => intro _; rfl
  | succ n ih =>
    intro h
    unfold prcN
    rw [ih (fun k hk => h k (by omega)), h20, h15, h n (by omega)]
theorem memN_0 {S : gS} (g : Int) : ∀ n : Nat, (∀ k : Nat, k < n → ¬ bel S (S 20 k) g = 1) → memN S g n = 0 ∧ prcN S g n = 0 := by
  intro n
  induction n with
  | zero => intro _; exact ⟨rfl, rfl⟩
  | succ n ih =>
    intro h
    have q := ih (fun k hk => h k (by omega))
    unfold memN prcN
    rw [q.1, q.2, if_neg (h n (by omega)), if_neg (h n (by omega))]
    exact ⟨rfl, rfl⟩
theorem mem_push {S T : gS} (hI : Inv S) {n p : Int} (hn : n = S 6 0) (h7 : T 7 = fset (S 7) n p) (h11 : T 11 = S 11) (h14 : T 14 = S 14) (h15 : T 15 = S 15) (h20 : T 20 = S 20) (g : Int) : memI T g = memI S g ∧ prcI T g = prcI S g := by
  obtain ⟨hr, h1, h2, h3, h4, -⟩ := id hI
  have hk : ∀ k : Nat, k < (S 11 0).toNat → bel T (S 20 k) g = bel S (S 20 k) g := fun k hk => by
    have := (h4 k (by omega) (by omega)).2.1
    exact bel_push h2 h1 hn h7 g _ (by omega) (by omega)
  unfold memI prcI
  rw [h11]
  exact ⟨memN_g h20 h14 g _ hk, prcN_g h20 h15 g _ hk⟩
theorem mem_new {S : gS} (hI : Inv S) {n : Int} (hn : n = S 6 0) : memI S n = 0 ∧ prcI S n = 0 := by
  obtain ⟨hr, h1, h2, h3, h4, -⟩ := id hI
  have h16 := h1.2.1
  refine memN_0 n _ (fun k hk q => ?_)
  have := (h4 k (by omega) (by omega)).2.1
  have := bel_le h2 h1 (b := n) (by omega) (S 20 k + 1).toNat (S 20 k) (by omega) (by omega) (by omega) q
  omega
def nGg (S : gS) (n p m r s : Int) : gS := sset (sset (sset (sset (sset (sset (sset S 7 n p) 8 n m) 9 n r) 10 n s) 30 n 0) 31 n 0) 32 n 0
theorem nGg_r {S : gS} {n p m r s : Int} {k : Nat} (h7 : k ≠ 7) (h8 : k ≠ 8) (h9 : k ≠ 9) (h10 : k ≠ 10) (h30 : k ≠ 30) (h31 : k ≠ 31) (h32 : k ≠ 32) : nGg S n p m r s k = S k := by
  unfold nGg
  rw [sset_n _ _ _ h32, sset_n _ _ _ h31, sset_n _ _ _ h30, sset_n _ _ _ h10, sset_n _ _ _ h9, sset_n _ _ _ h8, sset_n _ _ _ h7]
theorem cls_nGg {g : xG} {K : hp} {ad : cA} {S : gS} {h : hp} (hc : cls g K ad S h) {n p m r s : Int} (hd : S 53 n ≠ 1) : cls g K ad (nGg S n p m r s) h :=
  ((((((hc.gs1 (r := 7) p (fun z => z.elim (by decide) (fun q => hd q))).gs1 (r := 8) m (fun z => z.elim (by decide) (fun q => hd q))).gs1 (r := 9) r (fun z => z.elim (by decide) (fun q => hd q))).gs1 (r := 10) s (fun z => z.elim (by decide) (fun q => hd q))).gs1 (r := 30) 0 (fun z => z.elim (by decide) (fun q => hd q))).gs1 (r := 31) 0 (fun z => z.elim (by decide) (fun q => hd q))).gs1 (r := 32) 0 (fun z => z.elim (by decide) (fun q => hd q))
theorem Wf_nGg {S : gS} (hW : Wf S) {n p m r s : Int} (hd : S 53 n ≠ 1) : Wf (nGg S n p m r s) := by
  refine ⟨hW.1, hW.2.1, hW.2.2.1, hW.2.2.2.1, fun a ha => ?_, fun l j x y z => ?_, hW.2.2.2.2.2.2⟩
  · have ha' : S 53 a = 1 := ha
    have e : nGg S n p m r s 7 a = S 7 a := if_neg (fun w => hd (by rw [← w.2]; exact ha'))
    rw [e]
    exact hW.2.2.2.2.1 a ha'
  · have hb := elK_b S l j
    have q := hW.2.2.2.2.2.1 l j x y z
    show nGg S n p m r s (50 + elK S l j) (elI S l j) = 1
    rw [nGg_r (by omega) (by omega) (by omega) (by omega) (by omega) (by omega) (by omega)]
    exact q
theorem gk_agr {S : gS} {n p m r s N' : Int} (hn : n = S 6 0) : agr (lad2 (sset (nGg S n p m r s) 53 n 1) N') (sset (sset (sset (sset (sset S 7 n p) 8 n m) 9 n r) 10 n s) 6 0 (n + 1)) := by
  intro k hk
  by_cases h6 : k = 6
  · subst h6
    funext j
    show (if 6 = 6 ∧ j = 0 then S 6 0 + 1 else S 6 j) = (if 6 = 6 ∧ j = 0 then n + 1 else S 6 j)
    rw [hn]
  · rw [lad2_r (by omega) (by omega) (by omega) h6, sset_n _ _ _ (by omega), sset_n _ _ _ h6]
    unfold nGg
    rw [sset_n _ _ _ (by omega), sset_n _ _ _ (by omega), sset_n _ _ _ (by omega)]
theorem gk_ext {S : gS} (hI : Inv S) (hE : Ext S) {n p m r s N' : Int} (hn : n = S 6 0) (hn1 : n < 8) (hp0 : 0 ≤ p) (hp1 : p < n) (hm : R32 m) (hr9 : R32 r) (hs : R32 s) (hN : R32 N') : Ext (lad2 (sset (nGg S n p m r s) 53 n 1) N') := by
  obtain ⟨hr, h1, h2, h3, h4, -⟩ := id hI
  unfold Inv1 at h1
  have L := hE.1
  have r1 : ∀ k, (k != 7 && k != 8 && k != 9 && k != 10 && k != 30 && k != 31 && k != 32 && k != 53 && k != 41 && k != 58 && k != 42 && k != 6) = true → lad2 (sset (nGg S n p m r s) 53 n 1) N' k = S k := fun k hk => by
    simp only [Bool.and_eq_true, bne_iff_ne] at hk
    rw [lad2_r (by omega) (by omega) (by omega) (by omega), sset_n _ _ _ (by omega), nGg_r (by omega) (by omega) (by omega) (by omega) (by omega) (by omega) (by omega)]
  have e6 : lad2 (sset (nGg S n p m r s) 53 n 1) N' 6 0 = n + 1 := by
    show (if 6 = 6 ∧ (0 : Int) = 0 then S 6 0 + 1 else S 6 0) = n + 1
    rw [if_pos ⟨rfl, rfl⟩, hn]
  have e7 : lad2 (sset (nGg S n p m r s) 53 n 1) N' 7 = fset (S 7) n p := by
    rw [lad2_r (by decide) (by decide) (by decide) (by decide), sset_n _ _ _ (by decide)]
    unfold nGg
    rw [sset_n _ _ _ (by decide), sset_n _ _ _ (by decide), sset_n _ _ _ (by decide), sset_n _ _ _ (by decide), sset_n _ _ _ (by decide), sset_n _ _ _ (by decide), sset_s]
  have hz : ∀ k, (k == 30 || k == 31 || k == 32) = true → lad2 (sset (nGg S n p m r s) 53 n 1) N' k = fset (S k) n 0 := fun k hk => by
    simp only [Bool.or_eq_true, beq_iff_eq] at hk
    rcases hk with (e | e) | e <;> (subst e; funext j; unfold fset; by_cases z : j = n <;> simp [lad2, nGg, sset, z])
  have hmp := fun g => mem_push hI hn e7 (r1 11 rfl) (r1 14 rfl) (r1 15 rfl) (r1 20 rfl) g
  have hmn := mem_new hI hn
  have f1 : ∀ {f : Int → Int} {i : Int}, fset f n 1 i = 1 ↔ (f i = 1 ∨ i = n) := fun {f} {i} => by
    unfold fset
    split
    · rename_i z; exact ⟨fun _ => Or.inr z, fun _ => rfl⟩
    · rename_i z; exact ⟨fun q => Or.inl q, fun q => q.resolve_right z⟩
  have e53 : lad2 (sset (nGg S n p m r s) 53 n 1) N' 53 = fset (S 53) n 1 := by
    rw [lad2_r (by decide) (by decide) (by decide) (by decide), sset_s, nGg_r (by decide) (by decide) (by decide) (by decide) (by decide) (by decide) (by decide)]
  have e58 : lad2 (sset (nGg S n p m r s) 53 n 1) N' 58 = fset (S 58) 2 1 := by
    unfold lad2
    rw [sset_n _ _ _ (by decide), sset_n _ _ _ (by decide), sset_s, sset_n _ _ _ (by decide), sset_n _ _ _ (by decide), nGg_r (by decide) (by decide) (by decide) (by decide) (by decide) (by decide) (by decide)]
  have hlv : ∀ l, lvl (lad2 (sset (nGg S n p m r s) 53 n 1) N') l ↔ lvl S l := fun l => lvl.eq (r1 3 rfl) (r1 11 rfl) (r1 23 rfl) l
  refine ⟨⟨by rw [r1 50 rfl]; exact L.1, by rw [r1 51 rfl]; exact L.2.1, by rw [r1 52 rfl, r1 3 rfl]; exact L.2.2.1, fun i => ?_, by rw [r1 54 rfl, r1 11 rfl]; exact L.2.2.2.2.1, by rw [r1 55 rfl, r1 23 rfl]; exact L.2.2.2.2.2.1, fun l => ?_, fun l => ?_, by rw [r1 59 rfl]; exact hE.o, by rw [r1 60 rfl]; exact hE.r, fun l hl => ?_, fun j a b => ?_⟩, fun q q0 q1 => ?_, hE.2.2.1.c (r1 11 rfl) (r1 21 rfl) (r1 33 rfl) (r1 34 rfl), hE.2.2.2.1.c (r1 3 rfl) (r1 4 rfl) (r1 11 rfl) (r1 12 rfl) (r1 23 rfl) (r1 36 rfl), fun q q0 q1 => ?_, fun k j hk => ?_⟩
  · rw [e53, f1, e6, L.2.2.2.1 i]
    omega
  · rw [r1 56 rfl, hlv]; exact L.2.2.2.2.2.2.1 l
  · rw [r1 57 rfl, hlv]; exact L.2.2.2.2.2.2.2.1 l
  · rw [e58, r1 51 rfl] at hl
    by_cases z : l = 2
    · omega
    · rw [show fset (S 58) 2 1 l = S 58 l from if_neg z] at hl
      exact hE.e hl
  · rw [r1 43 rfl] at b
    have q := hE.pt a b
    rw [r1 44 rfl, e53, r1 54 rfl, f1]
    exact q.imp_left (fun z => ⟨z.1, Or.inl z.2⟩)
  · rw [e6] at q1
    rw [hz 30 rfl, hz 31 rfl, (hmp q).1, (hmp q).2]
    by_cases z : q = n
    · rw [z, hmn.1, hmn.2]
      exact ⟨if_pos rfl, if_pos rfl⟩
    · rw [show fset (S 30) n 0 q = S 30 q from if_neg z, show fset (S 31) n 0 q = S 31 q from if_neg z]
      exact hE.2.1 q q0 (by omega)
  · rw [e6] at q1
    rw [hz 32 rfl]
    by_cases z : q = n
    · rw [z]; exact if_pos rfl
    · rw [show fset (S 32) n 0 q = S 32 q from if_neg z]
      exact hE.2.2.2.2.1 q q0 (by omega)
  · unfold lad2 nGg
    exact ((((((((((((hE.2.2.2.2.2.set (fun _ => by unfold R32; omega)).set (fun _ => hm)).set (fun _ => hr9)).set (fun _ => hs)).set (fun _ => by unfold R32; omega)).set (fun _ => by unfold R32; omega)).set (fun _ => by unfold R32; omega)).set (fun _ => by unfold R32; omega)).set (fun _ => hN)).set (fun _ => by unfold R32; omega)).set (fun _ => ⟨(iI _).le_toInt, (iI _).toInt_lt⟩)).set (fun q => absurd q (by decide))) k j hk
theorem t_h_newGroup {g : xG} {K : hp} {ad : cA} {S : gS} {p m r s : Int} (hI : Inv S) (hE : Ext S) (hp : R32 p) (hm : R32 m) (hr : R32 r) (hs : R32 s) : cM g y_h_newGroup k_h_newGroup M_h_newGroup K [.ref (ad 0 0), .int (iI p), .int (iI m), .int (iI r), .int (iI s)] ad S (opC (cd_newGroup S p m r s) (vl_newGroup S p m r s) (st_newGroup S p m r s)) (opX [eIO, eIA, eIS] ad S (cd_newGroup S p m r s)) := by
  refine cM.of rfl (by decide) rfl rfl rfl (by simp [Value.category]) (Nat.le_of_ble_eq_true rfl) rfl ?_
  obtain ⟨hR, hI1, hI2, hI3, hI4, hI5, hI6, hI7⟩ := id hI
  unfold Inv1 at hI1
  have h0 := hE.h
  have hL1 := hE.l (n := 1) (by decide) (by decide)
  have hL2 := hE.l (n := 2) (by decide) (by decide)
  have hL3 := hE.l (n := 3) (by decide) (by decide)
  have hL4 := hE.l (n := 4) (by decide) (by decide)
  have hL5 := hE.l (n := 5) (by decide) (by decide)
  have hO := hE.o
  have hRm := hE.r
  refine c_aload_n d_h_newGroup_0 rfl ?_
  refine c_iload_n d_h_newGroup_1 rfl ?_
  refine c_callV (r := (RX6, TX6, 7)) d_h_newGroup_2 q_h_newGroup_143 s_h_groupAt v_h_groupAt (t_h_groupAt hI hE hp (fun q => ⟨rfl, rfl, 0, rfl, (by unfold cd_newGroup; (repeat' split) <;> omega)⟩)) (fun _ z => ⟨_, z.at 0 (by decide) h0⟩) rfl rfl rfl rfl (Nat.le_of_ble_eq_true rfl) rfl rfl rfl (fun _ _ _ z => z) ?_
  rintro _ _ _ ⟨rfl, rfl, rfl, hp0, hp1⟩
  refine c_astore d_h_newGroup_5 (by decide) ?_
  refine c_iload_n d_h_newGroup_7 rfl ?_
  refine c_sipush d_h_newGroup_8 (by decide) ?_
  refine c_callS d_h_newGroup_11 q_h_newGroup_71 s_h_requireWithin (t_h_requireWithin_c hm (by unfold R32; omega) (fun q => ⟨rfl, rfl, 1, rfl, (by unfold cd_newGroup; (repeat' split) <;> omega)⟩)) rfl rfl (Nat.le_of_ble_eq_true rfl) rfl rfl rfl (fun _ _ _ z => z) ?_
  rintro _ _ _ ⟨rfl, rfl, rfl, hm0, hm1⟩
  refine c_iload_n d_h_newGroup_14 rfl ?_
  refine c_bipush d_h_newGroup_15 (by decide) ?_
  refine c_callS d_h_newGroup_17 q_h_newGroup_71 s_h_requireWithin (t_h_requireWithin_c hr (by unfold R32; omega) (fun q => ⟨rfl, rfl, 1, rfl, (by unfold cd_newGroup; (repeat' split) <;> omega)⟩)) rfl rfl (Nat.le_of_ble_eq_true rfl) rfl rfl rfl (fun _ _ _ z => z) ?_
  rintro _ _ _ ⟨rfl, rfl, rfl, hr0, hr1⟩
  refine c_iload d_h_newGroup_20 rfl ?_
  refine c_bipush d_h_newGroup_22 (by decide) ?_
  refine c_callS d_h_newGroup_24 q_h_newGroup_71 s_h_requireWithin (t_h_requireWithin_c hs (by unfold R32; omega) (fun q => ⟨rfl, rfl, 1, rfl, (by unfold cd_newGroup; (repeat' split) <;> omega)⟩)) rfl rfl (Nat.le_of_ble_eq_true rfl) rfl rfl rfl (fun _ _ _ z => z) ?_
  rintro _ _ _ ⟨rfl, rfl, rfl, hs0, hs1⟩
  refine c_aload_n d_h_newGroup_27 rfl ?_
  refine cg_h_16_6 h0 d_h_newGroup_28 rfl ?_
  refine c_lsize2 hL2 d_h_newGroup_31 q_h_newGroup_147 (Nat.le_of_ble_eq_true rfl) rfl ?_
  refine c_bipush d_h_newGroup_34 (by decide) ?_
  refine c_icmp_lt (tgt := 49) d_h_newGroup_36 (by decide) (by first | assumption | exact hR _ _ (by decide) | (unfold R32; omega)) (by first | assumption | exact hR _ _ (by decide) | (unfold R32; omega)) (fun z36 => ?_) (fun z36 => ?_)
  · refine c_aload_n d_h_newGroup_49 rfl ?_
    refine cg_h_16_6 h0 d_h_newGroup_50 rfl ?_
    have hW := Wf_of hI hE
    have h51 : ∀ n, 1 ≤ n → n ≤ 5 → S 51 n = 1 := fun n a b => hE.l a b
    have h15 : ∀ i, S 58 i = 1 ∨ S 51 i = 1 → 1 ≤ i ∧ i ≤ 5 := fun i h => hE.e h
    have hd : S 53 (S 6 0) ≠ 1 := fun z => by have := (hE.1.2.2.2.1 _).mp z; omega
    have hWg := Wf_nGg (p := p) (m := m) (r := r) (s := s) hW hd
    refine c_goS (S' := nGg S (S 6 0) p m r s) (fun h hc => cls_nGg hc hd) ?_
    intro h hc
    refine nw_h_38 d_h_newGroup_53 rfl rfl rfl (fun x hx => ?_)
    refine x_dup d_h_newGroup_56 rfl ?_
    refine x_aload d_h_newGroup_57 rfl ?_
    refine x_iload_n d_h_newGroup_59 rfl ?_
    refine x_iload_n d_h_newGroup_60 rfl ?_
    refine x_iload d_h_newGroup_61 rfl ?_
    refine x_callI d_h_newGroup_63 rfl q_h_newGroup_40 s_g_init rfl (t_g_init (hset_s _ _ _)) rfl (by rfl) (Nat.le_of_ble_eq_true rfl) rfl rfl rfl (fun _ _ hx9 => hx9) ?_
    rintro _ _ ⟨rfl, rfl⟩
    rw [hset_hset]
    have hB := hc.brn (k := 3) (i := S 6 0) (e := .inr (3, [.int (iI s), .ref (ad 3 p), .int (iI m), .int (iI r), .int (iI 0), .int (iI 0), .int (iI 0)])) hx (by decide) (by decide) hd (by omega) (by show S 6 0 < 8; omega) hWg (fun l hl => h51 l (h15 l (Or.inl hl)).1 (h15 l (Or.inl hl)).2) (by
      have e10 : nGg S (S 6 0) p m r s 10 (S 6 0) = s := if_pos ⟨rfl, rfl⟩
      have e7 : nGg S (S 6 0) p m r s 7 (S 6 0) = p := if_pos ⟨rfl, rfl⟩
      have e8 : nGg S (S 6 0) p m r s 8 (S 6 0) = m := if_pos ⟨rfl, rfl⟩
      have e9 : nGg S (S 6 0) p m r s 9 (S 6 0) = r := if_pos ⟨rfl, rfl⟩
      have e30 : nGg S (S 6 0) p m r s 30 (S 6 0) = 0 := if_pos ⟨rfl, rfl⟩
      have e31 : nGg S (S 6 0) p m r s 31 (S 6 0) = 0 := if_pos ⟨rfl, rfl⟩
      have e32 : nGg S (S 6 0) p m r s 32 (S 6 0) = 0 := if_pos ⟨rfl, rfl⟩
      show (Sum.inr (3, [.int (iI (if S 6 0 = 0 then 1 else nGg S (S 6 0) p m r s 10 (S 6 0))), rfo (cup ad 3 (S 6 0) x) 3 (nGg S (S 6 0) p m r s 7 (S 6 0)), .int (iI (nGg S (S 6 0) p m r s 8 (S 6 0))), .int (iI (nGg S (S 6 0) p m r s 9 (S 6 0))), .int (iI (nGg S (S 6 0) p m r s 30 (S 6 0))), .int (iI (nGg S (S 6 0) p m r s 31 (S 6 0))), .int (iI (nGg S (S 6 0) p m r s 32 (S 6 0)))]) : va_E) = _
      rw [if_neg (by omega), e10, e7, e8, e9, e30, e31, e32, rfo_cup _ x (Or.inr (fun z => by omega)), rfo_ref (by omega)])
    refine cW_at hB ?_
    have ex : cup ad 3 (S 6 0) x 3 (S 6 0) = x := cup_s _ _ _ _
    show cW g M_h_newGroup K _ _ _ _ (cup ad 3 (S 6 0) x) (sset (nGg S (S 6 0) p m r s) (50 + 3) (S 6 0) 1) 66 _ [.ref x, .ref (ad 1 2)]
    rw [show (Value.ref x) = .ref (cup ad 3 (S 6 0) x 3 (S 6 0)) from congrArg Value.ref ex.symm]
    refine c_callV (r := (RJx4a65c, TJx4a65c, 3)) d_h_newGroup_66 q_h_newGroup_43 s_al_add_ngObject21 v_al_add_ngObject21 (t_al_add2_c (S := sset (nGg S (S 6 0) p m r s) (50 + 3) (S 6 0) 1) (ad := cup ad 3 (S 6 0) x) (ke := 3) (ie := S 6 0) (Wf_53 hWg (Or.inr (by rw [show nGg S (S 6 0) p m r s 7 (S 6 0) = p from if_pos ⟨rfl, rfl⟩]; exact hE.p hp0 hp1))) h15 hL2 (by decide) (by decide) rfl rfl (if_pos ⟨rfl, rfl⟩) (by show S 6 0 < 33; omega)) (fun _ z => ⟨_, z.at 1 (by decide) hL2⟩) rfl rfl rfl rfl (Nat.le_of_ble_eq_true rfl) rfl rfl rfl (fun _ _ _ z => z) ?_
    rintro _ _ _ ⟨rfl, d9, N9, hN9, rfl, rfl⟩
    have e1 : lad2 (sset (nGg S (S 6 0) p m r s) (50 + 3) (S 6 0) 1) N9 6 0 - 1 = S 6 0 := by
      show (if 6 = 6 ∧ (0 : Int) = 0 then S 6 0 + 1 else S 6 0) - 1 = S 6 0
      rw [if_pos ⟨rfl, rfl⟩]
      omega
    have h0' : lad2 (sset (nGg S (S 6 0) p m r s) (50 + 3) (S 6 0) 1) N9 50 0 = 1 := h0
    have hL2' : lad2 (sset (nGg S (S 6 0) p m r s) (50 + 3) (S 6 0) 1) N9 51 2 = 1 := hL2
    refine c_pop d_h_newGroup_69 rfl ?_
    refine c_aload_n d_h_newGroup_70 rfl ?_
    refine cg_h_16_6 h0' d_h_newGroup_71 rfl ?_
    refine c_lsize2 hL2' d_h_newGroup_74 q_h_newGroup_147 (Nat.le_of_ble_eq_true rfl) rfl ?_
    refine c_iconst d_h_newGroup_77 ?_
    refine c_isub d_h_newGroup_78 ?_
    exact c_iret rfl d_h_newGroup_79 ⟨(by unfold cd_newGroup; (repeat' split) <;> omega), congrArg (fun z => some (Value.int (iI z))) e1, gk_agr rfl, gk_ext hI hE rfl (by omega) hp0 hp1 hm hr hs hN9⟩
  · exact fun h hc => tht_3 rfl sr_150 d_h_newGroup_39 d_h_newGroup_42 d_h_newGroup_43 d_h_newGroup_45 d_h_newGroup_48 rfl (by decide) (by decide) (by decide) (by decide) ⟨ad, S, ⟨rfl, rfl, 2, rfl, (by unfold cd_newGroup; (repeat' split) <;> omega)⟩, hc⟩
