theorem ExR_chg {S : gS} (hI : Inv S) (hX : ExM S) (hR : ExR S) {c m n : Int} (hg0 : 0 ≤ S 20 c) (hg1 : S 20 c < S 6 0) (hm0 : -20000 ≤ m) (hm1 : m ≤ 20000) (hn0 : -20000 ≤ n) (hn1 : n ≤ 20000) : ExR (chg S c m n) := by
  obtain ⟨hr, h1, h2, h3, h4, h5, h6, h7⟩ := id hI
  intro k j hk
  have hT : sset (sset S 14 c (S 14 c + m)) 15 c (S 15 c + n) k j = S k j := by rw [sset_n _ _ _ (by omega), sset_n _ _ _ (by omega)]
  have q30 : sset (sset S 14 c (S 14 c + m)) 15 c (S 15 c + n) 30 j = S 30 j := by rw [sset_n _ _ _ (by omega), sset_n _ _ _ (by omega)]
  have q31 : sset (sset S 14 c (S 14 c + m)) 15 c (S 15 c + n) 31 j = S 31 j := by rw [sset_n _ _ _ (by omega), sset_n _ _ _ (by omega)]
  have hb := hR k j hk
  unfold chg chS
  rw [hT, q30, q31, bel_congr (S := S) (by rfl)]
  by_cases q : 0 ≤ j ∧ bel S (S 20 c) j = 1
  · have hle := bel_le h2 h1 q.1 (S 20 c + 1).toNat (S 20 c) (by omega) (by omega) hg1 q.2
    have hx := hX j q.1 (by omega)
    have b1 := memI_b hI j
    have b2 := prcI_b hI j
    rw [hx.1, hx.2]
    unfold R32 at hb ⊢
    (repeat' split) <;> omega
  · rw [if_neg (fun z => q z.2), if_neg (fun z => q z.2)]
    exact hb
/-- what leads to c on the ports below k is taken away -/
def clr (T : gS) (c k : Int) : gS := fun a j => if a = 24 ∧ 0 ≤ j ∧ j < k ∧ T 24 j = c then -1 else T a j
theorem clr_0 (T : gS) (c : Int) : clr T c 0 = T := by
  funext a j
  unfold clr
  rw [if_neg (by omega)]
theorem clr_at (T : gS) (c k : Int) : clr T c k 24 k = T 24 k := if_neg (by omega)
theorem lt_ne {j k : Int} (h : j < k + 1) (h2 : ¬ j = k) : j < k := by omega
theorem clr_y {T : gS} {c k : Int} (h0 : 0 ≤ k) (h : T 24 k = c) : sset (clr T c k) 24 k (-1) = clr T c (k + 1) := by
  funext a j
  unfold sset clr
  by_cases q : a = 24 ∧ j = k
  · obtain ⟨rfl, rfl⟩ := q
    rw [if_pos ⟨rfl, rfl⟩, if_pos ⟨rfl, h0, by omega, h⟩]
  · rw [if_neg q]
    by_cases q2 : a = 24 ∧ 0 ≤ j ∧ j < k ∧ T 24 j = c
    · rw [if_pos q2, if_pos ⟨q2.1, q2.2.1, by omega, q2.2.2.2⟩]
    · rw [if_neg q2, if_neg (fun z => q2 ⟨z.1, z.2.1, lt_ne z.2.2.1 (fun e => q ⟨z.1, e⟩), z.2.2.2⟩)]
theorem clr_n {T : gS} {c k : Int} (h : ¬ T 24 k = c) : clr T c k = clr T c (k + 1) := by
  funext a j
  unfold clr
  by_cases q2 : a = 24 ∧ 0 ≤ j ∧ j < k ∧ T 24 j = c
  · rw [if_pos q2, if_pos ⟨q2.1, q2.2.1, by omega, q2.2.2.2⟩]
  · rw [if_neg q2, if_neg (fun z => q2 ⟨z.1, z.2.1, lt_ne z.2.2.1 (fun e => h (by rw [← e]; exact z.2.2.2)), z.2.2.2⟩)]
theorem clr_r {T : gS} {c k : Int} {a : Nat} (h : a ≠ 24) : clr T c k a = T a := by
  funext j
  exact if_neg (fun z => h z.1)
def hl0 (S : gS) (c : Int) : gS := sset (sset (sset (sset (chg S c (-S 14 c) (-S 15 c)) 19 c 2) 33 c (-1)) 34 c (-1)) 18 c 0
def hlt (S : gS) (c : Int) : gS := sset (clr (hl0 S c) c 32) 21 c (-1)
theorem cls_g21 {g : xG} {K : hp} {ad : cA} {S : gS} {h : hp} (hc : cls g K ad S h) (i v : Int) : cls g K ad (sset S 21 i v) h :=
  hc.ghost (fun q hq _ => sset_n S i v (by omega)) (fun n => rfl) (fun k j hk _ _ _ => by
    rcases k11 hk with rfl | rfl | rfl | rfl | rfl | rfl | rfl | rfl | rfl | rfl | rfl <;> rfl)
theorem L_h_halt {g : xG} {K : hp} {ad : cA} {S : gS} {QX : qKE} {rc rs : Nat} {c fr : Int} {T : gS} (h0 : T 50 0 = 1) (hO : T 59 0 = 1) (hk : T 54 c = 1) (hc0 : 0 ≤ c) (hp : ∀ j, 0 ≤ j → j < 32 → T 24 j = -1 ∨ T 54 (T 24 j) = 1) : ∀ (f9 : Nat) (k : Int), 0 ≤ k → k ≤ 32 → 32 < k + f9 → cW g M_h_halt K (fun v9 ad9 S9 => v9 = some (.int (iI fr)) ∧ ad = ad9 ∧ S9 = sset (clr T c 32) 21 c (-1)) QX rc rs ad (clr T c k) 32 [some (.ref (ad 0 0)), some (.ref (ad 4 c)), some (.int (iI fr)), some (.int (iI k))] [] := by
  intro f9
  induction f9 with
  | zero => intro k q0 q1 q2; omega
  | succ f9 ih =>
    intro k q0 q1 q2
    have h0' : clr T c k 50 0 = 1 := by rw [clr_r (by decide)]; exact h0
    have hO' : clr T c k 59 0 = 1 := by rw [clr_r (by decide)]; exact hO
    have hk' : clr T c k 54 c = 1 := by rw [clr_r (by decide)]; exact hk
    have ha := clr_at T c k
    refine c_iload_n d_h_halt_32 rfl ?_
    refine c_aload_n d_h_halt_33 rfl ?_
    refine cg_h_27_6 h0' d_h_halt_34 rfl ?_
    refine c_palen hO' d_h_halt_37 ?_
    refine c_icmp_ge (tgt := 64) d_h_halt_38 (by decide) (by first | assumption | exact hR _ _ (by decide) | (unfold R32; omega)) (by first | assumption | exact hR _ _ (by decide) | (unfold R32; omega)) (fun z38 => ?_) (fun z38 => ?_)
    · have e32 : k = 32 := by omega
      subst e32
      refine c_goS (S' := sset (clr T c 32) 21 c (-1)) (fun h hc => cls_g21 hc c (-1)) ?_
      refine c_iload_n d_h_halt_64 rfl ?_
      exact c_iret rfl d_h_halt_65 ⟨rfl, rfl, rfl⟩
    · refine c_aload_n d_h_halt_41 rfl ?_
      refine cg_h_27_6 h0' d_h_halt_42 rfl ?_
      refine c_iload_n d_h_halt_45 rfl ?_
      refine c_pald hO' d_h_halt_46 (by omega) (by omega) ?_
      rw [ha]
      refine c_aload_n d_h_halt_47 rfl ?_
      refine c_acmp_neF (by decide) (by rw [clr_r (by decide)]; exact hp k q0 (by omega)) hk' (by omega) (tgt := 58) d_h_halt_48 (by decide) (fun z48 => ?_) (fun z48 => ?_)
      · rw [clr_n z48]
        refine c_iinc d_h_halt_58 rfl (by decide) ?_
        refine c_goto (tgt := 32) d_h_halt_61 (by decide) ?_
        exact ih (k + 1) (by omega) (by omega) (by omega)
      refine c_aload_n d_h_halt_51 rfl ?_
      refine cg_h_27_6 h0' d_h_halt_52 rfl ?_
      refine c_iload_n d_h_halt_55 rfl ?_
      refine c_null d_h_halt_56 ?_
      refine c_pastN hO' d_h_halt_57 (by omega) (by omega) ?_
      refine c_iinc d_h_halt_58 rfl (by decide) ?_
      refine c_goto (tgt := 32) d_h_halt_61 (by decide) ?_
      rw [clr_y q0 z48]
      exact ih (k + 1) (by omega) (by omega) (by omega)
theorem t_h_halt {g : xG} {K : hp} {ad : cA} {S : gS} {QX : qKE} {c : Int} (hI : Inv S) (hE : Ext S) (hc0 : 0 ≤ c) (hc1 : c < S 11 0) : cM g y_h_halt k_h_halt M_h_halt K [.ref (ad 0 0), .ref (ad 4 c)] ad S (fun v9 ad9 S9 => v9 = some (.int (iI (S 14 c))) ∧ ad = ad9 ∧ S9 = hlt S c) QX := by
  refine cM.of rfl (by decide) rfl rfl rfl (by simp [Value.category]) (Nat.le_of_ble_eq_true rfl) rfl ?_
  obtain ⟨hR, hI1, hI2, hI3, hI4, hI5, hI6, hI7⟩ := id hI
  unfold Inv1 at hI1
  have h0 := hE.h
  have hL1 := hE.l (n := 1) (by decide) (by decide)
  have hL2 := hE.l (n := 2) (by decide) (by decide)
  have hL3 := hE.l (n := 3) (by decide) (by decide)
  have hL4 := hE.l (n := 4) (by decide) (by decide)
  have hL5 := hE.l (n := 5) (by decide) (by decide)
  have hO := hE.o
  have hRm := hE.r
  have hk := hE.k hc0 hc1
  have hg := (hI4 c hc0 hc1).2.1
  refine c_aload_n d_h_halt_0 rfl ?_
  refine cg_h_211_2 hk d_h_halt_1 rfl ?_
  refine c_istore_n d_h_halt_4 (by decide) ?_
  refine c_aload_n d_h_halt_5 rfl ?_
  refine c_iload_n d_h_halt_6 rfl ?_
  refine c_ineg d_h_halt_7 ?_
  refine c_aload_n d_h_halt_8 rfl ?_
  refine cg_h_218_2 hk d_h_halt_9 rfl ?_
  refine c_ineg d_h_halt_12 ?_
  refine c_callV (r := (RX1, TX1, 13)) d_h_halt_13 q_h_halt_182 s_c_charge v_c_charge (t_c_charge hk hI2 hI1 (fun p a b => hE.p a b) hg.1 hg.2) (fun _ z => ⟨_, z.at 4 (by decide) hk⟩) rfl rfl rfl rfl (Nat.le_of_ble_eq_true rfl) rfl rfl rfl (fun _ _ _ z => z) ?_
  rintro _ _ _ ⟨rfl, rfl, rfl⟩
  refine c_aload_n d_h_halt_16 rfl ?_
  refine c_iconst d_h_halt_17 ?_
  refine cp_h_191_2 hk d_h_halt_18 rfl ?_
  refine c_aload_n d_h_halt_21 rfl ?_
  refine c_callV (r := (RX1, TX1, 13)) d_h_halt_22 q_h_halt_271 s_c_leaveBridge v_c_leaveBridge (t_c_leaveBridge_c hk) (fun _ z => ⟨_, z.at 4 (by decide) hk⟩) rfl rfl rfl rfl (Nat.le_of_ble_eq_true rfl) rfl rfl rfl (fun _ _ _ z => z) ?_
  rintro _ _ _ ⟨rfl, rfl, rfl⟩
  refine c_aload_n d_h_halt_25 rfl ?_
  refine c_iconst d_h_halt_26 ?_
  refine cp_h_283_2 hk d_h_halt_27 rfl ?_
  refine c_iconst d_h_halt_30 ?_
  refine c_istore_n d_h_halt_31 (by decide) ?_
  have e := L_h_halt (S := S) (QX := QX) (g := g) (K := K) (ad := ad) (fr := S 14 c) (T := hl0 S c) (rc := M_h_halt.2.2.2.2.2.2.cells) (rs := M_h_halt.2.2.2.2.2.2.slots) h0 hO hk hc0 (fun j a b => by
    show S 24 j = -1 ∨ S 54 (S 24 j) = 1
    have q := hI6.2.2.2 j a b
    by_cases z : S 24 j = -1
    · exact Or.inl z
    · exact Or.inr (hE.k (by omega) q.2)) 33 0 (by omega) (by omega) (by omega)
  rw [clr_0] at e
  exact e
theorem hlt_r {S : gS} {c : Int} {k : Nat} (h14 : k ≠ 14) (h15 : k ≠ 15) (h18 : k ≠ 18) (h19 : k ≠ 19) (h21 : k ≠ 21) (h24 : k ≠ 24) (h30 : k ≠ 30) (h31 : k ≠ 31) (h33 : k ≠ 33) (h34 : k ≠ 34) : hlt S c k = S k := by
  unfold hlt hl0 chg
  rw [sset_n _ _ _ h21, clr_r h24, sset_n _ _ _ h18, sset_n _ _ _ h34, sset_n _ _ _ h33, sset_n _ _ _ h19, chS_r h30 h31, sset_n _ _ _ h15, sset_n _ _ _ h14]
theorem hlt_agr (S : gS) (c : Int) : agr (hlt S c) (stp S c) := by
  intro k hk
  by_cases h14 : k = 14
  · subst h14
    funext j
    show (if 14 = 14 ∧ j = c then S 14 c + -S 14 c else S 14 j) = _
    by_cases q : j = c
    · subst q
      rw [if_pos ⟨rfl, rfl⟩, (stp_c S j).1]; omega
    · rw [if_neg (fun z => q z.2), (stp_n S q).1]
  by_cases h15 : k = 15
  · subst h15
    funext j
    show (if 15 = 15 ∧ j = c then S 15 c + -S 15 c else S 15 j) = _
    by_cases q : j = c
    · subst q
      rw [if_pos ⟨rfl, rfl⟩, (stp_c S j).2.1]; omega
    · rw [if_neg (fun z => q z.2), (stp_n S q).2.1]
  by_cases h18 : k = 18
  · subst h18
    funext j
    show (if 18 = 18 ∧ j = c then 0 else S 18 j) = _
    by_cases q : j = c
    · subst q
      rw [if_pos ⟨rfl, rfl⟩, (stp_c S j).2.2.1]
    · rw [if_neg (fun z => q z.2), (stp_n S q).2.2.1]
  by_cases h19 : k = 19
  · subst h19
    funext j
    show (if 19 = 19 ∧ j = c then 2 else S 19 j) = _
    by_cases q : j = c
    · subst q
      rw [if_pos ⟨rfl, rfl⟩, (stp_c S j).2.2.2.1]
    · rw [if_neg (fun z => q z.2), (stp_n S q).2.2.2.1]
  by_cases h21 : k = 21
  · subst h21
    funext j
    show (if 21 = 21 ∧ j = c then -1 else S 21 j) = _
    by_cases q : j = c
    · subst q
      rw [if_pos ⟨rfl, rfl⟩, (stp_c S j).2.2.2.2]
    · rw [if_neg (fun z => q z.2), (stp_n S q).2.2.2.2]
  by_cases h24 : k = 24
  · subst h24
    funext j
    show (if 24 = 24 ∧ 0 ≤ j ∧ j < 32 ∧ S 24 j = c then -1 else S 24 j) = _
    unfold stp stq
    rw [if_neg (by omega), if_neg (by omega), if_neg (by omega)]
    rfl
  rw [hlt_r h14 h15 h18 h19 h21 h24 (by omega) (by omega) (by omega) (by omega), stp_row h14 h15 h18 h19 h21 h24]
theorem hlt_ext {S : gS} (hI : Inv S) (hE : Ext S) {c : Int} (hc0 : 0 ≤ c) (hc1 : c < S 11 0) : Ext (hlt S c) := by
  obtain ⟨hr, h1, h2, h3, h4, h5, h6, h7⟩ := id hI
  have q3 := (h3 c (Or.inl ⟨hc0, hc1⟩)).2.2
  have q4 := h4 c hc0 hc1
  have r : ∀ k, (k != 14 && k != 15 && k != 18 && k != 19 && k != 21 && k != 24 && k != 30 && k != 31 && k != 33 && k != 34) = true → hlt S c k = S k := fun k hk => by
    simp only [Bool.and_eq_true, bne_iff_ne] at hk
    exact hlt_r hk.1.1.1.1.1.1.1.1.1 hk.1.1.1.1.1.1.1.1.2 hk.1.1.1.1.1.1.1.2 hk.1.1.1.1.1.1.2 hk.1.1.1.1.1.2 hk.1.1.1.1.2 hk.1.1.1.2 hk.1.1.2 hk.1.2 hk.2
  have hm := ExM_chg (m := -S 14 c) (n := -S 15 c) hI hE.2.1 hc0 hc1
  have hR := ExR_chg (m := -S 14 c) (n := -S 15 c) hI hE.2.1 hE.2.2.2.2.2 q4.2.1.1 q4.2.1.2 (by omega) (by omega) (by omega) (by omega)
  refine ⟨hE.1.c (r 3 rfl) (r 6 rfl) (r 11 rfl) (r 23 rfl) (fun q a b => hlt_r (by omega) (by omega) (by omega) (by omega) (by omega) (by omega) (by omega) (by omega) (by omega) (by omega)), ExM.c (S := chg S c (-S 14 c) (-S 15 c)) (S' := hlt S c) (by funext j; rfl) (by funext j; rfl) (by funext j; rfl) (by funext j; rfl) (by funext j; rfl) (by funext j; rfl) (by funext j; rfl) (by funext j; rfl) hm, fun j a b => ?_, hE.2.2.2.1.c (r 3 rfl) (r 4 rfl) (r 11 rfl) (r 12 rfl) (r 23 rfl) (r 36 rfl), hE.2.2.2.2.1.c (r 6 rfl) (r 32 rfl), fun k j hk => ?_⟩
  · rw [r 11 rfl] at b
    show ((if 21 = 21 ∧ j = c then -1 else S 21 j) = -1 ∧ (if 33 = 33 ∧ j = c then -1 else S 33 j) = -1 ∧ (if 34 = 34 ∧ j = c then -1 else S 34 j) = -1) ∨ (0 ≤ (if 33 = 33 ∧ j = c then -1 else S 33 j) ∧ (if 33 = 33 ∧ j = c then -1 else S 33 j) ≤ 3 ∧ 1 ≤ (if 34 = 34 ∧ j = c then -1 else S 34 j) ∧ (if 34 = 34 ∧ j = c then -1 else S 34 j) ≤ 6 ∧ (if 21 = 21 ∧ j = c then -1 else S 21 j) = 10 * (if 33 = 33 ∧ j = c then -1 else S 33 j) + (if 34 = 34 ∧ j = c then -1 else S 34 j))
    have qb := hE.2.2.1 j a b
    by_cases q : j = c
    · exact Or.inl ⟨if_pos ⟨rfl, q⟩, if_pos ⟨rfl, q⟩, if_pos ⟨rfl, q⟩⟩
    · rw [if_neg (fun z => q z.2), if_neg (fun z => q z.2), if_neg (fun z => q z.2)]
      exact qb
  · have e : hlt S c k = sset (sset (chg S c (-S 14 c) (-S 15 c)) 33 c (-1)) 34 c (-1) k := by
      unfold hlt hl0
      rw [sset_n _ _ _ (by omega), clr_r (by omega), sset_n _ _ _ (by omega)]
      by_cases q34 : k = 34
      · subst q34; funext j; rfl
      · rw [sset_n _ _ _ q34, sset_n _ _ _ q34]
        by_cases q33 : k = 33
        · subst q33; funext j; rfl
        · rw [sset_n _ _ _ q33, sset_n _ _ _ q33, sset_n _ _ _ (by omega)]
    rw [e]
    exact ((hR.set (fun _ => by unfold R32; omega)).set (fun _ => by unfold R32; omega)) k j hk
