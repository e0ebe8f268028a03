def opQ (S : gS) (cd vl : Int) (st : gS) : qS := fun v t9 S9 => t9 = cd ∧ (cd = 0 → v = some (.int (iI vl)) ∧ S9 = st) ∧ (cd ≠ 0 → S9 = S ∧ ∃ z, v = some (.int z))
theorem opQ.bad {S st : gS} {cd vl c : Int} {z : Int32} (h : cd = c) (hc : c ≠ 0) : opQ S cd vl st (some (.int z)) c S := ⟨h.symm, fun q => absurd (h.symm.trans q) hc, fun _ => ⟨rfl, z, rfl⟩⟩
theorem opQ.good {S st S9 : gS} {cd vl e : Int} (h : cd = 0) (hv : e = vl) (hs : S9 = st) : opQ S cd vl st (some (.int (iI e))) 0 S9 := ⟨h.symm, fun _ => ⟨by rw [hv], hs⟩, fun q => absurd h q⟩
theorem lay_congr {S S' : gS} (h : S' 4 = S 4) (k : Int) : lay S' k = lay S k := by
  have : ∀ (n : Nat) (k : Int), layN S' n k = layN S n k := by
    intro n
    induction n with
    | zero => intro k; rfl
    | succ n ih => intro k; unfold layN; rw [ih, h]
  exact this _ _
theorem lyr_b {S : gS} (h : Inv6 S) {a f r : Int} (h0 : 0 ≤ r) (h1 : r ≤ 999) : 0 ≤ lyr S a f r ∧ lyr S a f r ≤ 999 := by
  have := h.1 (32 * a + f)
  unfold lyr
  (repeat' split) <;> omega
theorem see_b {S : gS} (h : Inv6 S) (k f : Int) : 0 ≤ see S k f ∧ see S k f ≤ 999 := by
  have : ∀ (n : Nat) (k : Int), 0 ≤ seeN S n k f ∧ seeN S n k f ≤ 999 := by
    intro n
    induction n with
    | zero => intro k; unfold seeN; omega
    | succ n ih =>
      intro k
      unfold seeN
      split
      · omega
      · exact lyr_b h (ih _).1 (ih _).2
  exact this _ _
def csee (S : gS) (c f : Int) : Int := lyr S (10 + c) f (see S (S 12 c) f)
theorem t_m_shows {g : xG} {x0 : Nat} {ad : Nat → Nat} {tt : Int} {S : gS} {a b f : Int} (hI : Inv S) (ha : 0 ≤ a) (ha2 : a < 35) (hb : -1 ≤ b) (hb2 : b < S 3 0) (hf : 0 ≤ f) (hf2 : f < 32) : mM g y_m_shows k_m_shows M_m_shows x0 ad [.int (iI a), .int (iI b), .int (iI f)] tt S (fun v t9 S9 => v = some (.int (iI (lyr S a f (see S b f)))) ∧ tt = t9 ∧ S = S9) := by
  refine mM.of rfl (by decide) rfl rfl rfl (by simp [Value.category]) (Nat.le_of_ble_eq_true rfl) rfl (fun h0 => ?_)
  refine m_iload_n d_m_shows_0 rfl ?_
  refine m_istore d_m_shows_1 (by decide) ?_
  refine m_iload_n d_m_shows_3 rfl ?_
  refine m_istore d_m_shows_4 (by decide) ?_
  exact L_m_shows hI hf hf2 ((b + 4).toNat) a b (by omega) (by omega) ha2 hb hb2 (by omega) (Or.inr ⟨by omega, rfl⟩) none
theorem t_m_imageShows {g : xG} {x0 : Nat} {ad : Nat → Nat} {tt : Int} {S : gS} {a f : Int} (hI : Inv S) (ha : 0 ≤ a) (ha2 : a < S 3 0) (hf : 0 ≤ f) (hf2 : f < 32) : mM g y_m_imageShows k_m_imageShows M_m_imageShows x0 ad [.int (iI a), .int (iI f)] tt S (fun v t9 S9 => v = some (.int (iI (see S a f))) ∧ tt = t9 ∧ S = S9) := by
  refine mM.of rfl (by decide) rfl rfl rfl (by simp [Value.category]) (Nat.le_of_ble_eq_true rfl) rfl (fun h0 => ?_)
  obtain ⟨hR, hi1, hi2, hi3, hi4, hi5, hi6, hi7⟩ := id hI
  obtain ⟨him, hgr, hco, hck⟩ := id hi1
  have hb := hi2.1 a ha ha2
  refine m_aload_n d_m_imageShows_0 rfl ?_
  refine m_iload_n d_m_imageShows_1 rfl ?_
  refine m_aload_n d_m_imageShows_2 rfl ?_
  refine mg_16 d_m_imageShows_3 rfl ?_
  refine m_iload_n d_m_imageShows_6 rfl ?_
  refine m_ald 10 rfl (by decide) rfl d_m_imageShows_7 (by omega) (by omega) ?_
  refine m_iload_n d_m_imageShows_8 rfl ?_
  refine m_callV d_m_imageShows_9 q_m_imageShows_97 s_m_shows v_m_shows rfl (t_m_shows hI ha (by omega) hb.1 (by omega) hf hf2) rfl rfl (Nat.le_of_ble_eq_true rfl) rfl rfl rfl ?_
  rintro _ _ _ ⟨rfl, rfl, rfl⟩
  exact m_iret rfl d_m_imageShows_12 (⟨congrArg (fun z => some (Value.int (iI z))) ((see_s hi2 f ha ha2).symm), rfl, rfl⟩)
theorem t_m_containerSees {g : xG} {x0 : Nat} {ad : Nat → Nat} {tt : Int} {S : gS} {a f : Int} (hI : Inv S) (ha : 0 ≤ a) (ha2 : a < S 11 0) (hf : 0 ≤ f) (hf2 : f < 32) : mM g y_m_containerSees k_m_containerSees M_m_containerSees x0 ad [.int (iI a), .int (iI f)] tt S (fun v t9 S9 => v = some (.int (iI (csee S a f))) ∧ tt = t9 ∧ S = S9) := by
  refine mM.of rfl (by decide) rfl rfl rfl (by simp [Value.category]) (Nat.le_of_ble_eq_true rfl) rfl (fun h0 => ?_)
  obtain ⟨hR, hi1, hi2, hi3, hi4, hi5, hi6, hi7⟩ := id hI
  obtain ⟨him, hgr, hco, hck⟩ := id hi1
  have hb := hi3 a (Or.inl ⟨ha, ha2⟩)
  refine m_aload_n d_m_containerSees_0 rfl ?_
  refine m_bipush d_m_containerSees_1 (by decide) ?_
  refine m_iload_n d_m_containerSees_3 rfl ?_
  refine m_iadd d_m_containerSees_4 ?_
  refine m_aload_n d_m_containerSees_5 rfl ?_
  refine mg_39 d_m_containerSees_6 rfl ?_
  refine m_iload_n d_m_containerSees_9 rfl ?_
  refine m_ald 25 rfl (by decide) rfl d_m_containerSees_10 (by omega) (by omega) ?_
  refine m_iload_n d_m_containerSees_11 rfl ?_
  refine m_callV d_m_containerSees_12 q_m_containerSees_97 s_m_shows v_m_shows rfl (t_m_shows hI (by omega) (by omega) (by omega) hb.1.2 hf hf2) rfl rfl (Nat.le_of_ble_eq_true rfl) rfl rfl rfl ?_
  rintro _ _ _ ⟨rfl, rfl, rfl⟩
  exact m_iret rfl d_m_containerSees_15 (⟨congrArg (fun z => some (Value.int (iI z))) (rfl), rfl, rfl⟩)
/-- a layer emptied as far as place n -/
def ez (S : gS) (l n : Int) : gS := fun a j => if a = 2 ∧ j = l then 0 else if a = 1 ∧ 32 * l ≤ j ∧ j < 32 * l + n then 0 else S a j
theorem ez_0 (S : gS) (l : Int) : sset S 2 l 0 = ez S l 0 := by
  funext a j; unfold sset ez; (repeat' split) <;> first | rfl | omega
theorem ez_s (S : gS) {l n : Int} (hn : 0 ≤ n) : sset (ez S l n) 1 (32 * l + n) 0 = ez S l (n + 1) := by
  funext a j; unfold sset ez; (repeat' split) <;> first | rfl | omega
def cz (S : gS) (t f n : Int) : gS := fun a j => if a = 2 ∧ j = t then S 2 f else if a = 1 ∧ 32 * t ≤ j ∧ j < 32 * t + n then S 1 (j - 32 * t + 32 * f) else S a j
theorem cz_0 (S : gS) (t f : Int) : sset S 2 t (S 2 f) = cz S t f 0 := by
  funext a j; unfold sset cz; (repeat' split) <;> first | rfl | omega
theorem cz_s (S : gS) {t f n : Int} (hn : 0 ≤ n) : sset (cz S t f n) 1 (32 * t + n) (S 1 (32 * f + n)) = cz S t f (n + 1) := by
  funext a j; unfold sset cz; (repeat' split) <;> first | rfl | omega | (congr 1; omega)
theorem cz_r (S : gS) {t f n : Int} (htf : t ≠ f) (hn : 0 ≤ n) (hn2 : n < 32) : cz S t f n 1 (32 * f + n) = S 1 (32 * f + n) := by
  unfold cz; rw [if_neg (by omega), if_neg (by omega)]
theorem L_m_empties {g : xG} {x0 : Nat} {ad : Nat → Nat} {h0 : hp} {tt : Int} {S : gS} {l : Int} (hl : 0 ≤ l) (hl2 : l < 35) : ∀ (f9 : Nat) (n : Int), 0 ≤ n → n ≤ 32 → 32 < n + f9 → mW g M_m_empties x0 ad h0 (fun v t9 S9 => v = none ∧ tt = t9 ∧ ez S l 32 = S9) tt (ez S l n) 9 [some (.ref x0), some (.int (iI l)), some (.int (iI n))] [] := by
  intro f9
  induction f9 with
  | zero => intros; omega
  | succ f9 ih =>
    intro n h1 h2 h3
    refine m_iload_n d_m_empties_9 rfl ?_
    refine m_bipush d_m_empties_10 (by decide) ?_
    refine m_icmp_ge (tgt := 33) d_m_empties_12 (by decide) (by unfold R32; omega) (by unfold R32; omega) (fun z12 => ?_) (fun z12 => ?_)
    · exact m_vret rfl d_m_empties_33 (⟨rfl, rfl, by rw [show n = 32 by omega]⟩)
    · refine m_aload_n d_m_empties_15 rfl ?_
      refine mg_7 d_m_empties_16 rfl ?_
      refine m_bipush d_m_empties_19 (by decide) ?_
      refine m_iload_n d_m_empties_21 rfl ?_
      refine m_imul d_m_empties_22 ?_
      refine m_iload_n d_m_empties_23 rfl ?_
      refine m_iadd d_m_empties_24 ?_
      refine m_iconst d_m_empties_25 ?_
      refine m_ast 1120 rfl (by decide) rfl d_m_empties_26 (by omega) (by omega) ?_
      refine m_iinc d_m_empties_27 rfl (by decide) ?_
      refine m_goto (tgt := 9) d_m_empties_30 (by decide) ?_
      rw [ez_s S h1]
      exact ih (n + 1) (by omega) (by omega) (by omega)
theorem t_m_empties {g : xG} {x0 : Nat} {ad : Nat → Nat} {tt : Int} {S : gS} {l : Int} (hl : 0 ≤ l) (hl2 : l < 35) : mM g y_m_empties k_m_empties M_m_empties x0 ad [.int (iI l)] tt S (fun v t9 S9 => v = none ∧ tt = t9 ∧ ez S l 32 = S9) := by
  refine mM.of rfl (by decide) rfl rfl rfl (by simp [Value.category]) (Nat.le_of_ble_eq_true rfl) rfl (fun h0 => ?_)
  refine m_aload_n d_m_empties_0 rfl ?_
  refine mg_13 d_m_empties_1 rfl ?_
  refine m_iload_n d_m_empties_4 rfl ?_
  refine m_iconst d_m_empties_5 ?_
  refine m_ast 35 rfl (by decide) rfl d_m_empties_6 (by omega) (by omega) ?_
  refine m_iconst d_m_empties_7 ?_
  refine m_istore_n d_m_empties_8 (by decide) ?_
  rw [ez_0]
  exact L_m_empties hl hl2 33 0 (by omega) (by omega) (by omega)
theorem L_m_copies {g : xG} {x0 : Nat} {ad : Nat → Nat} {h0 : hp} {tt : Int} {S : gS} {t f : Int} (hl : 0 ≤ t) (hl2 : t < 35) (hf : 0 ≤ f) (hf2 : f < 35) (htf : t ≠ f) : ∀ (f9 : Nat) (n : Int), 0 ≤ n → n ≤ 32 → 32 < n + f9 → mW g M_m_copies x0 ad h0 (fun v t9 S9 => v = none ∧ tt = t9 ∧ cz S t f 32 = S9) tt (cz S t f n) 14 [some (.ref x0), some (.int (iI t)), some (.int (iI f)), some (.int (iI n))] [] := by
  intro f9
  induction f9 with
  | zero => intros; omega
  | succ f9 ih =>
    intro n h1 h2 h3
    refine m_iload_n d_m_copies_14 rfl ?_
    refine m_bipush d_m_copies_15 (by decide) ?_
    refine m_icmp_ge (tgt := 48) d_m_copies_17 (by decide) (by unfold R32; omega) (by unfold R32; omega) (fun z17 => ?_) (fun z17 => ?_)
    · exact m_vret rfl d_m_copies_48 (⟨rfl, rfl, by rw [show n = 32 by omega]⟩)
    · refine m_aload_n d_m_copies_20 rfl ?_
      refine mg_7 d_m_copies_21 rfl ?_
      refine m_bipush d_m_copies_24 (by decide) ?_
      refine m_iload_n d_m_copies_26 rfl ?_
      refine m_imul d_m_copies_27 ?_
      refine m_iload_n d_m_copies_28 rfl ?_
      refine m_iadd d_m_copies_29 ?_
      refine m_aload_n d_m_copies_30 rfl ?_
      refine mg_7 d_m_copies_31 rfl ?_
      refine m_bipush d_m_copies_34 (by decide) ?_
      refine m_iload_n d_m_copies_36 rfl ?_
      refine m_imul d_m_copies_37 ?_
      refine m_iload_n d_m_copies_38 rfl ?_
      refine m_iadd d_m_copies_39 ?_
      refine m_ald 1120 rfl (by decide) rfl d_m_copies_40 (by omega) (by omega) ?_
      rw [cz_r S htf h1 (by omega)]
      refine m_ast 1120 rfl (by decide) rfl d_m_copies_41 (by omega) (by omega) ?_
      refine m_iinc d_m_copies_42 rfl (by decide) ?_
      refine m_goto (tgt := 14) d_m_copies_45 (by decide) ?_
      rw [cz_s S h1]
      exact ih (n + 1) (by omega) (by omega) (by omega)
theorem t_m_copies {g : xG} {x0 : Nat} {ad : Nat → Nat} {tt : Int} {S : gS} {t f : Int} (hl : 0 ≤ t) (hl2 : t < 35) (hf : 0 ≤ f) (hf2 : f < 35) (htf : t ≠ f) : mM g y_m_copies k_m_copies M_m_copies x0 ad [.int (iI t), .int (iI f)] tt S (fun v t9 S9 => v = none ∧ tt = t9 ∧ cz S t f 32 = S9) := by
  refine mM.of rfl (by decide) rfl rfl rfl (by simp [Value.category]) (Nat.le_of_ble_eq_true rfl) rfl (fun h0 => ?_)
  refine m_aload_n d_m_copies_0 rfl ?_
  refine mg_13 d_m_copies_1 rfl ?_
  refine m_iload_n d_m_copies_4 rfl ?_
  refine m_aload_n d_m_copies_5 rfl ?_
  refine mg_13 d_m_copies_6 rfl ?_
  refine m_iload_n d_m_copies_9 rfl ?_
  refine m_ald 35 rfl (by decide) rfl d_m_copies_10 (by omega) (by omega) ?_
  refine m_ast 35 rfl (by decide) rfl d_m_copies_11 (by omega) (by omega) ?_
  refine m_iconst d_m_copies_12 ?_
  refine m_istore_n d_m_copies_13 (by decide) ?_
  rw [cz_0]
  exact L_m_copies hl hl2 hf hf2 htf 33 0 (by omega) (by omega) (by omega)
def ict (a : Int) : Int := if 1 ≤ a ∧ a ≤ 999 then 1 else 0
theorem ict_s (a : Int) : (ict a = 1 ∧ 1 ≤ a ∧ a ≤ 999) ∨ (ict a = 0 ∧ ¬ (1 ≤ a ∧ a ≤ 999)) := by
  unfold ict
  split
  · exact Or.inl ⟨rfl, by omega, by omega⟩
  · exact Or.inr ⟨rfl, by omega⟩
theorem t_m_isContent (g : xG) {a : Int} (ha : R32 a) : sM g y_m_isContent k_m_isContent M_m_isContent [.int (iI a)] (fun v => v = some (.int (iI (ict a)))) := by
  refine sM.of rfl (by decide) rfl rfl rfl (by simp [Value.category]) (Nat.le_of_ble_eq_true rfl) rfl (fun h => ?_)
  refine x_iload_n d_m_isContent_0 rfl ?_
  refine x_iconst d_m_isContent_1 ?_
  refine x_icmp_lt (tgt := 16) d_m_isContent_2 (by decide) (by first | assumption | (unfold R32; omega)) (by first | assumption | (unfold R32; omega)) (fun z2 => ?_) (fun z2 => ?_)
  · refine x_iconst d_m_isContent_16 ?_
    exact x_zret rfl (by omega) d_m_isContent_17 (⟨by have := ict_s a; exact congrArg (fun z => some (Value.int (iI z))) (by omega), rfl⟩)
  · refine x_iload_n d_m_isContent_5 rfl ?_
    refine x_sipush d_m_isContent_6 (by decide) ?_
    refine x_icmp_gt (tgt := 16) d_m_isContent_9 (by decide) (by first | assumption | (unfold R32; omega)) (by first | assumption | (unfold R32; omega)) (fun z9 => ?_) (fun z9 => ?_)
    · refine x_iconst d_m_isContent_16 ?_
      exact x_zret rfl (by omega) d_m_isContent_17 (⟨by have := ict_s a; exact congrArg (fun z => some (Value.int (iI z))) (by omega), rfl⟩)
    · refine x_iconst d_m_isContent_12 ?_
      refine x_goto (tgt := 17) d_m_isContent_13 (by decide) ?_
      exact x_zret rfl (by omega) d_m_isContent_17 (⟨by have := ict_s a; exact congrArg (fun z => some (Value.int (iI z))) (by omega), rfl⟩)
def iun (a : Int) : Int := if 1 ≤ a ∧ a ≤ 5000 then 1 else 0
theorem iun_s (a : Int) : (iun a = 1 ∧ 1 ≤ a ∧ a ≤ 5000) ∨ (iun a = 0 ∧ ¬ (1 ≤ a ∧ a ≤ 5000)) := by
  unfold iun
  split
  · exact Or.inl ⟨rfl, by omega, by omega⟩
  · exact Or.inr ⟨rfl, by omega⟩
theorem t_m_areUnits (g : xG) {a : Int} (ha : R32 a) : sM g y_m_areUnits k_m_areUnits M_m_areUnits [.int (iI a)] (fun v => v = some (.int (iI (iun a)))) := by
  refine sM.of rfl (by decide) rfl rfl rfl (by simp [Value.category]) (Nat.le_of_ble_eq_true rfl) rfl (fun h => ?_)
  refine x_iload_n d_m_areUnits_0 rfl ?_
  refine x_iconst d_m_areUnits_1 ?_
  refine x_icmp_lt (tgt := 16) d_m_areUnits_2 (by decide) (by first | assumption | (unfold R32; omega)) (by first | assumption | (unfold R32; omega)) (fun z2 => ?_) (fun z2 => ?_)
  · refine x_iconst d_m_areUnits_16 ?_
    exact x_zret rfl (by omega) d_m_areUnits_17 (⟨by have := iun_s a; exact congrArg (fun z => some (Value.int (iI z))) (by omega), rfl⟩)
  · refine x_iload_n d_m_areUnits_5 rfl ?_
    refine x_sipush d_m_areUnits_6 (by decide) ?_
    refine x_icmp_gt (tgt := 16) d_m_areUnits_9 (by decide) (by first | assumption | (unfold R32; omega)) (by first | assumption | (unfold R32; omega)) (fun z9 => ?_) (fun z9 => ?_)
    · refine x_iconst d_m_areUnits_16 ?_
      exact x_zret rfl (by omega) d_m_areUnits_17 (⟨by have := iun_s a; exact congrArg (fun z => some (Value.int (iI z))) (by omega), rfl⟩)
    · refine x_iconst d_m_areUnits_12 ?_
      refine x_goto (tgt := 17) d_m_areUnits_13 (by decide) ?_
      exact x_zret rfl (by omega) d_m_areUnits_17 (⟨by have := iun_s a; exact congrArg (fun z => some (Value.int (iI z))) (by omega), rfl⟩)
theorem t_m_thrown {g : xG} {x0 : Nat} {ad : Nat → Nat} {tt : Int} {S : gS}  : mM g y_m_thrown k_m_thrown M_m_thrown x0 ad [] tt S (fun v t9 S9 => v = some (.int (iI (tt))) ∧ tt = t9 ∧ S = S9) := by
  refine mM.of rfl (by decide) rfl rfl rfl (by simp [Value.category]) (Nat.le_of_ble_eq_true rfl) rfl (fun h0 => ?_)
  refine m_aload_n d_m_thrown_0 rfl ?_
  refine mg_84 d_m_thrown_1 rfl ?_
  exact m_iret rfl d_m_thrown_4 (⟨congrArg (fun z => some (Value.int (iI z))) (rfl), rfl, rfl⟩)
def cd_write (S : gS) (i f c : Int) : Int := if ¬ (0 ≤ i ∧ i < S 3 0 ∧ 0 ≤ f ∧ f < 32) then 1 else if ¬ (1 ≤ c ∧ c ≤ 999) then 2 else if S 5 i ≠ 0 then 3 else 0
def vl_write (S : gS) (i f c : Int) : Int := see S i f
def st_write (S : gS) (i f c : Int) : gS := sset S 1 (32 * i + f) c
theorem t_m_write {g : xG} {x0 : Nat} {ad : Nat → Nat} {tt : Int} {S : gS} {i f c : Int} (hI : Inv S) (hi : R32 i) (hf : R32 f) (hc : R32 c) : mM g y_m_write k_m_write M_m_write x0 ad [.int (iI i), .int (iI f), .int (iI c)] tt S (opQ S (cd_write S i f c) (vl_write S i f c) (st_write S i f c)) := by
  refine mM.of rfl (by decide) rfl rfl rfl (by simp [Value.category]) (Nat.le_of_ble_eq_true rfl) rfl (fun h0 => ?_)
  obtain ⟨hR, hi1, hi2, hi3, hi4, hi5, hi6, hi7⟩ := id hI
  obtain ⟨him, hgr, hco, hck⟩ := id hi1
  have e1 := isin_s i (S 3 0)
  have e2 := isin_s f 32
  have e3 := ict_s c
  refine m_aload_n d_m_write_0 rfl ?_
  refine m_iload_n d_m_write_1 rfl ?_
  refine m_callV d_m_write_2 q_m_write_101 s_m_isImage v_m_isImage rfl (t_m_isImage hR hi) rfl rfl (Nat.le_of_ble_eq_true rfl) rfl rfl rfl ?_
  rintro _ _ _ ⟨rfl, rfl, rfl⟩
  refine m_if_eq (tgt := 21) d_m_write_5 (by decide) (by first | assumption | exact hR _ _ (by decide) | (unfold R32; omega)) (fun z5 => ?_) (fun z5 => ?_)
  · refine m_iconst d_m_write_21 ?_
    refine m_istore d_m_write_22 (by decide) ?_
    refine m_aload_n d_m_write_24 rfl ?_
    refine m_iload d_m_write_25 rfl ?_
    refine m_if_ne (tgt := 34) d_m_write_27 (by decide) (by first | assumption | exact hR _ _ (by decide) | (unfold R32; omega)) (fun z27 => ?_) (fun z27 => ?_)
    · exact absurd z27 (by decide)
    · refine m_iconst d_m_write_30 ?_
      refine m_goto (tgt := 59) d_m_write_31 (by decide) ?_
      refine m_callV d_m_write_59 q_m_write_109 s_m_holds v_m_holds rfl (t_m_holds ⟨by omega, by omega⟩) rfl rfl (Nat.le_of_ble_eq_true rfl) rfl rfl rfl ?_
      rintro _ _ _ ⟨rfl, rfl, rfl⟩
      refine m_if_ne (tgt := 67) d_m_write_62 (by decide) (by first | assumption | exact hR _ _ (by decide) | (unfold R32; omega)) (fun z62 => ?_) (fun z62 => ?_)
      · exact absurd z62 (by decide)
      · refine m_iconst d_m_write_65 ?_
        exact m_iret rfl d_m_write_66 (opQ.bad (by unfold cd_write; (repeat' split) <;> omega) (by decide))
  · refine m_iload_n d_m_write_8 rfl ?_
    refine m_bipush d_m_write_9 (by decide) ?_
    refine m_callS d_m_write_11 q_m_write_90 s_m_isIn (t_m_isIn g hf ⟨by omega, by omega⟩) rfl rfl (Nat.le_of_ble_eq_true rfl) rfl rfl rfl ?_
    rintro _ rfl
    refine m_if_eq (tgt := 21) d_m_write_14 (by decide) (by first | assumption | exact hR _ _ (by decide) | (unfold R32; omega)) (fun z14 => ?_) (fun z14 => ?_)
    · refine m_iconst d_m_write_21 ?_
      refine m_istore d_m_write_22 (by decide) ?_
      refine m_aload_n d_m_write_24 rfl ?_
      refine m_iload d_m_write_25 rfl ?_
      refine m_if_ne (tgt := 34) d_m_write_27 (by decide) (by first | assumption | exact hR _ _ (by decide) | (unfold R32; omega)) (fun z27 => ?_) (fun z27 => ?_)
      · exact absurd z27 (by decide)
      · refine m_iconst d_m_write_30 ?_
        refine m_goto (tgt := 59) d_m_write_31 (by decide) ?_
        refine m_callV d_m_write_59 q_m_write_109 s_m_holds v_m_holds rfl (t_m_holds ⟨by omega, by omega⟩) rfl rfl (Nat.le_of_ble_eq_true rfl) rfl rfl rfl ?_
        rintro _ _ _ ⟨rfl, rfl, rfl⟩
        refine m_if_ne (tgt := 67) d_m_write_62 (by decide) (by first | assumption | exact hR _ _ (by decide) | (unfold R32; omega)) (fun z62 => ?_) (fun z62 => ?_)
        · exact absurd z62 (by decide)
        · refine m_iconst d_m_write_65 ?_
          exact m_iret rfl d_m_write_66 (opQ.bad (by unfold cd_write; (repeat' split) <;> omega) (by decide))
    · refine m_iconst d_m_write_17 ?_
      refine m_goto (tgt := 22) d_m_write_18 (by decide) ?_
      refine m_istore d_m_write_22 (by decide) ?_
      refine m_aload_n d_m_write_24 rfl ?_
      refine m_iload d_m_write_25 rfl ?_
      refine m_if_ne (tgt := 34) d_m_write_27 (by decide) (by first | assumption | exact hR _ _ (by decide) | (unfold R32; omega)) (fun z27 => ?_) (fun z27 => ?_)
      · refine m_iload_n d_m_write_34 rfl ?_
        refine m_callS d_m_write_35 q_m_write_116 s_m_isContent (t_m_isContent g hc) rfl rfl (Nat.le_of_ble_eq_true rfl) rfl rfl rfl ?_
        rintro _ rfl
        refine m_if_ne (tgt := 45) d_m_write_38 (by decide) (by first | assumption | exact hR _ _ (by decide) | (unfold R32; omega)) (fun z38 => ?_) (fun z38 => ?_)
        · refine m_aload_n d_m_write_45 rfl ?_
          refine mg_19 d_m_write_46 rfl ?_
          refine m_iload_n d_m_write_49 rfl ?_
          refine m_zld d_m_write_50 (by omega) (by omega) ?_
          refine m_if_eq (tgt := 58) d_m_write_51 (by decide) (by first | assumption | exact hR _ _ (by decide) | (unfold R32; omega)) (fun z51 => ?_) (fun z51 => ?_)
          · refine m_iconst d_m_write_58 ?_
            refine m_callV d_m_write_59 q_m_write_109 s_m_holds v_m_holds rfl (t_m_holds ⟨by omega, by omega⟩) rfl rfl (Nat.le_of_ble_eq_true rfl) rfl rfl rfl ?_
            rintro _ _ _ ⟨rfl, rfl, rfl⟩
            refine m_if_ne (tgt := 67) d_m_write_62 (by decide) (by first | assumption | exact hR _ _ (by decide) | (unfold R32; omega)) (fun z62 => ?_) (fun z62 => ?_)
            · refine m_aload_n d_m_write_67 rfl ?_
              refine m_iload_n d_m_write_68 rfl ?_
              refine m_iload_n d_m_write_69 rfl ?_
              refine m_callV d_m_write_70 q_m_write_119 s_m_imageShows v_m_imageShows rfl (t_m_imageShows hI (by omega) (by omega) (by omega) (by omega)) rfl rfl (Nat.le_of_ble_eq_true rfl) rfl rfl rfl ?_
              rintro _ _ _ ⟨rfl, rfl, rfl⟩
              refine m_istore d_m_write_73 (by decide) ?_
              refine m_aload_n d_m_write_75 rfl ?_
              refine mg_7 d_m_write_76 rfl ?_
              refine m_bipush d_m_write_79 (by decide) ?_
              refine m_iload_n d_m_write_81 rfl ?_
              refine m_imul d_m_write_82 ?_
              refine m_iload_n d_m_write_83 rfl ?_
              refine m_iadd d_m_write_84 ?_
              refine m_iload_n d_m_write_85 rfl ?_
              refine m_ast 1120 rfl (by decide) rfl d_m_write_86 (by omega) (by omega) ?_
              refine m_iload d_m_write_87 rfl ?_
              exact m_iret rfl d_m_write_89 (opQ.good (by unfold cd_write; (repeat' split) <;> omega) (rfl) (rfl))
            · exact absurd z62 (by decide)
          · refine m_iconst d_m_write_54 ?_
            refine m_goto (tgt := 59) d_m_write_55 (by decide) ?_
            refine m_callV d_m_write_59 q_m_write_109 s_m_holds v_m_holds rfl (t_m_holds ⟨by omega, by omega⟩) rfl rfl (Nat.le_of_ble_eq_true rfl) rfl rfl rfl ?_
            rintro _ _ _ ⟨rfl, rfl, rfl⟩
            refine m_if_ne (tgt := 67) d_m_write_62 (by decide) (by first | assumption | exact hR _ _ (by decide) | (unfold R32; omega)) (fun z62 => ?_) (fun z62 => ?_)
            · exact absurd z62 (by decide)
            · refine m_iconst d_m_write_65 ?_
              exact m_iret rfl d_m_write_66 (opQ.bad (by unfold cd_write; (repeat' split) <;> omega) (by decide))
        · refine m_iconst d_m_write_41 ?_
          refine m_goto (tgt := 59) d_m_write_42 (by decide) ?_
          refine m_callV d_m_write_59 q_m_write_109 s_m_holds v_m_holds rfl (t_m_holds ⟨by omega, by omega⟩) rfl rfl (Nat.le_of_ble_eq_true rfl) rfl rfl rfl ?_
          rintro _ _ _ ⟨rfl, rfl, rfl⟩
          refine m_if_ne (tgt := 67) d_m_write_62 (by decide) (by first | assumption | exact hR _ _ (by decide) | (unfold R32; omega)) (fun z62 => ?_) (fun z62 => ?_)
          · exact absurd z62 (by decide)
          · refine m_iconst d_m_write_65 ?_
            exact m_iret rfl d_m_write_66 (opQ.bad (by unfold cd_write; (repeat' split) <;> omega) (by decide))
      · exact absurd z27 (by decide)
def cd_remove (S : gS) (i f : Int) : Int := if ¬ (0 ≤ i ∧ i < S 3 0 ∧ 0 ≤ f ∧ f < 32) then 1 else if S 5 i ≠ 0 ∨ see S i f = 0 then 2 else 0
def vl_remove (S : gS) (i f : Int) : Int := see S i f
def st_remove (S : gS) (i f : Int) : gS := sset S 1 (32 * i + f) (-1)
theorem t_m_remove {g : xG} {x0 : Nat} {ad : Nat → Nat} {tt : Int} {S : gS} {i f : Int} (hI : Inv S) (hi : R32 i) (hf : R32 f) : mM g y_m_remove k_m_remove M_m_remove x0 ad [.int (iI i), .int (iI f)] tt S (opQ S (cd_remove S i f) (vl_remove S i f) (st_remove S i f)) := by
  refine mM.of rfl (by decide) rfl rfl rfl (by simp [Value.category]) (Nat.le_of_ble_eq_true rfl) rfl (fun h0 => ?_)
  obtain ⟨hR, hi1, hi2, hi3, hi4, hi5, hi6, hi7⟩ := id hI
  obtain ⟨him, hgr, hco, hck⟩ := id hi1
  have e1 := isin_s i (S 3 0)
  have e2 := isin_s f 32
  have e4 := see_b hi6 i f
  refine m_aload_n d_m_remove_0 rfl ?_
  refine m_iload_n d_m_remove_1 rfl ?_
  refine m_callV d_m_remove_2 q_m_remove_101 s_m_isImage v_m_isImage rfl (t_m_isImage hR hi) rfl rfl (Nat.le_of_ble_eq_true rfl) rfl rfl rfl ?_
  rintro _ _ _ ⟨rfl, rfl, rfl⟩
  refine m_if_eq (tgt := 21) d_m_remove_5 (by decide) (by first | assumption | exact hR _ _ (by decide) | (unfold R32; omega)) (fun z5 => ?_) (fun z5 => ?_)
  · refine m_iconst d_m_remove_21 ?_
    refine m_istore_n d_m_remove_22 (by decide) ?_
    refine m_aload_n d_m_remove_23 rfl ?_
    refine m_iload_n d_m_remove_24 rfl ?_
    refine m_if_ne (tgt := 32) d_m_remove_25 (by decide) (by first | assumption | exact hR _ _ (by decide) | (unfold R32; omega)) (fun z25 => ?_) (fun z25 => ?_)
    · exact absurd z25 (by decide)
    · refine m_iconst d_m_remove_28 ?_
      refine m_goto (tgt := 55) d_m_remove_29 (by decide) ?_
      refine m_callV d_m_remove_55 q_m_remove_109 s_m_holds v_m_holds rfl (t_m_holds ⟨by omega, by omega⟩) rfl rfl (Nat.le_of_ble_eq_true rfl) rfl rfl rfl ?_
      rintro _ _ _ ⟨rfl, rfl, rfl⟩
      refine m_if_ne (tgt := 63) d_m_remove_58 (by decide) (by first | assumption | exact hR _ _ (by decide) | (unfold R32; omega)) (fun z58 => ?_) (fun z58 => ?_)
      · exact absurd z58 (by decide)
      · refine m_iconst d_m_remove_61 ?_
        exact m_iret rfl d_m_remove_62 (opQ.bad (by unfold cd_remove; (repeat' split) <;> omega) (by decide))
  · refine m_iload_n d_m_remove_8 rfl ?_
    refine m_bipush d_m_remove_9 (by decide) ?_
    refine m_callS d_m_remove_11 q_m_remove_90 s_m_isIn (t_m_isIn g hf ⟨by omega, by omega⟩) rfl rfl (Nat.le_of_ble_eq_true rfl) rfl rfl rfl ?_
    rintro _ rfl
    refine m_if_eq (tgt := 21) d_m_remove_14 (by decide) (by first | assumption | exact hR _ _ (by decide) | (unfold R32; omega)) (fun z14 => ?_) (fun z14 => ?_)
    · refine m_iconst d_m_remove_21 ?_
      refine m_istore_n d_m_remove_22 (by decide) ?_
      refine m_aload_n d_m_remove_23 rfl ?_
      refine m_iload_n d_m_remove_24 rfl ?_
      refine m_if_ne (tgt := 32) d_m_remove_25 (by decide) (by first | assumption | exact hR _ _ (by decide) | (unfold R32; omega)) (fun z25 => ?_) (fun z25 => ?_)
      · exact absurd z25 (by decide)
      · refine m_iconst d_m_remove_28 ?_
        refine m_goto (tgt := 55) d_m_remove_29 (by decide) ?_
        refine m_callV d_m_remove_55 q_m_remove_109 s_m_holds v_m_holds rfl (t_m_holds ⟨by omega, by omega⟩) rfl rfl (Nat.le_of_ble_eq_true rfl) rfl rfl rfl ?_
        rintro _ _ _ ⟨rfl, rfl, rfl⟩
        refine m_if_ne (tgt := 63) d_m_remove_58 (by decide) (by first | assumption | exact hR _ _ (by decide) | (unfold R32; omega)) (fun z58 => ?_) (fun z58 => ?_)
        · exact absurd z58 (by decide)
        · refine m_iconst d_m_remove_61 ?_
          exact m_iret rfl d_m_remove_62 (opQ.bad (by unfold cd_remove; (repeat' split) <;> omega) (by decide))
    · refine m_iconst d_m_remove_17 ?_
      refine m_goto (tgt := 22) d_m_remove_18 (by decide) ?_
      refine m_istore_n d_m_remove_22 (by decide) ?_
      refine m_aload_n d_m_remove_23 rfl ?_
      refine m_iload_n d_m_remove_24 rfl ?_
      refine m_if_ne (tgt := 32) d_m_remove_25 (by decide) (by first | assumption | exact hR _ _ (by decide) | (unfold R32; omega)) (fun z25 => ?_) (fun z25 => ?_)
      · refine m_aload_n d_m_remove_32 rfl ?_
        refine mg_19 d_m_remove_33 rfl ?_
        refine m_iload_n d_m_remove_36 rfl ?_
        refine m_zld d_m_remove_37 (by omega) (by omega) ?_
        refine m_if_ne (tgt := 50) d_m_remove_38 (by decide) (by first | assumption | exact hR _ _ (by decide) | (unfold R32; omega)) (fun z38 => ?_) (fun z38 => ?_)
        · refine m_iconst d_m_remove_50 ?_
          refine m_goto (tgt := 55) d_m_remove_51 (by decide) ?_
          refine m_callV d_m_remove_55 q_m_remove_109 s_m_holds v_m_holds rfl (t_m_holds ⟨by omega, by omega⟩) rfl rfl (Nat.le_of_ble_eq_true rfl) rfl rfl rfl ?_
          rintro _ _ _ ⟨rfl, rfl, rfl⟩
          refine m_if_ne (tgt := 63) d_m_remove_58 (by decide) (by first | assumption | exact hR _ _ (by decide) | (unfold R32; omega)) (fun z58 => ?_) (fun z58 => ?_)
          · exact absurd z58 (by decide)
          · refine m_iconst d_m_remove_61 ?_
            exact m_iret rfl d_m_remove_62 (opQ.bad (by unfold cd_remove; (repeat' split) <;> omega) (by decide))
        · refine m_aload_n d_m_remove_41 rfl ?_
          refine m_iload_n d_m_remove_42 rfl ?_
          refine m_iload_n d_m_remove_43 rfl ?_
          refine m_callV d_m_remove_44 q_m_remove_119 s_m_imageShows v_m_imageShows rfl (t_m_imageShows hI (by omega) (by omega) (by omega) (by omega)) rfl rfl (Nat.le_of_ble_eq_true rfl) rfl rfl rfl ?_
          rintro _ _ _ ⟨rfl, rfl, rfl⟩
          refine m_if_ne (tgt := 54) d_m_remove_47 (by decide) (by first | assumption | exact hR _ _ (by decide) | (unfold R32; omega)) (fun z47 => ?_) (fun z47 => ?_)
          · refine m_iconst d_m_remove_54 ?_
            refine m_callV d_m_remove_55 q_m_remove_109 s_m_holds v_m_holds rfl (t_m_holds ⟨by omega, by omega⟩) rfl rfl (Nat.le_of_ble_eq_true rfl) rfl rfl rfl ?_
            rintro _ _ _ ⟨rfl, rfl, rfl⟩
            refine m_if_ne (tgt := 63) d_m_remove_58 (by decide) (by first | assumption | exact hR _ _ (by decide) | (unfold R32; omega)) (fun z58 => ?_) (fun z58 => ?_)
            · refine m_aload_n d_m_remove_63 rfl ?_
              refine m_iload_n d_m_remove_64 rfl ?_
              refine m_iload_n d_m_remove_65 rfl ?_
              refine m_callV d_m_remove_66 q_m_remove_119 s_m_imageShows v_m_imageShows rfl (t_m_imageShows hI (by omega) (by omega) (by omega) (by omega)) rfl rfl (Nat.le_of_ble_eq_true rfl) rfl rfl rfl ?_
              rintro _ _ _ ⟨rfl, rfl, rfl⟩
              refine m_istore d_m_remove_69 (by decide) ?_
              refine m_aload_n d_m_remove_71 rfl ?_
              refine mg_7 d_m_remove_72 rfl ?_
              refine m_bipush d_m_remove_75 (by decide) ?_
              refine m_iload_n d_m_remove_77 rfl ?_
              refine m_imul d_m_remove_78 ?_
              refine m_iload_n d_m_remove_79 rfl ?_
              refine m_iadd d_m_remove_80 ?_
              refine m_iconst d_m_remove_81 ?_
              refine m_ast 1120 rfl (by decide) rfl d_m_remove_82 (by omega) (by omega) ?_
              refine m_iload d_m_remove_83 rfl ?_
              exact m_iret rfl d_m_remove_85 (opQ.good (by unfold cd_remove; (repeat' split) <;> omega) (rfl) (rfl))
            · exact absurd z58 (by decide)
          · refine m_iconst d_m_remove_50 ?_
            refine m_goto (tgt := 55) d_m_remove_51 (by decide) ?_
            refine m_callV d_m_remove_55 q_m_remove_109 s_m_holds v_m_holds rfl (t_m_holds ⟨by omega, by omega⟩) rfl rfl (Nat.le_of_ble_eq_true rfl) rfl rfl rfl ?_
            rintro _ _ _ ⟨rfl, rfl, rfl⟩
            refine m_if_ne (tgt := 63) d_m_remove_58 (by decide) (by first | assumption | exact hR _ _ (by decide) | (unfold R32; omega)) (fun z58 => ?_) (fun z58 => ?_)
            · exact absurd z58 (by decide)
            · refine m_iconst d_m_remove_61 ?_
              exact m_iret rfl d_m_remove_62 (opQ.bad (by unfold cd_remove; (repeat' split) <;> omega) (by decide))
      · exact absurd z25 (by decide)
def cd_seal (S : gS) (i : Int) : Int := if ¬ (0 ≤ i ∧ i < S 3 0) then 1 else if S 5 i ≠ 0 then 2 else 0
def vl_seal (S : gS) (i : Int) : Int := lay S i
def st_seal (S : gS) (i : Int) : gS := sset S 5 i 1
theorem t_m_seal {g : xG} {x0 : Nat} {ad : Nat → Nat} {tt : Int} {S : gS} {i : Int} (hI : Inv S) (hi : R32 i) : mM g y_m_seal k_m_seal M_m_seal x0 ad [.int (iI i)] tt S (opQ S (cd_seal S i) (vl_seal S i) (st_seal S i)) := by
  refine mM.of rfl (by decide) rfl rfl rfl (by simp [Value.category]) (Nat.le_of_ble_eq_true rfl) rfl (fun h0 => ?_)
  obtain ⟨hR, hi1, hi2, hi3, hi4, hi5, hi6, hi7⟩ := id hI
  obtain ⟨him, hgr, hco, hck⟩ := id hi1
  have e1 := isin_s i (S 3 0)
  refine m_aload_n d_m_seal_0 rfl ?_
  refine m_iload_n d_m_seal_1 rfl ?_
  refine m_callV d_m_seal_2 q_m_seal_101 s_m_isImage v_m_isImage rfl (t_m_isImage hR hi) rfl rfl (Nat.le_of_ble_eq_true rfl) rfl rfl rfl ?_
  rintro _ _ _ ⟨rfl, rfl, rfl⟩
  refine m_istore_n d_m_seal_5 (by decide) ?_
  refine m_aload_n d_m_seal_6 rfl ?_
  refine m_iload_n d_m_seal_7 rfl ?_
  refine m_if_ne (tgt := 15) d_m_seal_8 (by decide) (by first | assumption | exact hR _ _ (by decide) | (unfold R32; omega)) (fun z8 => ?_) (fun z8 => ?_)
  · refine m_aload_n d_m_seal_15 rfl ?_
    refine mg_19 d_m_seal_16 rfl ?_
    refine m_iload_n d_m_seal_19 rfl ?_
    refine m_zld d_m_seal_20 (by omega) (by omega) ?_
    refine m_if_eq (tgt := 28) d_m_seal_21 (by decide) (by first | assumption | exact hR _ _ (by decide) | (unfold R32; omega)) (fun z21 => ?_) (fun z21 => ?_)
    · refine m_iconst d_m_seal_28 ?_
      refine m_callV d_m_seal_29 q_m_seal_109 s_m_holds v_m_holds rfl (t_m_holds ⟨by omega, by omega⟩) rfl rfl (Nat.le_of_ble_eq_true rfl) rfl rfl rfl ?_
      rintro _ _ _ ⟨rfl, rfl, rfl⟩
      refine m_if_ne (tgt := 37) d_m_seal_32 (by decide) (by first | assumption | exact hR _ _ (by decide) | (unfold R32; omega)) (fun z32 => ?_) (fun z32 => ?_)
      · refine m_aload_n d_m_seal_37 rfl ?_
        refine mg_19 d_m_seal_38 rfl ?_
        refine m_iload_n d_m_seal_41 rfl ?_
        refine m_iconst d_m_seal_42 ?_
        refine m_zst d_m_seal_43 (by omega) (by omega) (by omega) ?_
        refine m_aload_n d_m_seal_44 rfl ?_
        refine m_iload_n d_m_seal_45 rfl ?_
        refine m_callV d_m_seal_46 q_m_seal_105 s_m_layersOf v_m_layersOf rfl (t_m_layersOf (a := i) (S := sset S 5 i 1) hi1 hi2 (show (-1 : Int) ≤ i by omega) (show i < S 3 0 by omega)) rfl rfl (Nat.le_of_ble_eq_true rfl) rfl rfl rfl ?_
        rintro _ _ _ ⟨rfl, rfl, rfl⟩
        exact m_iret rfl d_m_seal_49 (opQ.good (by unfold cd_seal; (repeat' split) <;> omega) (lay_congr (sset_n S i 1 (by decide)) i) (rfl))
      · exact absurd z32 (by decide)
    · refine m_iconst d_m_seal_24 ?_
      refine m_goto (tgt := 29) d_m_seal_25 (by decide) ?_
      refine m_callV d_m_seal_29 q_m_seal_109 s_m_holds v_m_holds rfl (t_m_holds ⟨by omega, by omega⟩) rfl rfl (Nat.le_of_ble_eq_true rfl) rfl rfl rfl ?_
      rintro _ _ _ ⟨rfl, rfl, rfl⟩
      refine m_if_ne (tgt := 37) d_m_seal_32 (by decide) (by first | assumption | exact hR _ _ (by decide) | (unfold R32; omega)) (fun z32 => ?_) (fun z32 => ?_)
      · exact absurd z32 (by decide)
      · refine m_iconst d_m_seal_35 ?_
        exact m_iret rfl d_m_seal_36 (opQ.bad (by unfold cd_seal; (repeat' split) <;> omega) (by decide))
  · refine m_iconst d_m_seal_11 ?_
    refine m_goto (tgt := 29) d_m_seal_12 (by decide) ?_
    refine m_callV d_m_seal_29 q_m_seal_109 s_m_holds v_m_holds rfl (t_m_holds ⟨by omega, by omega⟩) rfl rfl (Nat.le_of_ble_eq_true rfl) rfl rfl rfl ?_
    rintro _ _ _ ⟨rfl, rfl, rfl⟩
    refine m_if_ne (tgt := 37) d_m_seal_32 (by decide) (by first | assumption | exact hR _ _ (by decide) | (unfold R32; omega)) (fun z32 => ?_) (fun z32 => ?_)
    · exact absurd z32 (by decide)
    · refine m_iconst d_m_seal_35 ?_
      exact m_iret rfl d_m_seal_36 (opQ.bad (by unfold cd_seal; (repeat' split) <;> omega) (by decide))
def cd_shown (S : gS) (i f : Int) : Int := if ¬ (0 ≤ i ∧ i < S 3 0 ∧ 0 ≤ f ∧ f < 32) then 1 else 0
def vl_shown (S : gS) (i f : Int) : Int := see S i f
def st_shown (S : gS) (i f : Int) : gS := S
theorem t_m_shown {g : xG} {x0 : Nat} {ad : Nat → Nat} {tt : Int} {S : gS} {i f : Int} (hI : Inv S) (hi : R32 i) (hf : R32 f) : mM g y_m_shown k_m_shown M_m_shown x0 ad [.int (iI i), .int (iI f)] tt S (opQ S (cd_shown S i f) (vl_shown S i f) (st_shown S i f)) := by
  refine mM.of rfl (by decide) rfl rfl rfl (by simp [Value.category]) (Nat.le_of_ble_eq_true rfl) rfl (fun h0 => ?_)
  obtain ⟨hR, hi1, hi2, hi3, hi4, hi5, hi6, hi7⟩ := id hI
  obtain ⟨him, hgr, hco, hck⟩ := id hi1
  have e1 := isin_s i (S 3 0)
  have e2 := isin_s f 32
  refine m_aload_n d_m_shown_0 rfl ?_
  refine m_aload_n d_m_shown_1 rfl ?_
  refine m_iload_n d_m_shown_2 rfl ?_
  refine m_callV d_m_shown_3 q_m_shown_101 s_m_isImage v_m_isImage rfl (t_m_isImage hR hi) rfl rfl (Nat.le_of_ble_eq_true rfl) rfl rfl rfl ?_
  rintro _ _ _ ⟨rfl, rfl, rfl⟩
  refine m_if_eq (tgt := 22) d_m_shown_6 (by decide) (by first | assumption | exact hR _ _ (by decide) | (unfold R32; omega)) (fun z6 => ?_) (fun z6 => ?_)
  · refine m_iconst d_m_shown_22 ?_
    refine m_callV d_m_shown_23 q_m_shown_109 s_m_holds v_m_holds rfl (t_m_holds ⟨by omega, by omega⟩) rfl rfl (Nat.le_of_ble_eq_true rfl) rfl rfl rfl ?_
    rintro _ _ _ ⟨rfl, rfl, rfl⟩
    refine m_if_eq (tgt := 38) d_m_shown_26 (by decide) (by first | assumption | exact hR _ _ (by decide) | (unfold R32; omega)) (fun z26 => ?_) (fun z26 => ?_)
    · refine m_iconst d_m_shown_38 ?_
      exact m_iret rfl d_m_shown_39 (by first | exact opQ.bad (by unfold cd_shown; (repeat' split) <;> omega) (by decide) | exact opQ.good (by unfold cd_shown; (repeat' split) <;> omega) rfl rfl)
    · exact absurd z26 (by decide)
  · refine m_iload_n d_m_shown_9 rfl ?_
    refine m_bipush d_m_shown_10 (by decide) ?_
    refine m_callS d_m_shown_12 q_m_shown_90 s_m_isIn (t_m_isIn g hf ⟨by omega, by omega⟩) rfl rfl (Nat.le_of_ble_eq_true rfl) rfl rfl rfl ?_
    rintro _ rfl
    refine m_if_eq (tgt := 22) d_m_shown_15 (by decide) (by first | assumption | exact hR _ _ (by decide) | (unfold R32; omega)) (fun z15 => ?_) (fun z15 => ?_)
    · refine m_iconst d_m_shown_22 ?_
      refine m_callV d_m_shown_23 q_m_shown_109 s_m_holds v_m_holds rfl (t_m_holds ⟨by omega, by omega⟩) rfl rfl (Nat.le_of_ble_eq_true rfl) rfl rfl rfl ?_
      rintro _ _ _ ⟨rfl, rfl, rfl⟩
      refine m_if_eq (tgt := 38) d_m_shown_26 (by decide) (by first | assumption | exact hR _ _ (by decide) | (unfold R32; omega)) (fun z26 => ?_) (fun z26 => ?_)
      · refine m_iconst d_m_shown_38 ?_
        exact m_iret rfl d_m_shown_39 (by first | exact opQ.bad (by unfold cd_shown; (repeat' split) <;> omega) (by decide) | exact opQ.good (by unfold cd_shown; (repeat' split) <;> omega) rfl rfl)
      · exact absurd z26 (by decide)
    · refine m_iconst d_m_shown_18 ?_
      refine m_goto (tgt := 23) d_m_shown_19 (by decide) ?_
      refine m_callV d_m_shown_23 q_m_shown_109 s_m_holds v_m_holds rfl (t_m_holds ⟨by omega, by omega⟩) rfl rfl (Nat.le_of_ble_eq_true rfl) rfl rfl rfl ?_
      rintro _ _ _ ⟨rfl, rfl, rfl⟩
      refine m_if_eq (tgt := 38) d_m_shown_26 (by decide) (by first | assumption | exact hR _ _ (by decide) | (unfold R32; omega)) (fun z26 => ?_) (fun z26 => ?_)
      · exact absurd z26 (by decide)
      · refine m_aload_n d_m_shown_29 rfl ?_
        refine m_iload_n d_m_shown_30 rfl ?_
        refine m_iload_n d_m_shown_31 rfl ?_
        refine m_callV d_m_shown_32 q_m_shown_119 s_m_imageShows v_m_imageShows rfl (t_m_imageShows hI (by omega) (by omega) (by omega) (by omega)) rfl rfl (Nat.le_of_ble_eq_true rfl) rfl rfl rfl ?_
        rintro _ _ _ ⟨rfl, rfl, rfl⟩
        refine m_goto (tgt := 39) d_m_shown_35 (by decide) ?_
        exact m_iret rfl d_m_shown_39 (by first | exact opQ.bad (by unfold cd_shown; (repeat' split) <;> omega) (by decide) | exact opQ.good (by unfold cd_shown; (repeat' split) <;> omega) rfl rfl)
