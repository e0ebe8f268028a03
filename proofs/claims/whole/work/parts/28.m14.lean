def sch (S : gS) : Nat → gS
  | 0 => S
  | n + 1 => sox (sch S n) n
def gsc (S : gS) : Nat → Int
  | 0 => 0
  | n + 1 => gsc S n + gso (sch S n) n
/-- what the groups have got while the groups below n have shared -/
def gI (T : gS) (n : Int) : Prop := ∀ j, 0 ≤ j → j < 8 → (0 ≤ T 26 j ∧ T 26 j ≤ 10000) ∧ (1 ≤ j → n ≤ T 7 j → T 26 j = 0) ∧ (T 6 0 ≤ j → T 26 j = 0) ∧ (1 ≤ j → T 26 j ≠ 0 → run1 T j = 1)
theorem gI.tB {T : gS} {n : Int} (h : gI T n) : tB T := fun j h0 h1 => (h j h0 h1).1
theorem gI.s {T : gS} (hI : Inv T) {n : Nat} (h : gI T n) (hn : n < T 6 0) : gI (sox T n) ((n + 1 : Nat) : Int) := by
  have hg := hI.2.1.2.1
  have hE := sox_eq T n
  have e6 : sox T n 6 = T 6 := hE 6 (by decide) (by decide) (by decide)
  have e7 : sox T n 7 = T 7 := hE 7 (by decide) (by decide) (by decide)
  have h7 := hI.2.2.1.2.1
  have hu := (h n (by omega) (by omega)).1
  have hAll := amN_28 hI (g := n) (by omega) hu.1
  have hAb : amN T n 28 ≤ 10000 := by
    rw [hAll]; split <;> omega
  have er : ∀ j, run1 (sox T n) j = run1 T j := by
    intro j
    unfold run1
    rw [hE 11 (by decide) (by decide) (by decide)]
    exact runN_c e7 (hE 19 (by decide) (by decide) (by decide)) (hE 20 (by decide) (by decide) (by decide)) j _
  intro j h0 h1
  have hj := h j h0 h1
  have ha := amt_b hI (g := n) (p := j) (by omega) h0 (by omega) hu.1
  have hge := (amN_ge hI (w := n) (by omega) hu.1 h0 28 (by omega)).2 (by omega)
  rw [e6, e7, sox_26 T n h0 h1, er]
  by_cases q : isp T j n = 1
  · have q' := q
    unfold isp at q'
    rw [if_neg (by omega)] at q'
    split at q'
    · rename_i q2
      have hj1 : 1 ≤ j := by
        rcases (by omega : j = 0 ∨ 1 ≤ j) with e | e
        · rw [e, h7] at q2; omega
        · exact e
      have hz := hj.2.1 hj1 (by omega)
      refine ⟨by omega, fun _ _ => by omega, fun _ => by omega, fun _ _ => q2.2.2⟩
    · omega
  · have hz := ha.2 (by have := isp_01 T j n; omega)
    rw [hz, Int.add_zero]
    exact ⟨hj.1, fun a b => hj.2.1 a (by omega), hj.2.2.1, hj.2.2.2⟩
theorem sch_I {S : gS} (hI : Inv S) (h : gI S 0) : ∀ n : Nat, n ≤ S 6 0 → Inv (sch S n) ∧ gI (sch S n) n ∧ sEq S (sch S n) := by
  intro n
  induction n with
  | zero => intro _; exact ⟨hI, h, fun _ _ _ _ => rfl⟩
  | succ n ih =>
    intro hn
    have hg := hI.2.1.2.1
    obtain ⟨h1, h2, h3⟩ := ih (by omega)
    have e6 : sch S n 6 = S 6 := h3 6 (by decide) (by decide) (by decide)
    exact ⟨Inv_sEq h1 (sox_R h1 h2.tB (by omega) (by omega)) (sox_eq _ _), h2.s h1 (by rw [e6]; omega), h3.trans (sox_eq _ _)⟩
/-- what has been granted and not shared out yet -/
def pnd (T : gS) (n : Nat) : Nat → Int
  | 0 => 0
  | k + 1 => pnd T n k + if n ≤ k then T 26 k else 0
theorem pnd_s {T : gS} (hI : Inv T) {n : Nat} (hn : n < T 6 0) (hu : 0 ≤ T 26 n) : ∀ k : Nat, k ≤ 8 → pnd (sox T n) (n + 1) k = pnd T n k - (if n < k then T 26 n else 0) + amN T n k := by
  intro k
  induction k with
  | zero => intro _; unfold pnd amN; rw [if_neg (by omega)]; rfl
  | succ k ih =>
    intro hk
    have ha := amt_b hI (g := n) (p := k) (by omega) (by omega) (by omega) hu
    have hz : k ≤ n → amt T n k = 0 := by
      intro hkn
      refine ha.2 ?_
      unfold isp
      rw [if_neg (by omega)]
      refine if_neg (fun q => ?_)
      have h7 := hI.2.2.1.2
      rcases (by omega : (k : Int) = 0 ∨ 1 ≤ (k : Int)) with e | e
      · rw [e, h7.1] at q; omega
      · have := h7.2 k e q.1; omega
    unfold pnd amN
    rw [ih (by omega), sox_26 T n (by omega) (by omega)]
    by_cases e : n ≤ k
    · by_cases e2 : n = k
      · subst e2
        rw [if_neg (by omega), if_neg (by omega), if_pos (by omega), if_pos (by omega), hz (by omega)]; omega
      · rw [if_pos (by omega), if_pos (by omega), if_pos (by omega), if_pos (by omega)]; omega
    · rw [if_neg (by omega), if_neg (by omega), if_neg (by omega), if_neg (by omega), hz (by omega)]; omega
/-- nothing is lost: all units end up in containers -/
theorem gsc_p {S : gS} (hI : Inv S) (h : gI S 0) (h0 : run1 S 0 = 1) : ∀ n : Nat, n ≤ S 6 0 → gsc S n + pnd (sch S n) n 8 = pnd S 0 8 := by
  intro n
  induction n with
  | zero => intro _; show (0 : Int) + pnd S 0 8 = pnd S 0 8; omega
  | succ n ih =>
    intro hn
    have hg := hI.2.1.2.1
    obtain ⟨h1, h2, h3⟩ := sch_I hI h n (by omega)
    have e6 : sch S n 6 = S 6 := h3 6 (by decide) (by decide) (by decide)
    have hu := h2 n (by omega) (by omega)
    have e1 := pnd_s h1 (n := n) (by rw [e6]; omega) hu.1.1 8 (by omega)
    have e2 := gso_e (sch S n) n
    have e3 := amN_28 h1 (g := n) (by omega) hu.1.1
    have er : run1 (sch S n) 0 = 1 := by
      refine Eq.trans ?_ h0
      unfold run1
      rw [h3 11 (by decide) (by decide) (by decide)]
      exact runN_c (h3 7 (by decide) (by decide) (by decide)) (h3 19 (by decide) (by decide) (by decide)) (h3 20 (by decide) (by decide) (by decide)) 0 _
    have e4 : amN (sch S n) n 28 = sch S n 26 n := by
      rw [e3]
      split
      · rename_i q
        rcases (by omega : sch S n 26 n = 0 ∨ sch S n 26 n ≠ 0) with z | z
        · exact z.symm
        · have hr : run1 (sch S n) n = 1 := by
            rcases (by omega : (n : Int) = 0 ∨ 1 ≤ (n : Int)) with y | y
            · rw [y]; exact er
            · exact hu.2.2.2 y z
          have := run_isp h1 (w := n) (by omega) hr
          omega
      · rfl
    have h4 := ih (by omega)
    rw [if_pos (by omega)] at e1
    show gsc S n + gso (sch S n) n + pnd (sox (sch S n) n) (n + 1) 8 = _
    rw [e1, e2, e4]
    omega
theorem gsc_0 {S : gS} (hI : Inv S) (h : gI S 0) (h0 : run1 S 0 = 0) : ∀ n : Nat, n ≤ S 6 0 → gsc S n = 0 ∧ ∀ j, 0 ≤ j → j < 20 → sch S n 22 j = S 22 j := by
  intro n
  induction n with
  | zero => intro _; exact ⟨rfl, fun _ _ _ => rfl⟩
  | succ n ih =>
    intro hn
    have hg := hI.2.1.2.1
    obtain ⟨h1, h2, h3⟩ := sch_I hI h n (by omega)
    have hu := h2 n (by omega) (by omega)
    have er : run1 (sch S n) 0 = 0 := by
      refine Eq.trans ?_ h0
      unfold run1
      rw [h3 11 (by decide) (by decide) (by decide)]
      exact runN_c (h3 7 (by decide) (by decide) (by decide)) (h3 19 (by decide) (by decide) (by decide)) (h3 20 (by decide) (by decide) (by decide)) 0 _
    have hz : ∀ p : Int, 0 ≤ p → p < 28 → amt (sch S n) n p = 0 := fun p p0 p1 => (amt_b h1 (g := n) (by omega) p0 p1 hu.1.1).2 (run_root h1 er p0 (by omega))
    have hs : ∀ k : Nat, k ≤ 28 → amN (sch S n) n k = 0 := by
      intro k
      induction k with
      | zero => intro _; rfl
      | succ k ihk =>
        intro hk
        unfold amN
        rw [ihk (by omega), hz k (by omega) (by omega)]; rfl
    refine ⟨?_, fun j j0 j1 => ?_⟩
    · show gsc S n + gso (sch S n) n = 0
      rw [gso_e, hs 28 (by omega), hs 8 (by omega), (ih (by omega)).1]; rfl
    · show sox (sch S n) n 22 j = _
      rw [sox_22 _ _ j0 j1, hz (j + 8) (by omega) (by omega), (ih (by omega)).2 j j0 j1]; omega
def sg (S : gS) (u n : Int) : gS := fun k j => if k = 26 ∧ 0 ≤ j ∧ j < n then (if j = 0 then u else 0) else S k j
theorem sg_0 (S : gS) (u : Int) : sg S u 0 = S := by
  funext k j; unfold sg; rw [if_neg (by omega)]
theorem sg_s (S : gS) (u : Int) {n v : Int} (hn : 0 ≤ n) (hv : v = if n = 0 then u else 0) : sset (sg S u n) 26 n v = sg S u (n + 1) := by
  funext k j; unfold sset sg
  subst hv
  by_cases e : j = n
  · subst e
    (repeat' split) <;> first | rfl | omega
  · (repeat' split) <;> first | rfl | omega
theorem sg_eq (S : gS) (u n : Int) : sEq S (sg S u n) := by
  intro k h1 h2 h3
  funext j; unfold sg; rw [if_neg (by omega)]
theorem sg_I {S : gS} (hI : Inv S) {u n : Int} (hu : R32 u) : Inv (sg S u n) := Inv_sEq hI (by
  intro k j hk
  unfold sg
  split
  · split
    · exact hu
    · unfold R32; omega
  · exact hI.1 k j hk) (sg_eq S u n)
theorem sg_g {S : gS} (hI : Inv S) {u : Int} (h1 : 1 ≤ u) (h2 : u ≤ 10000) : gI (sg S u 8) 0 := by
  have hg := hI.2.1.2.1
  intro j j0 j1
  have e : sg S u 8 26 j = if j = 0 then u else 0 := by unfold sg; rw [if_pos (by omega)]
  have e6 : sg S u 8 6 0 = S 6 0 := by rw [sg_eq S u 8 6 (by decide) (by decide) (by decide)]
  rw [e, e6]
  by_cases q : j = 0
  · rw [if_pos q]; refine ⟨by omega, fun _ => by omega, fun _ => by omega, fun _ => by omega⟩
  · rw [if_neg q]; refine ⟨by omega, fun _ _ => rfl, fun _ => rfl, fun _ z => absurd rfl z⟩
/-- what schedule answers: all units, or 0 where nothing runs -/
theorem gsc_v {S : gS} (hI : Inv S) {u : Int} (h1 : 1 ≤ u) (h2 : u ≤ 10000) : gsc (sg S u 8) (S 6 0).toNat = if run1 S 0 = 1 then u else 0 := by
  have hg := hI.2.1.2.1
  have hJ : Inv (sg S u 8) := sg_I hI (by unfold R32; omega)
  have hG := sg_g hI h1 h2
  have hE := sg_eq S u 8
  have e6 : sg S u 8 6 0 = S 6 0 := by rw [hE 6 (by decide) (by decide) (by decide)]
  have er : run1 (sg S u 8) 0 = run1 S 0 := by
    unfold run1
    rw [hE 11 (by decide) (by decide) (by decide)]
    exact runN_c (hE 7 (by decide) (by decide) (by decide)) (hE 19 (by decide) (by decide) (by decide)) (hE 20 (by decide) (by decide) (by decide)) 0 _
  split
  · rename_i q
    have h := gsc_p hJ hG (er.trans q) (S 6 0).toNat (by omega)
    obtain ⟨i1, i2, i3⟩ := sch_I hJ hG (S 6 0).toNat (by omega)
    have hp : ∀ k : Nat, k ≤ 8 → pnd (sch (sg S u 8) (S 6 0).toNat) (S 6 0).toNat k = 0 := by
      intro k
      induction k with
      | zero => intro _; rfl
      | succ k ih =>
        intro hk
        unfold pnd
        rw [ih (by omega)]
        split
        · have := (i2 k (by omega) (by omega)).2.2.1 (by rw [i3 6 (by decide) (by decide) (by decide), e6]; omega)
          rw [this]; rfl
        · rfl
    rw [hp 8 (by omega)] at h
    have h9 : pnd (sg S u 8) 0 8 = u := by
      have : ∀ k : Nat, k ≤ 8 → pnd (sg S u 8) 0 k = if k = 0 then 0 else u := by
        intro k
        induction k with
        | zero => intro _; rfl
        | succ k ih =>
          intro hk
          unfold pnd
          rw [ih (by omega), show sg S u 8 26 k = if (k : Int) = 0 then u else 0 from by unfold sg; rw [if_pos (by omega)]]
          (repeat' split) <;> omega
      exact this 8 (by omega)
    omega
  · rename_i q
    have := run1_01 S 0
    exact (gsc_0 hJ hG (by omega) (S 6 0).toNat (by omega)).1
theorem L_m_schedule2 {g : xG} {x0 : Nat} {ad : Nat → Nat} {h0 : hp} {tt : Int} {Qv : qS} {S : gS} {u : Int} (hI : Inv S) (hG : gI S 0) (hq : Qv (some (.int (iI (gsc S (S 6 0).toNat)))) tt (sch S (S 6 0).toNat)) : ∀ (f9 n : Nat), (n : Int) ≤ S 6 0 → S 6 0 < n + f9 → mW g M_m_schedule x0 ad h0 Qv tt (sch S n) 59 [some (.ref x0), some (.int (iI u)), some (.int (iI (gsc S n))), some (.int (iI (n : Int)))] [] := by
  intro f9
  induction f9 with
  | zero => intros; omega
  | succ f9 ih =>
    intro n h1 h2
    have hg := hI.2.1.2.1
    obtain ⟨i1, i2, i3⟩ := sch_I hI hG n h1
    have e6 : sch S n 6 0 = S 6 0 := by rw [i3 6 (by decide) (by decide) (by decide)]
    refine m_iload_n d_m_schedule_59 rfl ?_
    refine m_aload_n d_m_schedule_60 rfl ?_
    refine mgv_23 (S 6 0) e6 d_m_schedule_61 rfl ?_
    refine m_icmp_ge (tgt := 81) d_m_schedule_64 (by decide) (by unfold R32; omega) (by unfold R32; omega) (fun z64 => ?_) (fun z64 => ?_)
    · refine m_iload_n d_m_schedule_81 rfl ?_
      exact m_iret rfl d_m_schedule_82 (by rw [show n = (S 6 0).toNat by omega]; exact hq)
    · refine m_iload_n d_m_schedule_67 rfl ?_
      refine m_aload_n d_m_schedule_68 rfl ?_
      refine m_iload_n d_m_schedule_69 rfl ?_
      refine m_callV d_m_schedule_70 q_m_schedule_170 s_m_sharesOut v_m_sharesOut rfl (t_m_sharesOut (w := n) i1 i2.tB (by omega) (by omega)) rfl rfl (Nat.le_of_ble_eq_true rfl) rfl rfl rfl ?_
      rintro _ _ _ ⟨rfl, rfl, rfl⟩
      refine m_iadd d_m_schedule_73 ?_
      refine m_istore_n d_m_schedule_74 (by decide) ?_
      refine m_iinc d_m_schedule_75 rfl (by decide) ?_
      refine m_goto (tgt := 59) d_m_schedule_78 (by decide) ?_
      have := ih (n + 1) (by omega) (by omega)
      rw [show ((n + 1 : Nat) : Int) = (n : Int) + 1 by omega] at this
      exact this
theorem L_m_schedule1 {g : xG} {x0 : Nat} {ad : Nat → Nat} {h0 : hp} {tt : Int} {Qv : qS} {S : gS} {u : Int} (hI : Inv S) (hu : 1 ≤ u) (hu2 : u ≤ 10000) (hq : Qv (some (.int (iI (gsc (sg S u 8) (S 6 0).toNat)))) tt (sch (sg S u 8) (S 6 0).toNat)) : ∀ (f9 n : Nat), n ≤ 8 → 8 < n + f9 → mW g M_m_schedule x0 ad h0 Qv tt (sg S u n) 28 [some (.ref x0), some (.int (iI u)), some (.int (iI (n : Int))), none] [] := by
  intro f9
  induction f9 with
  | zero => intros; omega
  | succ f9 ih =>
    intro n h1 h2
    refine m_iload_n d_m_schedule_28 rfl ?_
    refine m_bipush d_m_schedule_29 (by decide) ?_
    refine m_icmp_ge (tgt := 55) d_m_schedule_31 (by decide) (by unfold R32; omega) (by unfold R32; omega) (fun z31 => ?_) (fun z31 => ?_)
    · refine m_iconst d_m_schedule_55 ?_
      refine m_istore_n d_m_schedule_56 (by decide) ?_
      refine m_iconst d_m_schedule_57 ?_
      refine m_istore_n d_m_schedule_58 (by decide) ?_
      have hgI := hI.2.1.2.1
      have e6 : sg S u 8 6 0 = S 6 0 := by rw [sg_eq S u 8 6 (by decide) (by decide) (by decide)]
      rw [show n = 8 by omega]
      exact L_m_schedule2 (S := sg S u 8) (sg_I hI (by unfold R32; omega)) (sg_g hI hu hu2) (by rw [e6]; exact hq) 9 0 (by have := hI.2.1.2.1; omega) (by have := hI.2.1.2.1; omega)
    · refine m_aload_n d_m_schedule_34 rfl ?_
      refine mg_78 d_m_schedule_35 rfl ?_
      refine m_iload_n d_m_schedule_38 rfl ?_
      refine m_iload_n d_m_schedule_39 rfl ?_
      refine m_if_ne (tgt := 47) d_m_schedule_40 (by decide) (by unfold R32; omega) (fun z40 => ?_) (fun z40 => ?_)
      · refine m_iconst d_m_schedule_47 ?_
        refine m_ast 8 rfl (by decide) rfl d_m_schedule_48 (by omega) (by omega) ?_
        refine m_iinc d_m_schedule_49 rfl (by decide) ?_
        refine m_goto (tgt := 28) d_m_schedule_52 (by decide) ?_
        have hs9 := fun v hv => sg_s S u (n := n) (v := v) (by omega) hv
        have := ih (n + 1) (by omega) (by omega)
        rw [show ((n + 1 : Nat) : Int) = (n : Int) + 1 by omega] at this
        first
          | (rw [← hs9 u (by rw [if_pos (by omega)])] at this; exact this)
          | (rw [← hs9 0 (by rw [if_neg (by omega)])] at this; exact this)
      · refine m_iload_n d_m_schedule_43 rfl ?_
        refine m_goto (tgt := 48) d_m_schedule_44 (by decide) ?_
        refine m_ast 8 rfl (by decide) rfl d_m_schedule_48 (by omega) (by omega) ?_
        refine m_iinc d_m_schedule_49 rfl (by decide) ?_
        refine m_goto (tgt := 28) d_m_schedule_52 (by decide) ?_
        have hs9 := fun v hv => sg_s S u (n := n) (v := v) (by omega) hv
        have := ih (n + 1) (by omega) (by omega)
        rw [show ((n + 1 : Nat) : Int) = (n : Int) + 1 by omega] at this
        first
          | (rw [← hs9 u (by rw [if_pos (by omega)])] at this; exact this)
          | (rw [← hs9 0 (by rw [if_neg (by omega)])] at this; exact this)
def cd_schedule (S : gS) (u : Int) : Int := if 1 ≤ u ∧ u ≤ 10000 then 0 else 1
def vl_schedule (S : gS) (u : Int) : Int := gsc (sg S u 8) (S 6 0).toNat
def st_schedule (S : gS) (u : Int) : gS := sch (sg S u 8) (S 6 0).toNat
theorem t_m_schedule {g : xG} {x0 : Nat} {ad : Nat → Nat} {tt : Int} {S : gS} {u : Int} (hI : Inv S) (hu : R32 u) : mM g y_m_schedule k_m_schedule M_m_schedule x0 ad [.int (iI u)] tt S (opQ S (cd_schedule S u) (vl_schedule S u) (st_schedule S u)) := by
  refine mM.of rfl (by decide) rfl rfl rfl (by simp [Value.category]) (Nat.le_of_ble_eq_true rfl) rfl (fun h0 => ?_)
  obtain ⟨hR, hi1, hi2, hi3, hi4, hi5, hi6, hi7⟩ := id hI
  obtain ⟨him, hgr, hco, hck⟩ := id hi1
  refine m_aload_n d_m_schedule_0 rfl ?_
  refine m_iload_n d_m_schedule_1 rfl ?_
  refine m_iconst d_m_schedule_2 ?_
  refine m_icmp_lt (tgt := 17) d_m_schedule_3 (by decide) (by first | assumption | exact hR _ _ (by decide) | (unfold R32; omega)) (by first | assumption | exact hR _ _ (by decide) | (unfold R32; omega)) (fun z3 => ?_) (fun z3 => ?_)
  · refine m_iconst d_m_schedule_17 ?_
    refine m_callV d_m_schedule_18 q_m_schedule_109 s_m_holds v_m_holds rfl (t_m_holds ⟨by omega, by omega⟩) rfl rfl (Nat.le_of_ble_eq_true rfl) rfl rfl rfl ?_
    rintro _ _ _ ⟨rfl, rfl, rfl⟩
    refine m_if_ne (tgt := 26) d_m_schedule_21 (by decide) (by first | assumption | exact hR _ _ (by decide) | (unfold R32; omega)) (fun z21 => ?_) (fun z21 => ?_)
    · exact absurd z21 (by decide)
    · refine m_iconst d_m_schedule_24 ?_
      exact m_iret rfl d_m_schedule_25 (opQ.bad (by unfold cd_schedule; (repeat' split) <;> omega) (by decide))
  · refine m_iload_n d_m_schedule_6 rfl ?_
    refine m_sipush d_m_schedule_7 (by decide) ?_
    refine m_icmp_gt (tgt := 17) d_m_schedule_10 (by decide) (by first | assumption | exact hR _ _ (by decide) | (unfold R32; omega)) (by first | assumption | exact hR _ _ (by decide) | (unfold R32; omega)) (fun z10 => ?_) (fun z10 => ?_)
    · refine m_iconst d_m_schedule_17 ?_
      refine m_callV d_m_schedule_18 q_m_schedule_109 s_m_holds v_m_holds rfl (t_m_holds ⟨by omega, by omega⟩) rfl rfl (Nat.le_of_ble_eq_true rfl) rfl rfl rfl ?_
      rintro _ _ _ ⟨rfl, rfl, rfl⟩
      refine m_if_ne (tgt := 26) d_m_schedule_21 (by decide) (by first | assumption | exact hR _ _ (by decide) | (unfold R32; omega)) (fun z21 => ?_) (fun z21 => ?_)
      · exact absurd z21 (by decide)
      · refine m_iconst d_m_schedule_24 ?_
        exact m_iret rfl d_m_schedule_25 (opQ.bad (by unfold cd_schedule; (repeat' split) <;> omega) (by decide))
    · refine m_iconst d_m_schedule_13 ?_
      refine m_goto (tgt := 18) d_m_schedule_14 (by decide) ?_
      refine m_callV d_m_schedule_18 q_m_schedule_109 s_m_holds v_m_holds rfl (t_m_holds ⟨by omega, by omega⟩) rfl rfl (Nat.le_of_ble_eq_true rfl) rfl rfl rfl ?_
      rintro _ _ _ ⟨rfl, rfl, rfl⟩
      refine m_if_ne (tgt := 26) d_m_schedule_21 (by decide) (by first | assumption | exact hR _ _ (by decide) | (unfold R32; omega)) (fun z21 => ?_) (fun z21 => ?_)
      · refine m_iconst d_m_schedule_26 ?_
        refine m_istore_n d_m_schedule_27 (by decide) ?_
        have := L_m_schedule1 (g := g) (x0 := x0) (ad := ad) (h0 := h0) (tt := 0) (Qv := opQ S (cd_schedule S u) (vl_schedule S u) (st_schedule S u)) hI (by omega) (by omega) (opQ.good (by unfold cd_schedule; (repeat' split) <;> omega) rfl rfl) 9 0 (by omega) (by omega)
        rw [show sg S u ((0 : Nat) : Int) = S from sg_0 S u] at this
        exact this
      · exact absurd z21 (by decide)
