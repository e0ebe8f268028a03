/-- what a layer a, over what is seen below it, shows of a file f -/
def obit (S : gS) (a f : Int) : Int := bit (S 2 a) (f / 4)
def lyr (S : gS) (a f rest : Int) : Int := if S 1 (32 * a + f) = 0 then (if obit S a f = 1 then 0 else rest) else if 0 < S 1 (32 * a + f) then S 1 (32 * a + f) else 0
def seeN (S : gS) : Nat → Int → Int → Int
  | 0, _, _ => 0
  | n + 1, k, f => if k = -1 then 0 else lyr S k f (seeN S n (S 4 k) f)
def see (S : gS) (k f : Int) : Int := seeN S (k + 1).toNat k f
theorem see_m1 (S : gS) (f : Int) : see S (-1) f = 0 := rfl
theorem seeN_stab {S : gS} (h : Inv2 S) (f : Int) : ∀ (n m : Nat) (k : Int), -1 ≤ k → k < S 3 0 → k < n → k < m → seeN S n k f = seeN S m k f := by
  intro n
  induction n with
  | zero =>
    intro m k h0 h1 h2 h3
    have : k = -1 := by omega
    subst this
    cases m <;> rfl
  | succ n ih =>
    intro m k h0 h1 h2 h3
    cases m with
    | zero =>
      have : k = -1 := by omega
      subst this
      rfl
    | succ m =>
      unfold seeN
      by_cases hk : k = -1
      · rw [if_pos hk, if_pos hk]
      · rw [if_neg hk, if_neg hk]
        have := h.1 k (by omega) h1
        rw [ih m (S 4 k) this.1 (by omega) (by omega) (by omega)]
theorem see_s {S : gS} (h : Inv2 S) {k : Int} (f : Int) (h0 : 0 ≤ k) (h1 : k < S 3 0) : see S k f = lyr S k f (see S (S 4 k) f) := by
  have hb := h.1 k h0 h1
  unfold see
  have e : (k + 1).toNat = k.toNat + 1 := by omega
  rw [e]
  show (if k = -1 then 0 else lyr S k f (seeN S k.toNat (S 4 k) f)) = _
  rw [if_neg (by omega), seeN_stab h f k.toNat (S 4 k + 1).toNat (S 4 k) hb.1 (by omega) (by omega) (by omega)]

theorem L_m_shows {g : xG} {x0 : Nat} {ad : Nat → Nat} {h0 : hp} {tt : Int} {S : gS} {a b f r : Int} (hI : Inv S) (hf0 : 0 ≤ f) (hf1 : f < 32) : ∀ (n : Nat) (at0 bw : Int), ((at0 = -1 ∧ (1 : Int) ≤ n) ∨ (at0 ≠ -1 ∧ bw + 2 < n)) → -1 ≤ at0 → at0 < 35 → -1 ≤ bw → bw < S 3 0 → (at0 = -1 → bw = -1) → ((at0 = -1 ∧ r = 0) ∨ (at0 ≠ -1 ∧ r = lyr S at0 f (see S bw f))) → ∀ u6, mW g M_m_shows x0 ad h0 (fun v t9 S9 => v = some (.int (iI (r))) ∧ tt = t9 ∧ S = S9) tt S 6 (some (.ref x0) :: some (.int (iI a)) :: some (.int (iI b)) :: some (.int (iI f)) :: some (.int (iI at0)) :: some (.int (iI bw)) :: u6 :: []) [] := by
  intro f9
  induction f9 with
  | zero => intros; omega
  | succ f9 ih =>
    intro at0 bw h1 h2 h3 h4 h5 h6 h7 u6
    obtain ⟨hR, hi1, hi2, -⟩ := id hI
    obtain ⟨him, -⟩ := id hi1
    have hb4 := hI.2.2.1.1 bw
    refine m_iload d_m_shows_6 rfl ?_
    refine m_iconst d_m_shows_8 ?_
    refine m_icmp_eq (tgt := 88) d_m_shows_9 (by decide) (by first | assumption | exact hR _ _ (by decide) | (unfold R32; omega)) (by first | assumption | exact hR _ _ (by decide) | (unfold R32; omega)) (fun z9 => ?_) (fun z9 => ?_)
    · refine m_iconst d_m_shows_88 ?_
      exact m_iret rfl d_m_shows_89 (⟨congrArg (fun z => some (Value.int (iI z))) (by omega), rfl, rfl⟩)
    · have hl : r = lyr S at0 f (see S bw f) := by omega
      unfold lyr at hl
      have ho := hI.2.2.2.2.2.2.1.2.1 at0
      refine m_aload_n d_m_shows_12 rfl ?_
      refine mg_7 d_m_shows_13 rfl ?_
      refine m_bipush d_m_shows_16 (by decide) ?_
      refine m_iload d_m_shows_18 rfl ?_
      refine m_imul d_m_shows_20 ?_
      refine m_iload_n d_m_shows_21 rfl ?_
      refine m_iadd d_m_shows_22 ?_
      refine m_ald 1120 rfl (by decide) rfl d_m_shows_23 (by omega) (by omega) ?_
      refine m_istore d_m_shows_24 (by decide) ?_
      refine m_iload d_m_shows_26 rfl ?_
      refine m_if_eq (tgt := 43) d_m_shows_28 (by decide) (by first | assumption | exact hR _ _ (by decide) | (unfold R32; omega)) (fun z28 => ?_) (fun z28 => ?_)
      · refine m_aload_n d_m_shows_43 rfl ?_
        refine mg_13 d_m_shows_44 rfl ?_
        refine m_iload d_m_shows_47 rfl ?_
        refine m_ald 35 rfl (by decide) rfl d_m_shows_49 (by omega) (by omega) ?_
        refine m_iload_n d_m_shows_50 rfl ?_
        refine m_iconst d_m_shows_51 ?_
        refine m_idivI d_m_shows_52 (by omega) (by first | assumption | exact hR _ _ (by decide) | (unfold R32; omega)) (by decide) (by first | assumption | exact hR _ _ (by decide) | (unfold R32; omega)) ?_
        refine m_ishrI d_m_shows_53 (by omega) (by omega) (by omega) (by omega) ?_
        refine m_iconst d_m_shows_54 ?_
        refine m_iand1 d_m_shows_55 (Int.ediv_nonneg (by omega) (Int.le_of_lt (Int.pow_pos (by omega)))) ?_
        refine m_iconst d_m_shows_56 ?_
        refine m_icmp_ne (tgt := 62) d_m_shows_57 (by decide) (by first | assumption | exact hR _ _ (by decide) | (unfold R32; omega)) (by first | assumption | exact hR _ _ (by decide) | (unfold R32; omega)) (fun z57 => ?_) (fun z57 => ?_)
        · have y57 : ¬ obit S at0 f = 1 := z57
          have hs : r = see S bw f := by rw [hl, if_pos (by omega), if_neg y57]
          refine m_iload d_m_shows_62 rfl ?_
          refine m_istore d_m_shows_64 (by decide) ?_
          refine m_iload d_m_shows_66 rfl ?_
          refine m_iconst d_m_shows_68 ?_
          refine m_icmp_ne (tgt := 76) d_m_shows_69 (by decide) (by first | assumption | exact hR _ _ (by decide) | (unfold R32; omega)) (by first | assumption | exact hR _ _ (by decide) | (unfold R32; omega)) (fun z69 => ?_) (fun z69 => ?_)
          · have hr9 := see_s hI.2.2.1 (k := bw) f (by omega) h5
            refine m_aload_n d_m_shows_76 rfl ?_
            refine mg_16 d_m_shows_77 rfl ?_
            refine m_iload d_m_shows_80 rfl ?_
            refine m_ald 10 rfl (by decide) rfl d_m_shows_82 (by omega) (by omega) ?_
            refine m_istore d_m_shows_83 (by decide) ?_
            refine m_goto (tgt := 6) d_m_shows_85 (by decide) ?_
            first
              | exact ih bw (-1) (by omega) (by omega) (by omega) (by omega) (by omega) (by omega) (by omega) _
              | exact ih bw (S 4 bw) (by omega) (by omega) (by omega) (by omega) (by omega) (by omega) (by omega) _
          · have hr9 : r = 0 := by rw [hs, z69, see_m1]
            refine m_iconst d_m_shows_72 ?_
            refine m_goto (tgt := 83) d_m_shows_73 (by decide) ?_
            refine m_istore d_m_shows_83 (by decide) ?_
            refine m_goto (tgt := 6) d_m_shows_85 (by decide) ?_
            first
              | exact ih bw (-1) (by omega) (by omega) (by omega) (by omega) (by omega) (by omega) (by omega) _
              | exact ih bw (S 4 bw) (by omega) (by omega) (by omega) (by omega) (by omega) (by omega) (by omega) _
        · have y57 : obit S at0 f = 1 := z57
          refine m_iconst d_m_shows_60 ?_
          exact m_iret rfl d_m_shows_61 (⟨congrArg (fun z => some (Value.int (iI z))) (by rw [hl]; (repeat' split) <;> omega), rfl, rfl⟩)
      · refine m_iload d_m_shows_31 rfl ?_
        refine m_if_le (tgt := 41) d_m_shows_33 (by decide) (by first | assumption | exact hR _ _ (by decide) | (unfold R32; omega)) (fun z33 => ?_) (fun z33 => ?_)
        · refine m_iconst d_m_shows_41 ?_
          exact m_iret rfl d_m_shows_42 (⟨congrArg (fun z => some (Value.int (iI z))) (by rw [hl]; (repeat' split) <;> omega), rfl, rfl⟩)
        · refine m_iload d_m_shows_36 rfl ?_
          refine m_goto (tgt := 42) d_m_shows_38 (by decide) ?_
          exact m_iret rfl d_m_shows_42 (⟨congrArg (fun z => some (Value.int (iI z))) (by rw [hl]; (repeat' split) <;> omega), rfl, rfl⟩)
