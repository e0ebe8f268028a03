/-! what holds stays: by rows that don't change, and sums that change by what is told -/
theorem Inv1.c {S S' : gS} (h : Inv1 S) (h3 : S' 3 = S 3) (h6 : S' 6 = S 6) (h11 : S' 11 = S 11) (h23 : S' 23 = S 23) : Inv1 S' := by
  unfold Inv1; rw [h3, h6, h11, h23]; exact h
theorem Inv2.c {S S' : gS} (h : Inv2 S) (h3 : S' 3 = S 3) (h4 : S' 4 = S 4) (h6 : S' 6 = S 6) (h7 : S' 7 = S 7) : Inv2 S' := by
  unfold Inv2; rw [h3, h4, h6, h7]; exact h
theorem Inv5.c {S S' : gS} (h : Inv5 S) (h6 : S' 6 = S 6) (h8 : S' 8 = S 8) (h9 : S' 9 = S 9) (h10 : S' 10 = S 10) : Inv5 S' := by
  unfold Inv5; rw [h6, h8, h9, h10]; exact h
theorem isCK.c {S S' : gS} {k : Int} (h11 : S' 11 = S 11) (h23 : S' 23 = S 23) : isCK S' k = isCK S k := by
  unfold isCK; rw [h11, h23]
theorem bel_congr {S S' : gS} (h : S' 7 = S 7) (a b : Int) : bel S' a b = bel S a b := by
  have : ∀ (n : Nat) (a : Int), belN S' n a b = belN S n a b := by
    intro n
    induction n with
    | zero => intro a; rfl
    | succ n ih => intro a; unfold belN; rw [ih, h]
  exact this _ _
theorem memN_le {S S' : gS} (h7 : S' 7 = S 7) (h20 : S' 20 = S 20) (g : Int) : ∀ n : Nat, (∀ k : Nat, k < n → S' 14 k ≤ S 14 k) → memN S' g n ≤ memN S g n := by
  intro n
  induction n with
  | zero => intro _; exact Int.le_refl _
  | succ n ih =>
    intro h
    have h1 := ih (fun k hk => h k (by omega))
    have h2 := h n (by omega)
    unfold memN
    rw [bel_congr h7, h20]
    split <;> omega
theorem prcN_le {S S' : gS} (h7 : S' 7 = S 7) (h20 : S' 20 = S 20) (g : Int) : ∀ n : Nat, (∀ k : Nat, k < n → S' 15 k ≤ S 15 k) → prcN S' g n ≤ prcN S g n := by
  intro n
  induction n with
  | zero => intro _; exact Int.le_refl _
  | succ n ih =>
    intro h
    have h1 := ih (fun k hk => h k (by omega))
    have h2 := h n (by omega)
    unfold prcN
    rw [bel_congr h7, h20]
    split <;> omega
/-- one container's memory changes -/
theorem memN_up {S S' : gS} (h7 : S' 7 = S 7) (h20 : S' 20 = S 20) (g c : Int) (h14 : ∀ k, k ≠ c → S' 14 k = S 14 k) : ∀ n : Nat, memN S' g n = memN S g n + (if 0 ≤ c ∧ c < n ∧ bel S (S 20 c) g = 1 then S' 14 c - S 14 c else 0) := by
  intro n
  induction n with
  | zero =>
    rw [if_neg (by omega)]
    rfl
  | succ n ih =>
    unfold memN
    rw [bel_congr h7, h20, ih]
    by_cases hc : (n : Int) = c
    · subst hc
      rw [if_neg (by omega)]
      (repeat' split) <;> omega
    · rw [h14 n hc]
      (repeat' split) <;> omega
theorem prcN_up {S S' : gS} (h7 : S' 7 = S 7) (h20 : S' 20 = S 20) (g c : Int) (h15 : ∀ k, k ≠ c → S' 15 k = S 15 k) : ∀ n : Nat, prcN S' g n = prcN S g n + (if 0 ≤ c ∧ c < n ∧ bel S (S 20 c) g = 1 then S' 15 c - S 15 c else 0) := by
  intro n
  induction n with
  | zero =>
    rw [if_neg (by omega)]
    rfl
  | succ n ih =>
    unfold prcN
    rw [bel_congr h7, h20, ih]
    by_cases hc : (n : Int) = c
    · subst hc
      rw [if_neg (by omega)]
      (repeat' split) <;> omega
    · rw [h15 n hc]
      (repeat' split) <;> omega
theorem memI_up {S S' : gS} (h1 : Inv1 S) (h7 : S' 7 = S 7) (h11 : S' 11 = S 11) (h20 : S' 20 = S 20) (g : Int) {c : Int} (hc : 0 ≤ c) (hc2 : c < S 11 0) (h14 : ∀ k, k ≠ c → S' 14 k = S 14 k) : memI S' g = memI S g + (if bel S (S 20 c) g = 1 then S' 14 c - S 14 c else 0) := by
  have h := memN_up h7 h20 g c h14 (S 11 0).toNat
  have hco := h1.2.2.1
  unfold memI
  rw [h11, h]
  congr 1
  by_cases q : bel S (S 20 c) g = 1
  · rw [if_pos q, if_pos ⟨hc, by omega, q⟩]
  · rw [if_neg q, if_neg (fun z => q z.2.2)]
theorem prcI_up {S S' : gS} (h1 : Inv1 S) (h7 : S' 7 = S 7) (h11 : S' 11 = S 11) (h20 : S' 20 = S 20) (g : Int) {c : Int} (hc : 0 ≤ c) (hc2 : c < S 11 0) (h15 : ∀ k, k ≠ c → S' 15 k = S 15 k) : prcI S' g = prcI S g + (if bel S (S 20 c) g = 1 then S' 15 c - S 15 c else 0) := by
  have h := prcN_up h7 h20 g c h15 (S 11 0).toNat
  have hco := h1.2.2.1
  unfold prcI
  rw [h11, h]
  congr 1
  by_cases q : bel S (S 20 c) g = 1
  · rw [if_pos q, if_pos ⟨hc, by omega, q⟩]
  · rw [if_neg q, if_neg (fun z => q z.2.2)]
theorem memN_eq {S S' : gS} (h7 : S' 7 = S 7) (h20 : S' 20 = S 20) (h14 : S' 14 = S 14) (g : Int) : ∀ n : Nat, memN S' g n = memN S g n := by
  intro n
  induction n with
  | zero => rfl
  | succ n ih => unfold memN; rw [bel_congr h7, h20, h14, ih]
theorem prcN_eq {S S' : gS} (h7 : S' 7 = S 7) (h20 : S' 20 = S 20) (h15 : S' 15 = S 15) (g : Int) : ∀ n : Nat, prcN S' g n = prcN S g n := by
  intro n
  induction n with
  | zero => rfl
  | succ n ih => unfold prcN; rw [bel_congr h7, h20, h15, ih]
theorem memI_eq {S S' : gS} (h7 : S' 7 = S 7) (h11 : S' 11 = S 11) (h14 : S' 14 = S 14) (h20 : S' 20 = S 20) (g : Int) : memI S' g = memI S g := by
  unfold memI; rw [h11, memN_eq h7 h20 h14]
theorem prcI_eq {S S' : gS} (h7 : S' 7 = S 7) (h11 : S' 11 = S 11) (h15 : S' 15 = S 15) (h20 : S' 20 = S 20) (g : Int) : prcI S' g = prcI S g := by
  unfold prcI; rw [h11, prcN_eq h7 h20 h15]
/-- every group's path ends at the root -/
theorem bel_root {S : gS} (h2 : Inv2 S) (h1 : Inv1 S) : ∀ (n : Nat) (a : Int), a < n → 0 ≤ a → a < S 6 0 → bel S a 0 = 1 := by
  intro n
  induction n with
  | zero => intro a b c; omega
  | succ n ih =>
    intro a hb hc hd
    by_cases h0 : a = 0
    · rw [h0, bel_eq]
    · have hp := h2.2.2 a (by omega) hd
      rw [bel_s h2 h1 (by omega) hc hd h0]
      exact ih (S 7 a) (by omega) hp.1 (by omega)
theorem stp_row {S : gS} {c : Int} {k : Nat} (h14 : k ≠ 14) (h15 : k ≠ 15) (h18 : k ≠ 18) (h19 : k ≠ 19) (h21 : k ≠ 21) (h24 : k ≠ 24) : stp S c k = S k := by
  funext j
  unfold stp stq
  rw [if_neg (by omega), if_neg (by omega), if_neg (by omega), if_neg (by omega)]
theorem stp_c (S : gS) (c : Int) : stp S c 14 c = 0 ∧ stp S c 15 c = 0 ∧ stp S c 18 c = 0 ∧ stp S c 19 c = 2 ∧ stp S c 21 c = -1 := by
  unfold stp stq
  refine ⟨?_, ?_, ?_, ?_, ?_⟩ <;> (repeat' split) <;> omega
theorem stp_n (S : gS) {c j : Int} (hj : j ≠ c) : stp S c 14 j = S 14 j ∧ stp S c 15 j = S 15 j ∧ stp S c 18 j = S 18 j ∧ stp S c 19 j = S 19 j ∧ stp S c 21 j = S 21 j := by
  unfold stp stq
  refine ⟨?_, ?_, ?_, ?_, ?_⟩ <;> (repeat' split) <;> omega
theorem Inv_stp {S : gS} (hI : Inv S) {c : Int} (hc : 0 ≤ c) (hc2 : c < S 11 0) : Inv (stp S c) := by
  obtain ⟨hR, hi1, hi2, hi3, hi4, hi5, hi6, hi7⟩ := id hI
  have r3 : stp S c 3 = S 3 := stp_row (by decide) (by decide) (by decide) (by decide) (by decide) (by decide)
  have r4 : stp S c 4 = S 4 := stp_row (by decide) (by decide) (by decide) (by decide) (by decide) (by decide)
  have r6 : stp S c 6 = S 6 := stp_row (by decide) (by decide) (by decide) (by decide) (by decide) (by decide)
  have r7 : stp S c 7 = S 7 := stp_row (by decide) (by decide) (by decide) (by decide) (by decide) (by decide)
  have r11 : stp S c 11 = S 11 := stp_row (by decide) (by decide) (by decide) (by decide) (by decide) (by decide)
  have r23 : stp S c 23 = S 23 := stp_row (by decide) (by decide) (by decide) (by decide) (by decide) (by decide)
  have r12 : stp S c 12 = S 12 := stp_row (by decide) (by decide) (by decide) (by decide) (by decide) (by decide)
  have r13 : stp S c 13 = S 13 := stp_row (by decide) (by decide) (by decide) (by decide) (by decide) (by decide)
  have r16 : stp S c 16 = S 16 := stp_row (by decide) (by decide) (by decide) (by decide) (by decide) (by decide)
  have r17 : stp S c 17 = S 17 := stp_row (by decide) (by decide) (by decide) (by decide) (by decide) (by decide)
  have r20 : stp S c 20 = S 20 := stp_row (by decide) (by decide) (by decide) (by decide) (by decide) (by decide)
  have r5 : stp S c 5 = S 5 := stp_row (by decide) (by decide) (by decide) (by decide) (by decide) (by decide)
  have r1 : stp S c 1 = S 1 := stp_row (by decide) (by decide) (by decide) (by decide) (by decide) (by decide)
  have r2 : stp S c 2 = S 2 := stp_row (by decide) (by decide) (by decide) (by decide) (by decide) (by decide)
  have r8 : stp S c 8 = S 8 := stp_row (by decide) (by decide) (by decide) (by decide) (by decide) (by decide)
  have r9 : stp S c 9 = S 9 := stp_row (by decide) (by decide) (by decide) (by decide) (by decide) (by decide)
  have r10 : stp S c 10 = S 10 := stp_row (by decide) (by decide) (by decide) (by decide) (by decide) (by decide)
  have hk := hi3 c (Or.inl ⟨hc, hc2⟩)
  refine ⟨?_, hi1.c r3 r6 r11 r23, hi2.c r3 r4 r6 r7, ?_, ?_, hi5.c r6 r8 r9 r10, ?_, ?_⟩
  · intro a j ha
    have := hR a j ha
    unfold stp stq
    (repeat' split) <;> first | exact this | (unfold R32; omega)
  · intro k hkk
    rw [isCK.c r11 r23] at hkk
    rw [r3, r12, r13, r16, r17]
    have h := hi3 k hkk
    by_cases hkc : k = c
    · subst hkc
      have := stp_c S k
      omega
    · have := stp_n S hkc
      omega
  · intro k h0 h1
    rw [r11] at h1
    have h := hi4 k h0 h1
    rw [r6, r20]
    by_cases hkc : k = c
    · subst hkc
      have := stp_c S k
      omega
    · have := stp_n S hkc
      rw [this.1, this.2.1, this.2.2.1, this.2.2.2.1, this.2.2.2.2]
      exact h
  · unfold Inv6
    rw [r1, r2, r5, r11]
    refine ⟨hi6.1, hi6.2.1, hi6.2.2.1, fun j h0 h1 => ?_⟩
    have := hi6.2.2.2 j h0 h1
    unfold stp stq
    (repeat' split) <;> omega
  · unfold Inv7
    refine ⟨fun k h0 h1 => ?_, fun k hkk => ?_, ?_, ?_, ?_, ?_⟩
    · rw [r3] at h1
      rw [lay_congr r4, r4, r5]
      exact hi7.1 k h0 h1
    · rw [isCK.c r11 r23] at hkk
      rw [r12, r5]
      exact hi7.2.1 k hkk
    · rw [r8]; exact hi7.2.2.1
    · rw [r9]; exact hi7.2.2.2.1
    · have e := memI_up hi1 r7 r11 r20 0 hc hc2 (fun k hk => (stp_n S hk).1)
      have := (stp_c S c).1
      have h9 := hi7.2.2.2.2.1
      rw [e]
      split <;> omega
    · have e := prcI_up hi1 r7 r11 r20 0 hc hc2 (fun k hk => (stp_n S hk).2.1)
      have := (stp_c S c).2.1
      have h9 := hi7.2.2.2.2.2
      rw [e]
      split <;> omega
