def IV (S : gS) : Prop := Inv S ∧ InvX S
theorem IV.agr {S9 T : gS} (h : IV T) (ha : agr S9 T) (hE : Ext S9) : IV S9 := ⟨Inv_agr h.1 ha hE.2.2.2.2.2, InvX_agr h.2 ha⟩
theorem bclr_b {a k : Int} (ha : 0 ≤ a) : 0 ≤ bclr a k ∧ bclr a k ≤ a := by
  have hP : (0 : Int) < 2 ^ k.toNat := Int.pow_pos (by omega)
  unfold bclr
  rcases bit_01 a k with hb | hb
  · rw [hb]; omega
  · unfold bit at hb
    have : (2 : Int) ^ k.toNat ≤ a := by
      have h1 : 0 < a / 2 ^ k.toNat := by
        have := Int.ediv_nonneg ha (Int.le_of_lt hP)
        omega
      have h2 := Int.ediv_mul_le a (Int.ne_of_gt hP)
      have h3 : 1 * (2 : Int) ^ k.toNat ≤ a / 2 ^ k.toNat * 2 ^ k.toNat := Int.mul_le_mul_of_nonneg_right (by omega) (Int.le_of_lt hP)
      omega
    unfold bit
    rw [hb]
    omega
/-- a path with no group over its limit -/
theorem tm_all {S : gS} (h2 : Inv2 S) (h1 : Inv1 S) (u m : Int) {p : Int} (hp : 0 ≤ p) : ∀ (n : Nat) (k : Int), k < n → -1 ≤ k → k < S 6 0 → tm S k u m = -1 → bel S k p = 1 → memI S p + u ≤ S 8 p ∧ prcI S p + m ≤ S 9 p := by
  intro n
  induction n with
  | zero =>
    intro k a b c d e
    have : k = -1 := by omega
    subst this
    rw [bel_m1 hp] at e; cases e
  | succ n ih =>
    intro k a b c d e
    by_cases z : k = -1
    · subst z
      rw [bel_m1 hp] at e; cases e
    · rw [tm_s h2 h1 u m (by omega) c] at d
      split at d
      · omega
      · rename_i q
        by_cases y : k = p
        · subst y; omega
        · rw [bel_s h2 h1 hp (by omega) c y] at e
          have w := h2.pa h1 k (by omega) c
          exact ih (S 7 k) (by omega) w.1 (by omega) d e
/-- rows of files and bits alone -/
theorem IV_f {S T : gS} (hV : IV S) (e : ∀ k, k ≠ 1 → k ≠ 2 → T k = S k) (h1 : ∀ j, -1 ≤ T 1 j ∧ T 1 j ≤ 999) (h2 : ∀ j, 0 ≤ T 2 j ∧ T 2 j ≤ 255) : IV T := by
  obtain ⟨⟨hR, hi1, hi2, hi3, hi4, hi5, hi6, hi7⟩, hX⟩ := hV
  have r : ∀ k, (k != 1 && k != 2) = true → T k = S k := fun k hk => by
    simp only [Bool.and_eq_true, bne_iff_ne] at hk
    exact e k hk.1 hk.2
  refine ⟨⟨fun k j hk => ?_, hi1.c (r 3 rfl) (r 6 rfl) (r 11 rfl) (r 23 rfl), hi2.c (r 3 rfl) (r 4 rfl) (r 6 rfl) (r 7 rfl), fun k hk => ?_, fun k h0 hk => ?_, hi5.c (r 6 rfl) (r 8 rfl) (r 9 rfl) (r 10 rfl), ⟨h1, h2, by rw [r 5 rfl]; exact hi6.2.2.1, by rw [r 24 rfl, r 11 rfl]; exact hi6.2.2.2⟩, ⟨fun k h0 hk => ?_, fun k hk => ?_, by rw [r 8 rfl]; exact hi7.2.2.1, by rw [r 9 rfl]; exact hi7.2.2.2.1, by rw [memI_eq (r 7 rfl) (r 11 rfl) (r 14 rfl) (r 20 rfl)]; exact hi7.2.2.2.2.1, by rw [prcI_eq (r 7 rfl) (r 11 rfl) (r 15 rfl) (r 20 rfl)]; exact hi7.2.2.2.2.2⟩⟩, fun p h0 hp => ?_, by rw [r 11 rfl, r 21 rfl]; exact hX.2.1, by rw [r 11 rfl, r 19 rfl, r 15 rfl]; exact hX.2.2.1, by rw [r 23 rfl, r 15 rfl]; exact hX.2.2.2⟩
  · by_cases a : k = 1
    · subst a; have := h1 j; unfold R32; omega
    · by_cases b : k = 2
      · subst b; have := h2 j; unfold R32; omega
      · rw [e k a b]; exact hR k j hk
  · rw [isCK.eq (r 11 rfl) (r 23 rfl)] at hk
    rw [r 12 rfl, r 13 rfl, r 14 rfl, r 15 rfl, r 16 rfl, r 17 rfl, r 18 rfl, r 3 rfl]
    exact hi3 k hk
  · rw [r 11 rfl] at hk
    rw [r 19 rfl, r 20 rfl, r 21 rfl, r 6 rfl, r 14 rfl, r 15 rfl, r 18 rfl]
    exact hi4 k h0 hk
  · rw [r 3 rfl] at hk
    rw [lay_congr (r 4 rfl), r 4 rfl, r 5 rfl]
    exact hi7.1 k h0 hk
  · rw [isCK.eq (r 11 rfl) (r 23 rfl)] at hk
    rw [r 12 rfl, r 5 rfl]
    exact hi7.2.1 k hk
  · rw [r 6 rfl] at hp
    rw [prcI_eq (r 7 rfl) (r 11 rfl) (r 15 rfl) (r 20 rfl), r 9 rfl]
    exact hX.1 p h0 hp
/-- a container's rows alone -/
theorem IV_c {S T : gS} (hV : IV S) (e : ∀ k, (k != 14 && k != 15 && k != 16 && k != 17 && k != 18 && k != 19 && k != 21 && k != 24 && k != 25) = true → T k = S k) (hR : ∀ k j, k ≠ 22 → R32 (T k j)) (h3 : ∀ k, isCK S k → (0 ≤ T 14 k ∧ T 14 k ≤ 10000) ∧ (0 ≤ T 15 k ∧ T 15 k ≤ 100) ∧ (0 ≤ T 16 k ∧ T 16 k ≤ 15) ∧ (0 ≤ T 17 k ∧ T 17 k ≤ 15) ∧ (0 ≤ T 18 k ∧ T 18 k ≤ 65535))
    (h4 : ∀ k, 0 ≤ k → k < S 11 0 → (0 ≤ T 19 k ∧ T 19 k ≤ 2) ∧ (T 21 k = -1 ∨ (0 ≤ T 21 k ∧ T 21 k < 40 ∧ 1 ≤ T 21 k % 10 ∧ T 21 k % 10 ≤ 6)) ∧ (T 19 k = 2 → T 14 k = 0 ∧ T 15 k = 0 ∧ T 18 k = 0 ∧ T 21 k = -1)) (h24 : ∀ j, 0 ≤ j → j < 32 → -1 ≤ T 24 j ∧ T 24 j < S 11 0) (hm : memI T 0 ≤ 10000)
    (hp : ∀ p, 0 ≤ p → p < S 6 0 → prcI T p ≤ S 9 p) (hu : ∀ c d, 0 ≤ c → c < S 11 0 → 0 ≤ d → d < S 11 0 → c ≠ d → T 21 c ≠ -1 → T 21 c ≠ T 21 d) (hl : ∀ c, 0 ≤ c → c < S 11 0 → T 19 c ≠ 2 → 1 ≤ T 15 c) (hk : ∀ k, 0 ≤ k → k < S 23 0 → 1 ≤ T 15 (20 + k)) : IV T := by
  obtain ⟨⟨hR0, hi1, hi2, hi3, hi4, hi5, hi6, hi7⟩, hX⟩ := hV
  have h6 := hi1.2.1
  refine ⟨⟨hR, hi1.c (e 3 rfl) (e 6 rfl) (e 11 rfl) (e 23 rfl), hi2.c (e 3 rfl) (e 4 rfl) (e 6 rfl) (e 7 rfl), fun k hk => ?_, fun k h0 hk => ?_, hi5.c (e 6 rfl) (e 8 rfl) (e 9 rfl) (e 10 rfl), ⟨by rw [e 1 rfl]; exact hi6.1, by rw [e 2 rfl]; exact hi6.2.1, by rw [e 5 rfl]; exact hi6.2.2.1, by rw [e 11 rfl]; exact h24⟩, ⟨fun k h0 hk => ?_, fun k hk => ?_, by rw [e 8 rfl]; exact hi7.2.2.1, by rw [e 9 rfl]; exact hi7.2.2.2.1, hm, ?_⟩⟩, fun p h0 hq => ?_, by rw [e 11 rfl]; exact hu, by rw [e 11 rfl]; exact hl, by rw [e 23 rfl]; exact hk⟩
  · rw [isCK.eq (e 11 rfl) (e 23 rfl)] at hk
    rw [e 12 rfl, e 13 rfl, e 3 rfl]
    have q := hi3 k hk
    exact ⟨q.1, q.2.1, h3 k hk⟩
  · rw [e 11 rfl] at hk
    rw [e 20 rfl, e 6 rfl]
    have q := h4 k h0 hk
    exact ⟨q.1, (hi4 k h0 hk).2.1, q.2⟩
  · rw [e 3 rfl] at hk
    rw [lay_congr (e 4 rfl), e 4 rfl, e 5 rfl]
    exact hi7.1 k h0 hk
  · rw [isCK.eq (e 11 rfl) (e 23 rfl)] at hk
    rw [e 12 rfl, e 5 rfl]
    exact hi7.2.1 k hk
  · have := hp 0 (by omega) (by omega)
    rw [hi7.2.2.2.1] at this
    exact this
  · rw [e 6 rfl] at hq
    rw [e 9 rfl]
    exact hp p h0 hq
theorem IV_19 {S : gS} (hV : IV S) {c v : Int} (hc0 : 0 ≤ c) (hc1 : c < S 11 0) (hv : v = 0 ∨ v = 1) (hs9 : S 19 c ≠ 2) : IV (sset S 19 c v) := by
  obtain ⟨⟨hR, hi1, hi2, hi3, hi4, hi5, hi6, hi7⟩, hX⟩ := id hV
  have hco := hi1.2.2.1
  have r : ∀ k, (k != 19) = true → sset S 19 c v k = S k := fun k hk => sset_n _ _ _ (bne_iff_ne.mp hk)
  have hs : sset S 19 c v 19 c = v := sset_e _ _ _ _
  have ho : ∀ k, k ≠ c → sset S 19 c v 19 k = S 19 k := fun k hk => sset_o _ _ _ _ hk
  have q3 := hi3 c (Or.inl ⟨hc0, hc1⟩)
  have q4 := hi4 c hc0 hc1
  refine IV_c hV (fun k hk => r k ?_) (fun k j hk => ?_) (fun k hk => ?_) (fun k h0 hk => ?_) (fun j h0 hj => ?_) ?_ (fun p h0 hp => ?_) (fun a b a0 a1 b0 b1 hab ha => ?_) (fun a a0 a1 ha => ?_) (fun k k0 k1 => ?_)
  · simp only [Bool.and_eq_true, bne_iff_ne] at hk ⊢
    omega
  · by_cases z : k = 19 ∧ j = c
    · obtain ⟨rfl, rfl⟩ := z
      rw [hs]; unfold R32; omega
    · unfold sset
      rw [if_neg z]
      exact hR k j hk
  · rw [r 14 rfl, r 15 rfl, r 16 rfl, r 17 rfl, r 18 rfl]
    have q := hi3 k hk
    omega
  · rw [r 21 rfl, r 14 rfl, r 15 rfl, r 18 rfl]
    by_cases z : k = c
    · subst z
      rw [hs]
      have q := hi4 k h0 hk
      omega
    · rw [ho k z]
      have q := hi4 k h0 hk
      omega
  · rw [r 24 rfl]
    exact hi6.2.2.2 j h0 hj
  · rw [memI_eq (r 7 rfl) (r 11 rfl) (r 14 rfl) (r 20 rfl)]
    exact hi7.2.2.2.2.1
  · rw [prcI_eq (r 7 rfl) (r 11 rfl) (r 15 rfl) (r 20 rfl)]
    exact hX.1 p h0 hp
  · rw [r 21 rfl] at ha ⊢
    exact hX.2.1 a b a0 a1 b0 b1 hab ha
  · rw [r 15 rfl]
    by_cases z : a = c
    · subst z
      exact hX.2.2.1 a a0 a1 hs9
    · rw [ho a z] at ha
      exact hX.2.2.1 a a0 a1 ha
  · rw [r 15 rfl]
    exact hX.2.2.2 k k0 k1
theorem IV_14 {S : gS} (hV : IV S) {c v : Int} (hc0 : 0 ≤ c) (hc1 : c < S 11 0) (hv0 : 0 ≤ v) (hv1 : v ≤ 10000) (hs9 : S 19 c ≠ 2) (hm : memI (sset S 14 c v) 0 ≤ 10000) : IV (sset S 14 c v) := by
  obtain ⟨⟨hR, hi1, hi2, hi3, hi4, hi5, hi6, hi7⟩, hX⟩ := id hV
  have hco := hi1.2.2.1
  have r : ∀ k, (k != 14) = true → sset S 14 c v k = S k := fun k hk => sset_n _ _ _ (bne_iff_ne.mp hk)
  have hs : sset S 14 c v 14 c = v := sset_e _ _ _ _
  have ho : ∀ k, k ≠ c → sset S 14 c v 14 k = S 14 k := fun k hk => sset_o _ _ _ _ hk
  have q3 := hi3 c (Or.inl ⟨hc0, hc1⟩)
  have q4 := hi4 c hc0 hc1
  refine IV_c hV (fun k hk => r k ?_) (fun k j hk => ?_) (fun k hk => ?_) (fun k h0 hk => ?_) (fun j h0 hj => ?_) ?_ (fun p h0 hp => ?_) (fun a b a0 a1 b0 b1 hab ha => ?_) (fun a a0 a1 ha => ?_) (fun k k0 k1 => ?_)
  · simp only [Bool.and_eq_true, bne_iff_ne] at hk ⊢
    omega
  · by_cases z : k = 14 ∧ j = c
    · obtain ⟨rfl, rfl⟩ := z
      rw [hs]; unfold R32; omega
    · unfold sset
      rw [if_neg z]
      exact hR k j hk
  · rw [r 15 rfl, r 16 rfl, r 17 rfl, r 18 rfl]
    by_cases z : k = c
    · subst z
      rw [hs]
      have q := hi3 k hk
      omega
    · rw [ho k z]
      have q := hi3 k hk
      omega
  · rw [r 19 rfl, r 21 rfl, r 15 rfl, r 18 rfl]
    by_cases z : k = c
    · subst z
      rw [hs]
      have q := hi4 k h0 hk
      omega
    · rw [ho k z]
      have q := hi4 k h0 hk
      omega
  · rw [r 24 rfl]
    exact hi6.2.2.2 j h0 hj
  · exact hm
  · rw [prcI_eq (r 7 rfl) (r 11 rfl) (r 15 rfl) (r 20 rfl)]
    exact hX.1 p h0 hp
  · rw [r 21 rfl] at ha ⊢
    exact hX.2.1 a b a0 a1 b0 b1 hab ha
  · rw [r 19 rfl] at ha
    rw [r 15 rfl]
    exact hX.2.2.1 a a0 a1 ha
  · rw [r 15 rfl]
    exact hX.2.2.2 k k0 k1
theorem IV_15 {S : gS} (hV : IV S) {c v : Int} (hc0 : 0 ≤ c) (hc1 : c < S 11 0) (hv0 : 1 ≤ v) (hv1 : v ≤ 100) (hs9 : S 19 c ≠ 2) (hp9 : ∀ p, 0 ≤ p → p < S 6 0 → prcI (sset S 15 c v) p ≤ S 9 p) : IV (sset S 15 c v) := by
  obtain ⟨⟨hR, hi1, hi2, hi3, hi4, hi5, hi6, hi7⟩, hX⟩ := id hV
  have hco := hi1.2.2.1
  have r : ∀ k, (k != 15) = true → sset S 15 c v k = S k := fun k hk => sset_n _ _ _ (bne_iff_ne.mp hk)
  have hs : sset S 15 c v 15 c = v := sset_e _ _ _ _
  have ho : ∀ k, k ≠ c → sset S 15 c v 15 k = S 15 k := fun k hk => sset_o _ _ _ _ hk
  have q3 := hi3 c (Or.inl ⟨hc0, hc1⟩)
  have q4 := hi4 c hc0 hc1
  refine IV_c hV (fun k hk => r k ?_) (fun k j hk => ?_) (fun k hk => ?_) (fun k h0 hk => ?_) (fun j h0 hj => ?_) ?_ (fun p h0 hp => ?_) (fun a b a0 a1 b0 b1 hab ha => ?_) (fun a a0 a1 ha => ?_) (fun k k0 k1 => ?_)
  · simp only [Bool.and_eq_true, bne_iff_ne] at hk ⊢
    omega
  · by_cases z : k = 15 ∧ j = c
    · obtain ⟨rfl, rfl⟩ := z
      rw [hs]; unfold R32; omega
    · unfold sset
      rw [if_neg z]
      exact hR k j hk
  · rw [r 14 rfl, r 16 rfl, r 17 rfl, r 18 rfl]
    by_cases z : k = c
    · subst z
      rw [hs]
      have q := hi3 k hk
      omega
    · rw [ho k z]
      have q := hi3 k hk
      omega
  · rw [r 19 rfl, r 21 rfl, r 14 rfl, r 18 rfl]
    by_cases z : k = c
    · subst z
      rw [hs]
      have q := hi4 k h0 hk
      omega
    · rw [ho k z]
      have q := hi4 k h0 hk
      omega
  · rw [r 24 rfl]
    exact hi6.2.2.2 j h0 hj
  · rw [memI_eq (r 7 rfl) (r 11 rfl) (r 14 rfl) (r 20 rfl)]
    exact hi7.2.2.2.2.1
  · exact hp9 p h0 hp
  · rw [r 21 rfl] at ha ⊢
    exact hX.2.1 a b a0 a1 b0 b1 hab ha
  · rw [r 19 rfl] at ha
    by_cases z : a = c
    · subst z
      rw [hs]; omega
    · rw [ho a z]
      exact hX.2.2.1 a a0 a1 ha
  · rw [ho _ (by omega)]
    exact hX.2.2.2 k k0 k1
theorem IV_16 {S : gS} (hV : IV S) {c v : Int} (hc0 : 0 ≤ c) (hc1 : c < S 11 0) (hv0 : 0 ≤ v) (hv1 : v ≤ 15) : IV (sset S 16 c v) := by
  obtain ⟨⟨hR, hi1, hi2, hi3, hi4, hi5, hi6, hi7⟩, hX⟩ := id hV
  have hco := hi1.2.2.1
  have r : ∀ k, (k != 16) = true → sset S 16 c v k = S k := fun k hk => sset_n _ _ _ (bne_iff_ne.mp hk)
  have hs : sset S 16 c v 16 c = v := sset_e _ _ _ _
  have ho : ∀ k, k ≠ c → sset S 16 c v 16 k = S 16 k := fun k hk => sset_o _ _ _ _ hk
  have q3 := hi3 c (Or.inl ⟨hc0, hc1⟩)
  have q4 := hi4 c hc0 hc1
  refine IV_c hV (fun k hk => r k ?_) (fun k j hk => ?_) (fun k hk => ?_) (fun k h0 hk => ?_) (fun j h0 hj => ?_) ?_ (fun p h0 hp => ?_) (fun a b a0 a1 b0 b1 hab ha => ?_) (fun a a0 a1 ha => ?_) (fun k k0 k1 => ?_)
  · simp only [Bool.and_eq_true, bne_iff_ne] at hk ⊢
    omega
  · by_cases z : k = 16 ∧ j = c
    · obtain ⟨rfl, rfl⟩ := z
      rw [hs]; unfold R32; omega
    · unfold sset
      rw [if_neg z]
      exact hR k j hk
  · rw [r 14 rfl, r 15 rfl, r 17 rfl, r 18 rfl]
    by_cases z : k = c
    · subst z
      rw [hs]
      have q := hi3 k hk
      omega
    · rw [ho k z]
      have q := hi3 k hk
      omega
  · rw [r 19 rfl, r 21 rfl, r 14 rfl, r 15 rfl, r 18 rfl]
    have q := hi4 k h0 hk
    omega
  · rw [r 24 rfl]
    exact hi6.2.2.2 j h0 hj
  · rw [memI_eq (r 7 rfl) (r 11 rfl) (r 14 rfl) (r 20 rfl)]
    exact hi7.2.2.2.2.1
  · rw [prcI_eq (r 7 rfl) (r 11 rfl) (r 15 rfl) (r 20 rfl)]
    exact hX.1 p h0 hp
  · rw [r 21 rfl] at ha ⊢
    exact hX.2.1 a b a0 a1 b0 b1 hab ha
  · rw [r 19 rfl] at ha
    rw [r 15 rfl]
    exact hX.2.2.1 a a0 a1 ha
  · rw [r 15 rfl]
    exact hX.2.2.2 k k0 k1
theorem IV_17 {S : gS} (hV : IV S) {c v : Int} (hc0 : 0 ≤ c) (hc1 : c < S 11 0) (hv0 : 0 ≤ v) (hv1 : v ≤ 15) : IV (sset S 17 c v) := by
  obtain ⟨⟨hR, hi1, hi2, hi3, hi4, hi5, hi6, hi7⟩, hX⟩ := id hV
  have hco := hi1.2.2.1
  have r : ∀ k, (k != 17) = true → sset S 17 c v k = S k := fun k hk => sset_n _ _ _ (bne_iff_ne.mp hk)
  have hs : sset S 17 c v 17 c = v := sset_e _ _ _ _
  have ho : ∀ k, k ≠ c → sset S 17 c v 17 k = S 17 k := fun k hk => sset_o _ _ _ _ hk
  have q3 := hi3 c (Or.inl ⟨hc0, hc1⟩)
  have q4 := hi4 c hc0 hc1
  refine IV_c hV (fun k hk => r k ?_) (fun k j hk => ?_) (fun k hk => ?_) (fun k h0 hk => ?_) (fun j h0 hj => ?_) ?_ (fun p h0 hp => ?_) (fun a b a0 a1 b0 b1 hab ha => ?_) (fun a a0 a1 ha => ?_) (fun k k0 k1 => ?_)
  · simp only [Bool.and_eq_true, bne_iff_ne] at hk ⊢
    omega
  · by_cases z : k = 17 ∧ j = c
    · obtain ⟨rfl, rfl⟩ := z
      rw [hs]; unfold R32; omega
    · unfold sset
      rw [if_neg z]
      exact hR k j hk
  · rw [r 14 rfl, r 15 rfl, r 16 rfl, r 18 rfl]
    by_cases z : k = c
    · subst z
      rw [hs]
      have q := hi3 k hk
      omega
    · rw [ho k z]
      have q := hi3 k hk
      omega
  · rw [r 19 rfl, r 21 rfl, r 14 rfl, r 15 rfl, r 18 rfl]
    have q := hi4 k h0 hk
    omega
  · rw [r 24 rfl]
    exact hi6.2.2.2 j h0 hj
  · rw [memI_eq (r 7 rfl) (r 11 rfl) (r 14 rfl) (r 20 rfl)]
    exact hi7.2.2.2.2.1
  · rw [prcI_eq (r 7 rfl) (r 11 rfl) (r 15 rfl) (r 20 rfl)]
    exact hX.1 p h0 hp
  · rw [r 21 rfl] at ha ⊢
    exact hX.2.1 a b a0 a1 b0 b1 hab ha
  · rw [r 19 rfl] at ha
    rw [r 15 rfl]
    exact hX.2.2.1 a a0 a1 ha
  · rw [r 15 rfl]
    exact hX.2.2.2 k k0 k1
theorem IV_18 {S : gS} (hV : IV S) {c v : Int} (hc0 : 0 ≤ c) (hc1 : c < S 11 0) (hv0 : 0 ≤ v) (hv1 : v ≤ 65535) (hs9 : S 19 c ≠ 2) : IV (sset S 18 c v) := by
  obtain ⟨⟨hR, hi1, hi2, hi3, hi4, hi5, hi6, hi7⟩, hX⟩ := id hV
  have hco := hi1.2.2.1
  have r : ∀ k, (k != 18) = true → sset S 18 c v k = S k := fun k hk => sset_n _ _ _ (bne_iff_ne.mp hk)
  have hs : sset S 18 c v 18 c = v := sset_e _ _ _ _
  have ho : ∀ k, k ≠ c → sset S 18 c v 18 k = S 18 k := fun k hk => sset_o _ _ _ _ hk
  have q3 := hi3 c (Or.inl ⟨hc0, hc1⟩)
  have q4 := hi4 c hc0 hc1
  refine IV_c hV (fun k hk => r k ?_) (fun k j hk => ?_) (fun k hk => ?_) (fun k h0 hk => ?_) (fun j h0 hj => ?_) ?_ (fun p h0 hp => ?_) (fun a b a0 a1 b0 b1 hab ha => ?_) (fun a a0 a1 ha => ?_) (fun k k0 k1 => ?_)
  · simp only [Bool.and_eq_true, bne_iff_ne] at hk ⊢
    omega
  · by_cases z : k = 18 ∧ j = c
    · obtain ⟨rfl, rfl⟩ := z
      rw [hs]; unfold R32; omega
    · unfold sset
      rw [if_neg z]
      exact hR k j hk
  · rw [r 14 rfl, r 15 rfl, r 16 rfl, r 17 rfl]
    by_cases z : k = c
    · subst z
      rw [hs]
      have q := hi3 k hk
      omega
    · rw [ho k z]
      have q := hi3 k hk
      omega
  · rw [r 19 rfl, r 21 rfl, r 14 rfl, r 15 rfl]
    by_cases z : k = c
    · subst z
      rw [hs]
      have q := hi4 k h0 hk
      omega
    · rw [ho k z]
      have q := hi4 k h0 hk
      omega
  · rw [r 24 rfl]
    exact hi6.2.2.2 j h0 hj
  · rw [memI_eq (r 7 rfl) (r 11 rfl) (r 14 rfl) (r 20 rfl)]
    exact hi7.2.2.2.2.1
  · rw [prcI_eq (r 7 rfl) (r 11 rfl) (r 15 rfl) (r 20 rfl)]
    exact hX.1 p h0 hp
  · rw [r 21 rfl] at ha ⊢
    exact hX.2.1 a b a0 a1 b0 b1 hab ha
  · rw [r 19 rfl] at ha
    rw [r 15 rfl]
    exact hX.2.2.1 a a0 a1 ha
  · rw [r 15 rfl]
    exact hX.2.2.2 k k0 k1
theorem IV_21 {S : gS} (hV : IV S) {c v : Int} (hc0 : 0 ≤ c) (hc1 : c < S 11 0) (hs9 : S 19 c ≠ 2) (hv : v = -1 ∨ (0 ≤ v ∧ v < 40 ∧ 1 ≤ v % 10 ∧ v % 10 ≤ 6)) (hu : v = -1 ∨ ∀ k, 0 ≤ k → k < S 11 0 → S 21 k ≠ v) : IV (sset S 21 c v) := by
  obtain ⟨⟨hR, hi1, hi2, hi3, hi4, hi5, hi6, hi7⟩, hX⟩ := id hV
  have hco := hi1.2.2.1
  have r : ∀ k, (k != 21) = true → sset S 21 c v k = S k := fun k hk => sset_n _ _ _ (bne_iff_ne.mp hk)
  have hs : sset S 21 c v 21 c = v := sset_e _ _ _ _
  have ho : ∀ k, k ≠ c → sset S 21 c v 21 k = S 21 k := fun k hk => sset_o _ _ _ _ hk
  have q3 := hi3 c (Or.inl ⟨hc0, hc1⟩)
  have q4 := hi4 c hc0 hc1
  refine IV_c hV (fun k hk => r k ?_) (fun k j hk => ?_) (fun k hk => ?_) (fun k h0 hk => ?_) (fun j h0 hj => ?_) ?_ (fun p h0 hp => ?_) (fun a b a0 a1 b0 b1 hab ha => ?_) (fun a a0 a1 ha => ?_) (fun k k0 k1 => ?_)
  · simp only [Bool.and_eq_true, bne_iff_ne] at hk ⊢
    omega
  · by_cases z : k = 21 ∧ j = c
    · obtain ⟨rfl, rfl⟩ := z
      rw [hs]; unfold R32; omega
    · unfold sset
      rw [if_neg z]
      exact hR k j hk
  · rw [r 14 rfl, r 15 rfl, r 16 rfl, r 17 rfl, r 18 rfl]
    have q := hi3 k hk
    omega
  · rw [r 19 rfl, r 14 rfl, r 15 rfl, r 18 rfl]
    by_cases z : k = c
    · subst z
      rw [hs]
      have q := hi4 k h0 hk
      omega
    · rw [ho k z]
      have q := hi4 k h0 hk
      omega
  · rw [r 24 rfl]
    exact hi6.2.2.2 j h0 hj
  · rw [memI_eq (r 7 rfl) (r 11 rfl) (r 14 rfl) (r 20 rfl)]
    exact hi7.2.2.2.2.1
  · rw [prcI_eq (r 7 rfl) (r 11 rfl) (r 15 rfl) (r 20 rfl)]
    exact hX.1 p h0 hp
  · by_cases z : a = c
    · subst z
      rw [hs] at ha ⊢
      rw [ho b (fun w => hab w.symm)]
      exact fun w => (hu.resolve_left ha) b b0 b1 w.symm
    · rw [ho a z] at ha ⊢
      by_cases y : b = c
      · subst y
        rw [hs]
        intro w
        exact (hu.resolve_left (fun x => ha (by rw [w, x]))) a a0 a1 w
      · rw [ho b y]
        exact hX.2.1 a b a0 a1 b0 b1 hab ha
  · rw [r 19 rfl] at ha
    rw [r 15 rfl]
    exact hX.2.2.1 a a0 a1 ha
  · rw [r 15 rfl]
    exact hX.2.2.2 k k0 k1
