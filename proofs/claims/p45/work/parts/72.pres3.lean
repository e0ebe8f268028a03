theorem memN_own {S : gS} (hI : Inv S) {c : Int} (hc0 : 0 ≤ c) : ∀ n : Nat, (n : Int) ≤ S 11 0 → c < n → S 14 c ≤ memN S 0 n := by
  intro n
  induction n with
  | zero => intro a b; omega
  | succ n ih =>
    intro a b
    have hb := memN_b hI 0 n (by omega)
    have h4 := (hI.2.2.2.2.1 n (by omega) (by omega)).2.1
    have h3 := (hI.2.2.2.1 n (Or.inl ⟨by omega, by omega⟩)).2.2.1
    have hr := bel_root hI.2.2.1 hI.2.1 (S 20 n + 1).toNat (S 20 n) (by omega) h4.1 h4.2
    unfold memN
    rw [if_pos hr]
    by_cases z : c = n
    · subst z; omega
    · have := ih (by omega) (by omega)
      omega
theorem own14 {S : gS} (hV : IV S) {c : Int} (hc0 : 0 ≤ c) (hc1 : c < S 11 0) {v : Int} (h : memI S 0 + (v - S 14 c) ≤ 10000) : v ≤ 10000 := by
  have h11 := hV.1.2.1.2.2.1
  have := memN_own hV.1 hc0 (S 11 0).toNat (by omega) (by omega)
  unfold memI at h
  omega
theorem i_publish {S : gS} {c p k : Int} (hV : IV S) (h : cd_publish S c p k = 0) : IV (st_publish S c p k) := by
  have q : 0 ≤ c ∧ c < S 11 0 ∧ 0 ≤ p ∧ p < 16 ∧ 0 ≤ k ∧ k < 32 := by unfold cd_publish at h; (repeat' split at h) <;> omega
  obtain ⟨⟨hR, hi1, hi2, hi3, hi4, hi5, hi6, hi7⟩, hX⟩ := id hV
  have h11 := hi1.2.2.1
  have r : ∀ a, (a != 24 && a != 25) = true → st_publish S c p k a = S a := fun a ha => by
    simp only [Bool.and_eq_true, bne_iff_ne] at ha
    unfold st_publish
    rw [sset_n _ _ _ ha.2, sset_n _ _ _ ha.1]
  refine IV_c hV (fun a ha => r a ?_) (fun a j ha => ?_) (fun a ha => ?_) (fun a h0 ha => ?_) (fun j h0 hj => ?_) ?_ (fun g h0 hg => ?_) ?_ ?_ ?_
  · simp only [Bool.and_eq_true, bne_iff_ne] at ha ⊢
    omega
  · unfold st_publish sset
    have := hR a j ha
    split
    · unfold R32; omega
    · split
      · unfold R32; omega
      · exact this
  · rw [r 14 rfl, r 15 rfl, r 16 rfl, r 17 rfl, r 18 rfl]
    exact (hi3 a ha).2.2
  · rw [r 19 rfl, r 21 rfl, r 14 rfl, r 15 rfl, r 18 rfl]
    have w := hi4 a h0 ha
    exact ⟨w.1, w.2.2⟩
  · unfold st_publish
    rw [sset_n _ _ _ (by decide)]
    by_cases z : j = k
    · subst z; rw [sset_e]; omega
    · rw [sset_o _ _ _ _ z]; exact hi6.2.2.2 j h0 hj
  · rw [memI_eq (r 7 rfl) (r 11 rfl) (r 14 rfl) (r 20 rfl)]
    exact hi7.2.2.2.2.1
  · rw [prcI_eq (r 7 rfl) (r 11 rfl) (r 15 rfl) (r 20 rfl)]
    exact hX.1 g h0 hg
  · rw [r 21 rfl]; exact hX.2.1
  · rw [r 19 rfl, r 15 rfl]; exact hX.2.2.1
  · rw [r 15 rfl]; exact hX.2.2.2
/-- a new image -/
theorem IV_img {S T : gS} {n p b : Int} (hV : IV S) (hn : n = S 3 0) (hn1 : n < 10) (e : ∀ k, (k != 1 && k != 2 && k != 3 && k != 4 && k != 5) = true → T k = S k) (e3 : T 3 = fset (S 3) 0 (n + 1)) (e4 : T 4 = fset (S 4) n p) (e5 : T 5 = fset (S 5) n b) (hb : b = 0 ∨ b = 1) (h1 : ∀ j, -1 ≤ T 1 j ∧ T 1 j ≤ 999) (h2 : ∀ j, 0 ≤ T 2 j ∧ T 2 j ≤ 255) (hp0 : -1 ≤ p) (hp1 : p < n) (hp5 : 0 ≤ p → S 5 p = 1) (hl : lay S p < 8) : IV T := by
  obtain ⟨⟨hR, hi1, hi2, hi3, hi4, hi5, hi6, hi7⟩, hX⟩ := id hV
  have h3 := hi1.1
  have e30 : T 3 0 = n + 1 := by rw [e3]; exact if_pos rfl
  have e4n : T 4 n = p := by rw [e4]; exact if_pos rfl
  have e4o : ∀ j, j ≠ n → T 4 j = S 4 j := fun j hj => by rw [e4]; exact if_neg hj
  have e5o : ∀ j, j ≠ n → T 5 j = S 5 j := fun j hj => by rw [e5]; exact if_neg hj
  refine ⟨⟨fun k j hk => ?_, ⟨by rw [e30]; omega, by rw [e 6 rfl]; exact hi1.2.1, by rw [e 11 rfl]; exact hi1.2.2.1, by rw [e 23 rfl]; exact hi1.2.2.2⟩, ⟨fun k k0 k1 => ?_, by rw [e 7 rfl]; exact hi2.2.1, by rw [e 7 rfl, e 6 rfl]; exact hi2.2.2⟩, fun k hk => ?_, fun k h0 hk => ?_, hi5.c (e 6 rfl) (e 8 rfl) (e 9 rfl) (e 10 rfl), ⟨h1, h2, fun j => ?_, by rw [e 24 rfl, e 11 rfl]; exact hi6.2.2.2⟩, ⟨fun k h0 hk => ?_, fun k hk => ?_, by rw [e 8 rfl]; exact hi7.2.2.1, by rw [e 9 rfl]; exact hi7.2.2.2.1, by rw [memI_eq (e 7 rfl) (e 11 rfl) (e 14 rfl) (e 20 rfl)]; exact hi7.2.2.2.2.1, by rw [prcI_eq (e 7 rfl) (e 11 rfl) (e 15 rfl) (e 20 rfl)]; exact hi7.2.2.2.2.2⟩⟩, fun g h0 hg => ?_, by rw [e 11 rfl, e 21 rfl]; exact hX.2.1, by rw [e 11 rfl, e 19 rfl, e 15 rfl]; exact hX.2.2.1, by rw [e 23 rfl, e 15 rfl]; exact hX.2.2.2⟩
  · by_cases a1 : k = 1
    · subst a1; have := h1 j; unfold R32; omega
    · by_cases a2 : k = 2
      · subst a2; have := h2 j; unfold R32; omega
      · by_cases a3 : k = 3
        · subst a3; rw [e3]; have := hR 3 j (by decide); unfold fset; split <;> first | exact this | (unfold R32; omega)
        · by_cases a4 : k = 4
          · subst a4; rw [e4]; have := hR 4 j (by decide); unfold fset; split <;> first | exact this | (unfold R32; omega)
          · by_cases a5 : k = 5
            · subst a5; rw [e5]; have := hR 5 j (by decide); unfold fset; split <;> first | exact this | (unfold R32; omega)
            · rw [e k (by simp only [Bool.and_eq_true, bne_iff_ne]; omega)]; exact hR k j hk
  · rw [e30] at k1
    by_cases z : k = n
    · rw [z, e4n]; omega
    · rw [e4o k z]; exact hi2.1 k k0 (by omega)
  · rw [isCK.eq (e 11 rfl) (e 23 rfl)] at hk
    rw [e 12 rfl, e 13 rfl, e 14 rfl, e 15 rfl, e 16 rfl, e 17 rfl, e 18 rfl, e30]
    have w := hi3 k hk
    exact ⟨⟨w.1.1, by omega⟩, w.2⟩
  · rw [e 11 rfl] at hk
    rw [e 19 rfl, e 20 rfl, e 21 rfl, e 6 rfl, e 14 rfl, e 15 rfl, e 18 rfl]
    exact hi4 k h0 hk
  · rw [e5]
    have := hi6.2.2.1 j
    unfold fset
    split <;> omega
  · rw [e30] at hk
    by_cases z : k = n
    · rw [z, lay_new hi2 hn (by omega) e4 hp0 hp1, e4n]
      exact ⟨by omega, fun w => by rw [e5o _ (by omega)]; exact hp5 w⟩
    · have w := hi7.1 k h0 (by omega)
      have w2 := hi2.1 k h0 (by omega)
      rw [lay_push hi2 hn e4 k (by omega) (by omega), e4o k z]
      exact ⟨w.1, fun y => by rw [e5o _ (by omega)]; exact w.2 y⟩
  · rw [isCK.eq (e 11 rfl) (e 23 rfl)] at hk
    have w := (hi3 k hk).1
    rw [e 12 rfl, e5o _ (by omega)]
    exact hi7.2.1 k hk
  · rw [e 6 rfl] at hg
    rw [prcI_eq (e 7 rfl) (e 11 rfl) (e 15 rfl) (e 20 rfl), e 9 rfl]
    exact hX.1 g h0 hg
theorem i_newImage {S : gS} {p : Int} (hV : IV S) (h : cd_newImage S p = 0) : IV (st_newImage S p) := by
  have h3 := hV.1.2.1.1
  have h6 := hV.1.2.2.2.2.2.2.1
  have q : (p = -1 ∨ (0 ≤ p ∧ p < S 3 0)) ∧ (p = -1 ∨ (S 5 p = 1 ∧ lay S p < 8)) ∧ S 3 0 < 10 := by unfold cd_newImage at h; (repeat' split at h) <;> omega
  have hl : lay S p < 8 := by
    rcases q.2.1 with z | z
    · rw [z, lay_m1]; omega
    · exact z.2
  unfold st_newImage
  refine IV_img (n := S 3 0) (p := p) (b := 0) hV rfl q.2.2 (fun k hk => ?_) ?_ ?_ ?_ (Or.inl rfl) (fun j => ?_) (fun j => ?_) (by omega) (by omega) (fun _ => by omega) hl
  · simp only [Bool.and_eq_true, bne_iff_ne] at hk
    rw [sset_n _ _ _ (by omega), ez_r _ _ (by omega) (by omega), sset_n _ _ _ (by omega), sset_n _ _ _ (by omega)]
  · rw [sset_s, ez_r _ _ (by decide) (by decide), sset_n _ _ _ (by decide), sset_n _ _ _ (by decide)]
  · rw [sset_n _ _ _ (by decide), ez_r _ _ (by decide) (by decide), sset_n _ _ _ (by decide), sset_s]
  · rw [sset_n _ _ _ (by decide), ez_r _ _ (by decide) (by decide), sset_s, sset_n _ _ _ (by decide)]
  · rw [sset_n _ _ _ (by decide)]
    unfold ez
    (repeat' split)
    · omega
    · omega
    · exact h6.1 j
  · rw [sset_n _ _ _ (by decide)]
    unfold ez
    (repeat' split)
    · omega
    · omega
    · exact h6.2.1 j
theorem i_commit {S : gS} {c : Int} (hV : IV S) (h : cd_commit S c = 0) : IV (st_commit S c) := by
  have h3 := hV.1.2.1.1
  have h6 := hV.1.2.2.2.2.2.2.1
  have q : 0 ≤ c ∧ c < S 11 0 ∧ lay S (S 12 c) ≠ 8 ∧ S 3 0 ≠ 10 := by unfold cd_commit at h; (repeat' split at h) <;> omega
  have q3 := (hV.1.2.2.2.1 c (Or.inl ⟨q.1, q.2.1⟩)).1
  have q7 := hV.1.2.2.2.2.2.2.2.2.1 c (Or.inl ⟨q.1, q.2.1⟩)
  have hl := lay_8 hV.1 q3.1 q3.2
  unfold st_commit
  refine IV_img (n := S 3 0) (p := S 12 c) (b := 1) hV rfl (by omega) (fun k hk => ?_) ?_ ?_ ?_ (Or.inr rfl) (fun j => ?_) (fun j => ?_) (by omega) (by omega) (fun _ => q7) (by omega)
  · simp only [Bool.and_eq_true, bne_iff_ne] at hk
    rw [sset_n _ _ _ (by omega), cz_rr _ _ _ (by omega) (by omega), sset_n _ _ _ (by omega), sset_n _ _ _ (by omega)]
  · rw [sset_s, cz_rr _ _ _ (by decide) (by decide), sset_n _ _ _ (by decide), sset_n _ _ _ (by decide)]
  · rw [sset_n _ _ _ (by decide), cz_rr _ _ _ (by decide) (by decide), sset_n _ _ _ (by decide), sset_s]
  · rw [sset_n _ _ _ (by decide), cz_rr _ _ _ (by decide) (by decide), sset_s, sset_n _ _ _ (by decide)]
  · rw [sset_n _ _ _ (by decide)]
    unfold cz
    (repeat' split)
    · exact absurd (by assumption : 1 = 2 ∧ _).1 (by decide)
    · exact h6.1 _
    · exact h6.1 j
  · rw [sset_n _ _ _ (by decide)]
    unfold cz
    (repeat' split)
    · exact h6.2.1 _
    · exact absurd (by assumption : 2 = 1 ∧ _).1 (by decide)
    · exact h6.2.1 j
theorem i_newGroup {S : gS} {p m r s : Int} (hV : IV S) (h : cd_newGroup S p m r s = 0) : IV (st_newGroup S p m r s) := by
  obtain ⟨⟨hR, hi1, hi2, hi3, hi4, hi5, hi6, hi7⟩, hX⟩ := id hV
  have h6 := hi1.2.1
  have q : (0 ≤ p ∧ p < S 6 0) ∧ (1 ≤ m ∧ m ≤ 10000 ∧ 1 ≤ r ∧ r ≤ 100 ∧ 1 ≤ s ∧ s ≤ 100) ∧ S 6 0 ≠ 8 := by unfold cd_newGroup at h; (repeat' split at h) <;> omega
  have e : ∀ k, (k != 6 && k != 7 && k != 8 && k != 9 && k != 10) = true → st_newGroup S p m r s k = S k := fun k hk => by
    simp only [Bool.and_eq_true, bne_iff_ne] at hk
    unfold st_newGroup
    rw [sset_n _ _ _ (by omega), sset_n _ _ _ (by omega), sset_n _ _ _ (by omega), sset_n _ _ _ (by omega), sset_n _ _ _ (by omega)]
  have e6 : st_newGroup S p m r s 6 = fset (S 6) 0 (S 6 0 + 1) := by
    unfold st_newGroup
    rw [sset_s, sset_n _ _ _ (by decide), sset_n _ _ _ (by decide), sset_n _ _ _ (by decide), sset_n _ _ _ (by decide)]
  have e7 : st_newGroup S p m r s 7 = fset (S 7) (S 6 0) p := by
    unfold st_newGroup
    rw [sset_n _ _ _ (by decide), sset_n _ _ _ (by decide), sset_n _ _ _ (by decide), sset_n _ _ _ (by decide), sset_s]
  have e8 : st_newGroup S p m r s 8 = fset (S 8) (S 6 0) m := by
    unfold st_newGroup
    rw [sset_n _ _ _ (by decide), sset_n _ _ _ (by decide), sset_n _ _ _ (by decide), sset_s, sset_n _ _ _ (by decide)]
  have e9 : st_newGroup S p m r s 9 = fset (S 9) (S 6 0) r := by
    unfold st_newGroup
    rw [sset_n _ _ _ (by decide), sset_n _ _ _ (by decide), sset_s, sset_n _ _ _ (by decide), sset_n _ _ _ (by decide)]
  have e10 : st_newGroup S p m r s 10 = fset (S 10) (S 6 0) s := by
    unfold st_newGroup
    rw [sset_n _ _ _ (by decide), sset_s, sset_n _ _ _ (by decide), sset_n _ _ _ (by decide), sset_n _ _ _ (by decide)]
  generalize st_newGroup S p m r s = T at *
  have e60 : T 6 0 = S 6 0 + 1 := by rw [e6]; exact if_pos rfl
  have o : ∀ {k : Nat} {n v : Int}, T k = fset (S k) n v → ∀ j, j ≠ n → T k j = S k j := fun ek j hj => by rw [ek]; exact if_neg hj
  have nn : ∀ {k : Nat} {n v : Int}, T k = fset (S k) n v → T k n = v := fun ek => by rw [ek]; exact if_pos rfl
  have hm := fun g => mem_push hV.1 (T := T) rfl e7 (e 11 rfl) (e 14 rfl) (e 15 rfl) (e 20 rfl) g
  have hmn := mem_new hV.1 (n := S 6 0) rfl
  refine ⟨⟨fun k j hk => ?_, ⟨by rw [e 3 rfl]; exact hi1.1, by rw [e60]; omega, by rw [e 11 rfl]; exact hi1.2.2.1, by rw [e 23 rfl]; exact hi1.2.2.2⟩, ⟨by rw [e 3 rfl, e 4 rfl]; exact hi2.1, by rw [o e7 0 (by omega)]; exact hi2.2.1, fun k k0 k1 => ?_⟩, fun k hk => ?_, fun k h0 hk => ?_, ⟨fun k k0 k1 => ?_, fun k k0 k1 => ?_⟩, ⟨by rw [e 1 rfl]; exact hi6.1, by rw [e 2 rfl]; exact hi6.2.1, by rw [e 5 rfl]; exact hi6.2.2.1, by rw [e 24 rfl, e 11 rfl]; exact hi6.2.2.2⟩, ⟨fun k h0 hk => ?_, fun k hk => ?_, by rw [o e8 0 (by omega)]; exact hi7.2.2.1, by rw [o e9 0 (by omega)]; exact hi7.2.2.2.1, by rw [(hm 0).1]; exact hi7.2.2.2.2.1, by rw [(hm 0).2]; exact hi7.2.2.2.2.2⟩⟩, fun g h0 hg => ?_, by rw [e 11 rfl, e 21 rfl]; exact hX.2.1, by rw [e 11 rfl, e 19 rfl, e 15 rfl]; exact hX.2.2.1, by rw [e 23 rfl, e 15 rfl]; exact hX.2.2.2⟩
  · have w : ∀ {k : Nat} {n v : Int}, k ≠ 22 → T k = fset (S k) n v → R32 v → R32 (T k j) := fun hk ek hv => by
      have := hR _ j hk
      rw [ek]; unfold fset
      split
      · exact hv
      · exact this
    by_cases a6 : k = 6
    · subst a6; exact w (by decide) e6 (by unfold R32; omega)
    · by_cases a7 : k = 7
      · subst a7; exact w (by decide) e7 (by unfold R32; omega)
      · by_cases a8 : k = 8
        · subst a8; exact w (by decide) e8 (by unfold R32; omega)
        · by_cases a9 : k = 9
          · subst a9; exact w (by decide) e9 (by unfold R32; omega)
          · by_cases a10 : k = 10
            · subst a10; exact w (by decide) e10 (by unfold R32; omega)
            · rw [e k (by simp only [Bool.and_eq_true, bne_iff_ne]; omega)]; exact hR k j hk
  · rw [e60] at k1
    by_cases z : k = S 6 0
    · rw [z, nn e7]; omega
    · rw [o e7 k z]; exact hi2.2.2 k k0 (by omega)
  · rw [isCK.eq (e 11 rfl) (e 23 rfl)] at hk
    rw [e 12 rfl, e 13 rfl, e 14 rfl, e 15 rfl, e 16 rfl, e 17 rfl, e 18 rfl, e 3 rfl]
    exact hi3 k hk
  · rw [e 11 rfl] at hk
    rw [e 19 rfl, e 20 rfl, e 21 rfl, e60, e 14 rfl, e 15 rfl, e 18 rfl]
    have w := hi4 k h0 hk
    exact ⟨w.1, ⟨w.2.1.1, by omega⟩, w.2.2⟩
  · rw [e60] at k1
    by_cases z : k = S 6 0
    · rw [z, nn e8, nn e9]; omega
    · rw [o e8 k z, o e9 k z]; exact hi5.1 k k0 (by omega)
  · rw [e60] at k1
    by_cases z : k = S 6 0
    · rw [z, nn e10]; omega
    · rw [o e10 k z]; exact hi5.2 k k0 (by omega)
  · rw [e 3 rfl] at hk
    rw [lay_congr (e 4 rfl), e 4 rfl, e 5 rfl]
    exact hi7.1 k h0 hk
  · rw [isCK.eq (e 11 rfl) (e 23 rfl)] at hk
    rw [e 12 rfl, e 5 rfl]
    exact hi7.2.1 k hk
  · rw [e60] at hg
    rw [(hm g).2]
    by_cases z : g = S 6 0
    · rw [z, hmn.2, nn e9]; omega
    · rw [o e9 g z]; exact hX.1 g h0 (by omega)
theorem i_schedule {S : gS} {u : Int} (hV : IV S) (h : cd_schedule S u = 0) : IV (st_schedule S u) := by
  have q : 1 ≤ u ∧ u ≤ 10000 := by unfold cd_schedule at h; (repeat' split at h) <;> omega
  have hi1 := hV.1.2.1
  unfold Inv1 at hi1
  have hIs := sg_I (n := 8) hV.1 (show R32 u by unfold R32; omega)
  have hgs := sg_g hV.1 q.1 q.2
  have hsI := sch_I hIs hgs (S 6 0).toNat (by show ((S 6 0).toNat : Int) ≤ sg S u 8 6 0; rw [show sg S u 8 6 0 = S 6 0 from rfl]; omega)
  have hEq : sEq S (st_schedule S u) := (sg_eq S u 8).trans hsI.2.2
  have e : ∀ k, (k != 22 && k != 26 && k != 27) = true → st_schedule S u k = S k := fun k hk => by
    simp only [Bool.and_eq_true, bne_iff_ne] at hk
    exact hEq k hk.1.1 hk.1.2 hk.2
  have hX := hV.2
  refine ⟨hsI.1, fun p h0 hp => ?_, by rw [e 11 rfl, e 21 rfl]; exact hX.2.1, by rw [e 11 rfl, e 19 rfl, e 15 rfl]; exact hX.2.2.1, by rw [e 23 rfl, e 15 rfl]; exact hX.2.2.2⟩
  rw [e 6 rfl] at hp
  rw [prcI_eq (e 7 rfl) (e 11 rfl) (e 15 rfl) (e 20 rfl), e 9 rfl]
  exact hX.1 p h0 hp
theorem alK_end {c u : Int} (hc0 : 0 ≤ c) : ∀ (n : Nat) {S : gS}, IV S → c < S 11 0 → (S 19 c = 0 ∨ S 19 c = 2) → ns S < n → alK c u n S 19 c ≠ 2 → tm (alK c u n S) (alK c u n S 20 c) u 0 = -1 := by
  intro n
  induction n with
  | zero => intro S a b d e; omega
  | succ n ih =>
    intro S a b d e
    unfold alK
    split
    · rename_i q
      have hv := vict a.1 hc0 b q.2 q.1
      have hs := ns_stp a.1.2.1 hv.2.2.1 hv.2.2.2.1 hv.2.2.2.2
      refine ih (i_stp a hv.2.2.1 hv.2.2.2.1) (by rw [stp_row (by decide) (by decide) (by decide) (by decide) (by decide) (by decide)]; exact b) ?_ (by omega)
      by_cases qc : c = gre S (tm S (S 20 c) u 0)
      · have hw9 : ∀ w, c = w → stp S w 19 c = 2 := fun w hw => by rw [hw]; exact (stp_c S w).2.2.2.1
        exact Or.inr (hw9 _ qc)
      · rw [(stp_n S qc).2.2.2.1]
        exact d
    · rename_i q
      intro hs
      rcases (by omega : tm S (S 20 c) u 0 = -1 ∨ tm S (S 20 c) u 0 ≠ -1) with y | y
      · exact y
      · exact absurd ⟨y, by omega⟩ q
theorem i_allocate {S : gS} {c u : Int} (hV : IV S) (h : cd_allocate S c u = 0) : IV (st_allocate S c u) := by
  have q : 0 ≤ c ∧ c < S 11 0 ∧ 1 ≤ u ∧ u ≤ 5000 ∧ S 19 c = 0 := by unfold cd_allocate at h; (repeat' split at h) <;> omega
  have h11 := hV.1.2.1.2.2.1
  have hv := alK_inv (u := u) q.1 21 hV.1 hV.2 q.2.1 (Or.inl q.2.2.2.2)
  unfold st_allocate
  have hVT : IV (alS S c u) := ⟨hv.1, hv.2.1⟩
  split
  · exact hVT
  · rename_i z
    have ht : tm (alS S c u) (alS S c u 20 c) u 0 = -1 := alK_end q.1 21 hV q.2.1 (Or.inl q.2.2.2.2) (by have := nsN_b S (S 11 0).toNat; unfold ns; omega) z
    have hcT : c < alS S c u 11 0 := hv.2.2.1
    generalize alS S c u = T at *
    have q3 := (hVT.1.2.2.2.1 c (Or.inl ⟨q.1, hcT⟩)).2.2.1
    have q4 := (hVT.1.2.2.2.2.1 c q.1 hcT).2.1
    have h6 := hVT.1.2.1.2.1
    have e := memI_up (S' := sset T 14 c (T 14 c + u)) hVT.1.2.1 (sset_n _ _ _ (by decide)) (sset_n _ _ _ (by decide)) (sset_n _ _ _ (by decide)) 0 q.1 hcT (fun k hk => sset_o _ _ _ _ hk)
    have hb := bel_root hVT.1.2.2.1 hVT.1.2.1 (T 20 c + 1).toNat (T 20 c) (by omega) q4.1 q4.2
    have hall := tm_all hVT.1.2.2.1 hVT.1.2.1 u 0 (Int.le_refl 0) (T 20 c + 1).toNat (T 20 c) (by omega) (by omega) q4.2 ht hb
    rw [hVT.1.2.2.2.2.2.2.2.2.2.1] at hall
    rw [sset_e, if_pos hb] at e
    refine IV_14 hVT q.1 hcT (by omega) ?_ z (by omega)
    exact own14 hVT q.1 hcT (by omega)
