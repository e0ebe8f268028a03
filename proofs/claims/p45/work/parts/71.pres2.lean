theorem stp_e15 {S : gS} {c v : Int} : stp (sset S 15 c v) c = stp S c := by
  funext a j
  unfold stp stq
  by_cases h1 : (a = 14 ∨ a = 15 ∨ a = 18) ∧ j = c
  · rw [if_pos h1, if_pos h1]
  · rw [if_neg h1, if_neg h1]
    rw [sset_n S (k := 15) (a := 24) c v (by decide)]
    by_cases h2 : a = 15
    · subst h2
      have hj : j ≠ c := fun z => h1 ⟨Or.inr (Or.inl rfl), z⟩
      rw [sset_o S 15 v 15 hj]
    · rw [sset_n S c v h2]
theorem prcN_own {S : gS} (hI : Inv S) {c : Int} (hc0 : 0 ≤ c) : ∀ n : Nat, (n : Int) ≤ S 11 0 → c < n → S 15 c ≤ prcN S 0 n := by
  intro n
  induction n with
  | zero => intro a b; omega
  | succ n ih =>
    intro a b
    have hb := prcN_b hI 0 n (by omega)
    have h4 := (hI.2.2.2.2.1 n (by omega) (by omega)).2.1
    have h3 := (hI.2.2.2.1 n (Or.inl ⟨by omega, by omega⟩)).2.2.2.1
    have hr := bel_root hI.2.2.1 hI.2.1 (S 20 n + 1).toNat (S 20 n) (by omega) h4.1 h4.2
    unfold prcN
    rw [if_pos hr]
    by_cases z : c = n
    · subst z; omega
    · have := ih (by omega) (by omega)
      omega
theorem own15 {S : gS} (hV : IV S) {c : Int} (hc0 : 0 ≤ c) (hc1 : c < S 11 0) {v : Int} (h : prcI S 0 + (v - S 15 c) ≤ 100) : v ≤ 100 := by
  have h11 := hV.1.2.1.2.2.1
  have := prcN_own hV.1 hc0 (S 11 0).toNat (by omega) (by omega)
  unfold prcI at h
  omega
theorem bset_b4 {a k : Int} (h0 : 0 ≤ a) (h1 : a ≤ 15) (hk0 : 0 ≤ k) (hk1 : k < 4) : 0 ≤ bset a k ∧ bset a k ≤ 15 := by
  have := bset_b (n := 4) h0 hk0 (by omega) (show a < 2 ^ 4 by omega)
  omega
theorem bset_b8 {a k : Int} (h0 : 0 ≤ a) (h1 : a ≤ 255) (hk0 : 0 ≤ k) (hk1 : k < 8) : 0 ≤ bset a k ∧ bset a k ≤ 255 := by
  have := bset_b (n := 8) h0 hk0 (by omega) (show a < 2 ^ 8 by omega)
  omega
theorem IV_1 {S : gS} (hV : IV S) (i : Int) {v : Int} (hv0 : -1 ≤ v) (hv1 : v ≤ 999) : IV (sset S 1 i v) := by
  have h6 := hV.1.2.2.2.2.2.2.1
  refine IV_f hV (fun k a _ => sset_n _ _ _ a) (fun j => ?_) (fun j => ?_)
  · by_cases z : j = i
    · subst z; rw [sset_e]; exact ⟨hv0, hv1⟩
    · rw [sset_o _ _ _ _ z]; exact h6.1 j
  · rw [sset_n _ _ _ (by decide)]; exact h6.2.1 j
theorem i_write {S : gS} {i f c : Int} (hV : IV S) (h : cd_write S i f c = 0) : IV (st_write S i f c) := by
  have q : 1 ≤ c ∧ c ≤ 999 := by unfold cd_write at h; (repeat' split at h) <;> omega
  exact IV_1 hV _ (by omega) (by omega)
theorem i_remove {S : gS} {i f : Int} (hV : IV S) : IV (st_remove S i f) := IV_1 hV _ (by omega) (by omega)
theorem i_writeFile {S : gS} {c f v : Int} (hV : IV S) (h : cd_writeFile S c f v = 0) : IV (st_writeFile S c f v) := by
  have q : 1 ≤ v ∧ v ≤ 999 := by unfold cd_writeFile at h; (repeat' split at h) <;> omega
  exact IV_1 hV _ (by omega) (by omega)
theorem i_removeFile {S : gS} {c f : Int} (hV : IV S) : IV (st_removeFile S c f) := IV_1 hV _ (by omega) (by omega)
theorem i_clear {S : gS} {i d : Int} (hV : IV S) (h : cd_clear S i d = 0) : IV (st_clear S i d) := by
  have q : 0 ≤ d ∧ d < 8 := by unfold cd_clear at h; (repeat' split at h) <;> omega
  have h6 := hV.1.2.2.2.2.2.2.1
  unfold st_clear
  refine IV_f hV (fun k a b => by rw [sset_n _ _ _ b, zz_r _ _ _ a]) (fun j => ?_) (fun j => ?_)
  · rw [sset_n _ _ _ (by decide)]
    unfold zz
    split
    · omega
    · exact h6.1 j
  · by_cases z : j = i
    · subst z; rw [sset_e]
      have := h6.2.1 j
      exact bset_b8 this.1 this.2 q.1 q.2
    · rw [sset_o _ _ _ _ z, zz_r _ _ _ (by decide)]; exact h6.2.1 j
theorem i_seal {S : gS} {i : Int} (hV : IV S) : IV (st_seal S i) := by
  obtain ⟨⟨hR, hi1, hi2, hi3, hi4, hi5, hi6, hi7⟩, hX⟩ := hV
  have r : ∀ k, (k != 5) = true → st_seal S i k = S k := fun k hk => sset_n _ _ _ (bne_iff_ne.mp hk)
  have h5 : ∀ j, st_seal S i 5 j = if j = i then 1 else S 5 j := fun j => by
    unfold st_seal
    rw [sset_s]; rfl
  have h51 : ∀ j, S 5 j = 1 → st_seal S i 5 j = 1 := fun j hj => by rw [h5]; split <;> omega
  refine ⟨⟨fun k j hk => ?_, hi1.c (r 3 rfl) (r 6 rfl) (r 11 rfl) (r 23 rfl), hi2.c (r 3 rfl) (r 4 rfl) (r 6 rfl) (r 7 rfl), fun k hk => ?_, fun k h0 hk => ?_, hi5.c (r 6 rfl) (r 8 rfl) (r 9 rfl) (r 10 rfl), ⟨by rw [r 1 rfl]; exact hi6.1, by rw [r 2 rfl]; exact hi6.2.1, fun j => by rw [h5]; have := hi6.2.2.1 j; split <;> omega, by rw [r 24 rfl, r 11 rfl]; exact hi6.2.2.2⟩, ⟨fun k h0 hk => ?_, fun k hk => ?_, by rw [r 8 rfl]; exact hi7.2.2.1, by rw [r 9 rfl]; exact hi7.2.2.2.1, by rw [memI_eq (r 7 rfl) (r 11 rfl) (r 14 rfl) (r 20 rfl)]; exact hi7.2.2.2.2.1, by rw [prcI_eq (r 7 rfl) (r 11 rfl) (r 15 rfl) (r 20 rfl)]; exact hi7.2.2.2.2.2⟩⟩, fun p h0 hp => ?_, by rw [r 11 rfl, r 21 rfl]; exact hX.2.1, by rw [r 11 rfl, r 19 rfl, r 15 rfl]; exact hX.2.2.1, by rw [r 23 rfl, r 15 rfl]; exact hX.2.2.2⟩
  · by_cases a : k = 5
    · subst a; rw [h5]; have := hR 5 j (by decide); split <;> first | exact this | (unfold R32; omega)
    · rw [r k (bne_iff_ne.mpr a)]; exact hR k j hk
  · rw [isCK.eq (r 11 rfl) (r 23 rfl)] at hk
    rw [r 12 rfl, r 13 rfl, r 14 rfl, r 15 rfl, r 16 rfl, r 17 rfl, r 18 rfl, r 3 rfl]
    exact hi3 k hk
  · rw [r 11 rfl] at hk
    rw [r 19 rfl, r 20 rfl, r 21 rfl, r 6 rfl, r 14 rfl, r 15 rfl, r 18 rfl]
    exact hi4 k h0 hk
  · rw [r 3 rfl] at hk
    rw [lay_congr (r 4 rfl), r 4 rfl]
    have := hi7.1 k h0 hk
    exact ⟨this.1, fun z => h51 _ (this.2 z)⟩
  · rw [isCK.eq (r 11 rfl) (r 23 rfl)] at hk
    rw [r 12 rfl]
    exact h51 _ (hi7.2.1 k hk)
  · rw [r 6 rfl] at hp
    rw [prcI_eq (r 7 rfl) (r 11 rfl) (r 15 rfl) (r 20 rfl), r 9 rfl]
    exact hX.1 p h0 hp
theorem i_pause {S : gS} {c : Int} (hV : IV S) (h : cd_pause S c = 0) : IV (st_pause S c) := by
  have q : 0 ≤ c ∧ c < S 11 0 ∧ S 19 c = 0 := by unfold cd_pause ist at h; (repeat' split at h) <;> omega
  exact IV_19 hV q.1 q.2.1 (Or.inr rfl) (by omega)
theorem i_resume {S : gS} {c : Int} (hV : IV S) (h : cd_resume S c = 0) : IV (st_resume S c) := by
  have q : 0 ≤ c ∧ c < S 11 0 ∧ S 19 c = 1 := by unfold cd_resume ist at h; (repeat' split at h) <;> omega
  exact IV_19 hV q.1 q.2.1 (Or.inl rfl) (by omega)
theorem i_stp {S : gS} {c : Int} (hV : IV S) (h0 : 0 ≤ c) (h1 : c < S 11 0) : IV (stp S c) := ⟨Inv_stp hV.1 h0 h1, InvX_stp hV.1 hV.2 h0 h1⟩
theorem i_stop {S : gS} {c : Int} (hV : IV S) (h : cd_stop S c = 0) : IV (st_stop S c) := by
  have q : 0 ≤ c ∧ c < S 11 0 := by unfold cd_stop at h; (repeat' split at h) <;> omega
  exact i_stp hV q.1 q.2
theorem i_kill {S : gS} {c v : Int} (hV : IV S) (h : cd_kill S c v = 0) : IV (st_kill S c v) := by
  have q : 0 ≤ v ∧ v < S 11 0 := by unfold cd_kill at h; (repeat' split at h) <;> omega
  exact i_stp hV q.1 q.2
theorem i_free {S : gS} {c u : Int} (hV : IV S) (h : cd_free S c u = 0) : IV (st_free S c u) := by
  have q : 0 ≤ c ∧ c < S 11 0 ∧ S 19 c = 0 ∧ u ≤ S 14 c ∧ 1 ≤ u := by unfold cd_free at h; (repeat' split at h) <;> omega
  have q3 := (hV.1.2.2.2.1 c (Or.inl ⟨q.1, q.2.1⟩)).2.2.1
  refine IV_14 hV q.1 q.2.1 (by omega) (by omega) (by omega) ?_
  have e := memI_up (S' := sset S 14 c (S 14 c - u)) hV.1.2.1 (sset_n _ _ _ (by decide)) (sset_n _ _ _ (by decide)) (sset_n _ _ _ (by decide)) 0 q.1 q.2.1 (fun k hk => sset_o _ _ _ _ hk)
  rw [e, sset_e]
  have := hV.1.2.2.2.2.2.2.2.2.2.2.2.1
  split <;> omega
theorem i_fork {S : gS} {c : Int} (hV : IV S) (h : cd_fork S c = 0) : IV (st_fork S c) := by
  have q : 0 ≤ c ∧ c < S 11 0 ∧ S 19 c = 0 ∧ tm S (S 20 c) 0 1 = -1 := by unfold cd_fork at h; (repeat' split at h) <;> omega
  have q3 := (hV.1.2.2.2.1 c (Or.inl ⟨q.1, q.2.1⟩)).2.2.2.1
  have q4 := (hV.1.2.2.2.2.1 c q.1 q.2.1).2.1
  have e := fun g => prcI_up (S' := sset S 15 c (S 15 c + 1)) hV.1.2.1 (sset_n _ _ _ (by decide)) (sset_n _ _ _ (by decide)) (sset_n _ _ _ (by decide)) g q.1 q.2.1 (fun k hk => sset_o _ _ _ _ hk)
  have hp : ∀ p, 0 ≤ p → p < S 6 0 → prcI (sset S 15 c (S 15 c + 1)) p ≤ S 9 p := fun p p0 p1 => by
    rw [e, sset_e]
    have hx := hV.2.1 p p0 p1
    split
    · rename_i z
      have := tm_all hV.1.2.2.1 hV.1.2.1 0 1 p0 (S 20 c + 1).toNat (S 20 c) (by omega) (by omega) q4.2 q.2.2.2 z
      omega
    · omega
  have h6 := hV.1.2.1.2.1
  have h0 := hp 0 (by omega) (by omega)
  have hb := bel_root hV.1.2.2.1 hV.1.2.1 (S 20 c + 1).toNat (S 20 c) (by omega) q4.1 q4.2
  rw [e, sset_e, if_pos hb, hV.1.2.2.2.2.2.2.2.2.2.2.1] at h0
  -- the container's own are among the root's
  refine IV_15 hV q.1 q.2.1 (by omega) ?_ (by omega) hp
  exact own15 hV q.1 q.2.1 h0
theorem i_exit {S : gS} {c : Int} (hV : IV S) (h : cd_exit S c = 0) : IV (st_exit S c) := by
  have q : 0 ≤ c ∧ c < S 11 0 ∧ S 19 c = 0 := by unfold cd_exit ist at h; (repeat' split at h) <;> omega
  have q3 := (hV.1.2.2.2.1 c (Or.inl ⟨q.1, q.2.1⟩)).2.2.2.1
  have q5 := hV.2.2.2.1 c q.1 q.2.1 (by omega)
  unfold st_exit
  split
  · rw [stp_e15]
    exact i_stp hV q.1 q.2.1
  · have e := fun g => prcI_up (S' := sset S 15 c (S 15 c - 1)) hV.1.2.1 (sset_n _ _ _ (by decide)) (sset_n _ _ _ (by decide)) (sset_n _ _ _ (by decide)) g q.1 q.2.1 (fun k hk => sset_o _ _ _ _ hk)
    refine IV_15 hV q.1 q.2.1 (by omega) (by omega) (by omega) (fun p p0 p1 => ?_)
    rw [e, sset_e]
    have hx := hV.2.1 p p0 p1
    split <;> omega
theorem i_raise {S : gS} {c k : Int} (hV : IV S) (h : cd_raise S c k = 0) : IV (st_raise S c k) := by
  have q : 0 ≤ c ∧ c < S 11 0 ∧ 0 ≤ k ∧ k < 4 := by unfold cd_raise icp at h; (repeat' split at h) <;> omega
  have q3 := (hV.1.2.2.2.1 c (Or.inl ⟨q.1, q.2.1⟩)).2.2.2.2.2.1
  have b := bset_b4 q3.1 q3.2 q.2.2.1 q.2.2.2
  exact IV_17 hV q.1 q.2.1 b.1 b.2
theorem i_lower {S : gS} {c k : Int} (hV : IV S) (h : cd_lower S c k = 0) : IV (st_lower S c k) := by
  have q : 0 ≤ c ∧ c < S 11 0 ∧ 0 ≤ k ∧ k < 4 := by unfold cd_lower icp at h; (repeat' split at h) <;> omega
  have q3 := (hV.1.2.2.2.1 c (Or.inl ⟨q.1, q.2.1⟩)).2.2.2.2.2.1
  have b := bclr_b (k := k) q3.1
  exact IV_17 hV q.1 q.2.1 b.1 (by omega)
theorem i_drop {S : gS} {c k : Int} (hV : IV S) (h : cd_drop S c k = 0) : IV (st_drop S c k) := by
  have q : 0 ≤ c ∧ c < S 11 0 ∧ 0 ≤ k ∧ k < 4 := by unfold cd_drop icp at h; (repeat' split at h) <;> omega
  have q3 := (hV.1.2.2.2.1 c (Or.inl ⟨q.1, q.2.1⟩)).2.2.2.2.1
  have q2 := (hV.1.2.2.2.1 c (Or.inl ⟨q.1, q.2.1⟩)).2.2.2.2.2.1
  have b := bclr_b (k := k) q3.1
  have b2 := bclr_b (k := k) q2.1
  exact IV_16 (IV_17 hV q.1 q.2.1 b2.1 (by omega)) q.1 q.2.1 b.1 (by omega)
theorem i_listen {S : gS} {c p : Int} (hV : IV S) (h : cd_listen S c p = 0) : IV (st_listen S c p) := by
  have q : 0 ≤ c ∧ c < S 11 0 ∧ 0 ≤ p ∧ p < 16 ∧ S 19 c = 0 := by unfold cd_listen at h; (repeat' split at h) <;> omega
  have q3 := (hV.1.2.2.2.1 c (Or.inl ⟨q.1, q.2.1⟩)).2.2.2.2.2.2
  have b := bset_b16 q3.1 q3.2 q.2.2.1 q.2.2.2.1
  exact IV_18 hV q.1 q.2.1 b.1 b.2 (by omega)
theorem i_detach {S : gS} {c : Int} (hV : IV S) (h : cd_detach S c = 0) : IV (st_detach S c) := by
  have q : 0 ≤ c ∧ c < S 11 0 ∧ S 19 c = 0 := by unfold cd_detach at h; (repeat' split at h) <;> omega
  exact IV_21 hV q.1 q.2.1 (by omega) (Or.inl rfl) (Or.inl rfl)
theorem aaN_m1 {S : gS} {x : Int} : ∀ n : Nat, aaN S x n = -1 → ∀ k : Nat, k < n → S 21 k ≠ x := by
  intro n
  induction n with
  | zero => intro _ k hk; omega
  | succ n ih =>
    intro h k hk
    unfold aaN at h
    split at h
    · omega
    · rename_i z
      by_cases y : k = n
      · subst y; exact z
      · exact ih h k (by omega)
theorem faN_m1 {S : gS} {b : Int} : ∀ (n : Nat) (a : Int), faN S b n a ≤ 6 → faN S b n a < a + n → aat S b (faN S b n a) = -1 := by
  intro n
  induction n with
  | zero => intro a h1 h2; unfold faN at h2; omega
  | succ n ih =>
    intro a h1 h2
    unfold faN at h1 h2 ⊢
    split
    · rename_i z
      rw [if_pos z] at h1 h2
      exact ih (a + 1) h1 (by omega)
    · rename_i z
      rw [if_neg z] at h1
      rcases (by omega : aat S b a = -1 ∨ aat S b a ≠ -1) with y | y
      · exact y
      · exact absurd ⟨h1, y⟩ z
theorem i_attach {S : gS} {c b : Int} (hV : IV S) (h : cd_attach S c b = 0) : IV (st_attach S c b) := by
  have q : 0 ≤ c ∧ c < S 11 0 ∧ 0 ≤ b ∧ b < 4 ∧ S 19 c = 0 ∧ fad S b ≤ 6 := by unfold cd_attach at h; (repeat' split at h) <;> omega
  have hf := fad_b S b
  have ha : aat S b (fad S b) = -1 := faN_m1 6 1 q.2.2.2.2.2 (by unfold fad at q; omega)
  have h11 := hV.1.2.1.2.2.1
  refine IV_21 hV q.1 q.2.1 (by omega) (Or.inr (by omega)) (Or.inr (fun k k0 k1 => ?_))
  have := aaN_m1 (S 11 0).toNat ha k.toNat (by omega)
  rw [show ((k.toNat : Nat) : Int) = k by omega] at this
  exact this
