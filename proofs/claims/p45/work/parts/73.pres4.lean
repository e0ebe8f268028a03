/-- a new container -/
theorem IV_cont {S T : gS} {n i w m pr sh pl el v18 : Int} (hV : IV S) (hn : n = S 11 0) (hn1 : n < 20) (e : ∀ k, (k != 1 && k != 2 && k != 11 && k != 12 && k != 13 && k != 14 && k != 15 && k != 16 && k != 17 && k != 18 && k != 19 && k != 20 && k != 21 && k != 22) = true → T k = S k) (e11 : T 11 = fset (S 11) 0 (n + 1)) (e12 : T 12 = fset (S 12) n i) (e13 : T 13 = fset (S 13) n sh) (e14 : T 14 = fset (S 14) n m) (e15 : T 15 = fset (S 15) n pr) (e16 : T 16 = fset (S 16) n pl) (e17 : T 17 = fset (S 17) n el) (e18 : T 18 = fset (S 18) n v18) (e19 : T 19 = fset (S 19) n 0) (e20 : T 20 = fset (S 20) n w) (e21 : T 21 = fset (S 21) n (-1))
    (h1 : ∀ j, -1 ≤ T 1 j ∧ T 1 j ≤ 999) (h2 : ∀ j, 0 ≤ T 2 j ∧ T 2 j ≤ 255) (hi0 : 0 ≤ i) (hi1 : i < S 3 0) (hi5 : S 5 i = 1) (hw0 : 0 ≤ w) (hw1 : w < S 6 0) (hsh : 1 ≤ sh ∧ sh ≤ 100) (hm : 0 ≤ m ∧ m ≤ 10000) (hpr : 1 ≤ pr ∧ pr ≤ 100) (hpl : 0 ≤ pl ∧ pl ≤ 15) (hel : 0 ≤ el ∧ el ≤ 15) (h18 : 0 ≤ v18 ∧ v18 ≤ 65535) (ht : tm S w m pr = -1) : IV T := by
  obtain ⟨⟨hR, q1, q2, q3, q4, q5, q6, q7⟩, hX⟩ := id hV
  have hco := q1.2.2.1
  have h6 := q1.2.1
  have h3 := q1.1
  have e110 : T 11 0 = n + 1 := by rw [e11]; exact if_pos rfl
  have o : ∀ {k : Nat} {v : Int}, T k = fset (S k) n v → ∀ j, j ≠ n → T k j = S k j := fun ek j hj => by rw [ek]; exact if_neg hj
  have nn : ∀ {k : Nat} {v : Int}, T k = fset (S k) n v → T k n = v := fun ek => by rw [ek]; exact if_pos rfl
  have hmc := fun g => mem_cont (T := T) hn (by omega) (e 7 rfl) e110 e20 e14 e15 g
  have hall := fun {p : Int} (hp : 0 ≤ p) => tm_all q2 q1 m pr hp (w + 1).toNat w (by omega) (by omega) hw1 ht
  have hb := bel_root q2 q1 (w + 1).toNat w (by omega) hw0 hw1
  have hCK : ∀ k, isCK T k → isCK S k ∧ k ≠ n ∨ k = n := fun k hk => by
    unfold isCK at hk ⊢
    rw [e110, e 23 rfl] at hk
    omega
  refine ⟨⟨fun k j hk => ?_, ⟨by rw [e 3 rfl]; exact q1.1, by rw [e 6 rfl]; exact q1.2.1, by rw [e110]; omega, by rw [e 23 rfl]; exact q1.2.2.2⟩, q2.c (e 3 rfl) (e 4 rfl) (e 6 rfl) (e 7 rfl), fun k hk => ?_, fun k k0 k1 => ?_, q5.c (e 6 rfl) (e 8 rfl) (e 9 rfl) (e 10 rfl), ⟨h1, h2, by rw [e 5 rfl]; exact q6.2.2.1, fun j j0 j1 => ?_⟩, ⟨fun k h0 hk => ?_, fun k hk => ?_, by rw [e 8 rfl]; exact q7.2.2.1, by rw [e 9 rfl]; exact q7.2.2.2.1, ?_, ?_⟩⟩, fun g h0 hg => ?_, fun a b a0 a1 b0 b1 hab ha => ?_, fun a a0 a1 ha => ?_, fun k k0 k1 => ?_⟩
  · have ww : ∀ {k : Nat} {v : Int}, k ≠ 22 → T k = fset (S k) n v → R32 v → R32 (T k j) := fun hk ek hv => by
      have := hR _ j hk
      rw [ek]; unfold fset
      split
      · exact hv
      · exact this
    by_cases a1 : k = 1
    · subst a1; have := h1 j; unfold R32; omega
    · by_cases a2 : k = 2
      · subst a2; have := h2 j; unfold R32; omega
      · by_cases a11 : k = 11
        · subst a11; rw [e11]; have := hR 11 j (by decide); unfold fset; split <;> first | exact this | (unfold R32; omega)
        · by_cases c : 12 ≤ k ∧ k ≤ 21
          · have : k = 12 ∨ k = 13 ∨ k = 14 ∨ k = 15 ∨ k = 16 ∨ k = 17 ∨ k = 18 ∨ k = 19 ∨ k = 20 ∨ k = 21 := by omega
            rcases this with rfl | rfl | rfl | rfl | rfl | rfl | rfl | rfl | rfl | rfl
            · exact ww (by decide) e12 (by unfold R32; omega)
            · exact ww (by decide) e13 (by unfold R32; omega)
            · exact ww (by decide) e14 (by unfold R32; omega)
            · exact ww (by decide) e15 (by unfold R32; omega)
            · exact ww (by decide) e16 (by unfold R32; omega)
            · exact ww (by decide) e17 (by unfold R32; omega)
            · exact ww (by decide) e18 (by unfold R32; omega)
            · exact ww (by decide) e19 (by unfold R32; omega)
            · exact ww (by decide) e20 (by unfold R32; omega)
            · exact ww (by decide) e21 (by unfold R32; omega)
          · rw [e k (by simp only [Bool.and_eq_true, bne_iff_ne]; omega)]; exact hR k j hk
  · rcases hCK k hk with ⟨y, z⟩ | z
    · rw [e 3 rfl, o e12 k z, o e13 k z, o e14 k z, o e15 k z, o e16 k z, o e17 k z, o e18 k z]
      exact q3 k y
    · rw [z, e 3 rfl, nn e12, nn e13, nn e14, nn e15, nn e16, nn e17, nn e18]
      exact ⟨⟨hi0, hi1⟩, hsh, hm, ⟨by omega, hpr.2⟩, hpl, hel, h18⟩
  · rw [e110] at k1
    by_cases z : k = n
    · rw [z, nn e19, nn e20, nn e21, e 6 rfl]
      exact ⟨by omega, ⟨hw0, hw1⟩, Or.inl rfl, fun y => by omega⟩
    · rw [o e19 k z, o e20 k z, o e21 k z, o e14 k z, o e15 k z, o e18 k z, e 6 rfl]
      exact q4 k k0 (by omega)
  · rw [e 24 rfl, e110]
    have := q6.2.2.2 j j0 j1
    omega
  · rw [e 3 rfl] at hk
    rw [lay_congr (e 4 rfl), e 4 rfl, e 5 rfl]
    exact q7.1 k h0 hk
  · rw [e 5 rfl]
    rcases hCK k hk with ⟨y, z⟩ | z
    · rw [o e12 k z]; exact q7.2.1 k y
    · rw [z, nn e12]; exact hi5
  · rw [(hmc 0).1, if_pos hb]
    have := (hall (Int.le_refl 0) hb).1
    rw [q7.2.2.1] at this
    exact this
  · rw [(hmc 0).2, if_pos hb]
    have := (hall (Int.le_refl 0) hb).2
    rw [q7.2.2.2.1] at this
    exact this
  · rw [e 6 rfl] at hg
    rw [(hmc g).2, e 9 rfl]
    split
    · rename_i z
      exact (hall h0 z).2
    · have := hX.1 g h0 hg
      omega
  · rw [e110] at a1 b1
    by_cases za : a = n
    · rw [za, nn e21] at ha; exact absurd rfl ha
    · rw [o e21 a za] at ha ⊢
      by_cases zb : b = n
      · rw [zb, nn e21]; exact ha
      · rw [o e21 b zb]
        exact hX.2.1 a b a0 (by omega) b0 (by omega) hab ha
  · rw [e110] at a1
    by_cases za : a = n
    · rw [za, nn e15]; exact hpr.1
    · rw [o e19 a za] at ha
      rw [o e15 a za]
      exact hX.2.2.1 a a0 (by omega) ha
  · rw [e 23 rfl] at k1
    rw [o e15 (20 + k) (by omega)]
    exact hX.2.2.2 k k0 k1
theorem bgn_e {S : gS} {i w p s : Int} {k : Nat} (hk : (k != 1 && k != 2 && k != 11 && k != 12 && k != 13 && k != 14 && k != 15 && k != 16 && k != 17 && k != 18 && k != 19 && k != 20 && k != 21 && k != 22) = true) : bgn S i w p s k = S k := by
  simp only [Bool.and_eq_true, bne_iff_ne] at hk
  unfold bgn
  rw [sset_n _ _ _ (by omega), ez_r _ _ (by omega) (by omega)]
  unfold bgn0
  rw [sset_n _ _ _ (by omega), sset_n _ _ _ (by omega), sset_n _ _ _ (by omega), sset_n _ _ _ (by omega), sset_n _ _ _ (by omega), sset_n _ _ _ (by omega), sset_n _ _ _ (by omega), sset_n _ _ _ (by omega), sset_n _ _ _ (by omega), sset_n _ _ _ (by omega), sset_n _ _ _ (by omega)]
theorem bgn_11 {S : gS} {i w p s : Int} : bgn S i w p s 11 = fset (S 11) 0 (S 11 0 + 1) := by
  unfold bgn
  rw [sset_s, ez_r _ _ (by decide) (by decide)]
  unfold bgn0
  simp only [sset_n, ne_eq, Nat.reduceEqDiff, not_false_eq_true]
theorem bgn_f {S : gS} (h6 : Inv6 S) {i w p s : Int} : (∀ j, -1 ≤ bgn S i w p s 1 j ∧ bgn S i w p s 1 j ≤ 999) ∧ ∀ j, 0 ≤ bgn S i w p s 2 j ∧ bgn S i w p s 2 j ≤ 255 := by
  have e : ∀ k, k = 1 ∨ k = 2 → bgn0 S i w p s k = S k := fun k hk => by
    unfold bgn0
    rw [sset_n _ _ _ (by omega), sset_n _ _ _ (by omega), sset_n _ _ _ (by omega), sset_n _ _ _ (by omega), sset_n _ _ _ (by omega), sset_n _ _ _ (by omega), sset_n _ _ _ (by omega), sset_n _ _ _ (by omega), sset_n _ _ _ (by omega), sset_n _ _ _ (by omega), sset_n _ _ _ (by omega)]
  constructor
  · intro j
    unfold bgn
    rw [sset_n _ _ _ (by decide)]
    unfold ez
    rw [e 1 (Or.inl rfl)]
    (repeat' split)
    · omega
    · omega
    · exact h6.1 j
  · intro j
    unfold bgn
    rw [sset_n _ _ _ (by decide)]
    unfold ez
    rw [e 2 (Or.inr rfl)]
    (repeat' split)
    · omega
    · omega
    · exact h6.2.1 j
theorem i_run {S : gS} {i w p s : Int} (hV : IV S) (h : cd_run S i w p s = 0) : IV (st_run S i w p s) := by
  have hco := hV.1.2.1.2.2.1
  have h6 := hV.1.2.2.2.2.2.2.1
  have q : (0 ≤ i ∧ i < S 3 0 ∧ 0 ≤ w ∧ w < S 6 0) ∧ (0 ≤ p ∧ p < 16 ∧ 1 ≤ s ∧ s ≤ 100) ∧ S 5 i ≠ 0 ∧ S 11 0 ≠ 20 ∧ tm S w 0 1 = -1 := by unfold cd_run at h; (repeat' split at h) <;> omega
  have h5 := h6.2.2.1 i
  have hf := bgn_f h6 (i := i) (w := w) (p := p) (s := s)
  exact IV_cont (T := bgn S i w p s) (n := S 11 0) (i := i) (w := w) (m := 0) (pr := 1) (sh := s) (pl := p) (el := p) (v18 := 0) hV rfl (by omega) (fun k hk => bgn_e hk) bgn_11 (bgn_row (by omega)) (bgn_row (by omega)) (bgn_row (by omega)) (bgn_row (by omega)) (bgn_row (by omega)) (bgn_row (by omega)) (bgn_row (by omega)) (bgn_row (by omega)) (bgn_row (by omega)) (bgn_row (by omega)) hf.1 hf.2 q.1.1 q.1.2.1 (by omega) q.1.2.2.1 q.1.2.2.2 (by omega) (by omega) (by omega) (by omega) (by omega) (by omega) q.2.2.2.2
theorem i_restore {S : gS} {k w : Int} (hV : IV S) (h : cd_restore S k w = 0) : IV (st_restore S k w) := by
  have hco := hV.1.2.1.2.2.1
  have hck := hV.1.2.1.2.2.2
  have h6 := hV.1.2.2.2.2.2.2.1
  have q : (0 ≤ k ∧ k < S 23 0 ∧ 0 ≤ w ∧ w < S 6 0) ∧ S 11 0 ≠ 20 ∧ tm S w (S 14 (20 + k)) (S 15 (20 + k)) = -1 := by unfold cd_restore at h; (repeat' split at h) <;> omega
  have hc : isCK S (20 + k) := Or.inr ⟨by omega, by omega⟩
  have q3 := hV.1.2.2.2.1 _ hc
  have q7 := hV.1.2.2.2.2.2.2.2.2.1 _ hc
  have q15 := hV.2.2.2.2 k q.1.1 q.1.2.1
  have hf := bgn_f h6 (i := 0) (w := w) (p := 0) (s := 1)
  have e0 : ∀ a, a ≠ 1 → a ≠ 2 → st_restore S k w a = kps0 (bgn S 0 w 0 1) (S 11 0) (20 + k) a := fun a a1 a2 => cz_rr _ _ _ a1 a2
  have hs : ∀ a, 12 ≤ a → a ≤ 18 → (∀ v, bgn S 0 w 0 1 a = fset (S a) (S 11 0) v → st_restore S k w a = fset (S a) (S 11 0) (S a (20 + k))) := fun a a0 a1 v ev => by
    rw [e0 a (by omega) (by omega), kps0_s a0 a1, ev, fset2]
    congr 1
    exact if_neg (by omega)
  have ho : ∀ a, a < 12 ∨ 18 < a → a ≠ 1 → a ≠ 2 → st_restore S k w a = bgn S 0 w 0 1 a := fun a a0 a1 a2 => by rw [e0 a a1 a2, kps0_r a0]
  have hfl : ∀ j, -1 ≤ st_restore S k w 1 j ∧ st_restore S k w 1 j ≤ 999 := fun j => by
    unfold st_restore kps cz
    rw [kps0_r (k := 1) (Or.inl (by decide))]
    (repeat' split)
    · exact absurd (by assumption : 1 = 2 ∧ _).1 (by decide)
    · exact hf.1 _
    · exact hf.1 j
  have hfb : ∀ j, 0 ≤ st_restore S k w 2 j ∧ st_restore S k w 2 j ≤ 255 := fun j => by
    unfold st_restore kps cz
    rw [kps0_r (k := 2) (Or.inl (by decide))]
    (repeat' split)
    · exact hf.2 _
    · exact absurd (by assumption : 2 = 1 ∧ _).1 (by decide)
    · exact hf.2 j
  refine IV_cont (T := st_restore S k w) (n := S 11 0) (i := S 12 (20 + k)) (w := w) (m := S 14 (20 + k)) (pr := S 15 (20 + k)) (sh := S 13 (20 + k)) (pl := S 16 (20 + k)) (el := S 17 (20 + k)) (v18 := S 18 (20 + k)) hV rfl (by omega) (fun a ha => ?_) ?_ (hs 12 (by decide) (by decide) 0 (bgn_row (by omega))) (hs 13 (by decide) (by decide) 1 (bgn_row (by omega))) (hs 14 (by decide) (by decide) 0 (bgn_row (by omega))) (hs 15 (by decide) (by decide) 1 (bgn_row (by omega))) (hs 16 (by decide) (by decide) 0 (bgn_row (by omega))) (hs 17 (by decide) (by decide) 0 (bgn_row (by omega))) (hs 18 (by decide) (by decide) 0 (bgn_row (by omega))) ?_ ?_ ?_ hfl hfb q3.1.1 q3.1.2 q7 q.1.2.2.1 q.1.2.2.2 q3.2.1 q3.2.2.1 ⟨q15, q3.2.2.2.1.2⟩ q3.2.2.2.2.1 q3.2.2.2.2.2.1 q3.2.2.2.2.2.2 q.2.2
  · have hb := bgn_e (S := S) (i := 0) (w := w) (p := 0) (s := 1) ha
    simp only [Bool.and_eq_true, bne_iff_ne] at ha
    rw [ho a (by omega) (by omega) (by omega), hb]
  · rw [ho 11 (Or.inl (by decide)) (by decide) (by decide), bgn_11]
  · rw [ho 19 (Or.inr (by decide)) (by decide) (by decide), bgn_row (v := 0) (by omega)]
  · rw [ho 20 (Or.inr (by decide)) (by decide) (by decide), bgn_row (v := w) (by omega)]
  · rw [ho 21 (Or.inr (by decide)) (by decide) (by decide), bgn_row (v := -1) (by omega)]
theorem i_save {S : gS} {c : Int} (hV : IV S) (h : cd_save S c = 0) : IV (st_save S c) := by
  obtain ⟨⟨hR, q1, q2, q3, q4, q5, q6, q7⟩, hX⟩ := id hV
  have hco := q1.2.2.1
  have hck := q1.2.2.2
  have q : 0 ≤ c ∧ c < S 11 0 ∧ S 19 c = 1 ∧ S 23 0 ≠ 5 := by unfold cd_save at h; (repeat' split at h) <;> omega
  have hc : isCK S c := Or.inl ⟨q.1, q.2.1⟩
  have e : ∀ k, (k != 1 && k != 2 && k != 12 && k != 13 && k != 14 && k != 15 && k != 16 && k != 17 && k != 18 && k != 23) = true → st_save S c k = S k := fun k hk => by
    simp only [Bool.and_eq_true, bne_iff_ne] at hk
    unfold st_save kps
    rw [sset_n _ _ _ (by omega), cz_rr _ _ _ (by omega) (by omega), kps0_r (by omega)]
  have e23 : st_save S c 23 0 = S 23 0 + 1 := sset_e _ _ _ _
  have e23' : st_save S c 23 = fset (S 23) 0 (S 23 0 + 1) := by
    unfold st_save kps
    rw [sset_s, cz_rr _ _ _ (by decide) (by decide), kps0_r (Or.inr (by decide))]
  have es : ∀ k, 12 ≤ k → k ≤ 18 → st_save S c k = fset (S k) (20 + S 23 0) (S k c) := fun k a b => by
    unfold st_save kps
    rw [sset_n _ _ _ (by omega), cz_rr _ _ _ (by omega) (by omega), kps0_s a b]
  have eo : ∀ k, 12 ≤ k → k ≤ 18 → ∀ j, j ≠ 20 + S 23 0 → st_save S c k j = S k j := fun k a b j hj => by rw [es k a b]; exact if_neg hj
  have en : ∀ k, 12 ≤ k → k ≤ 18 → st_save S c k (20 + S 23 0) = S k c := fun k a b => by rw [es k a b]; exact if_pos rfl
  have hf1 : ∀ j, -1 ≤ st_save S c 1 j ∧ st_save S c 1 j ≤ 999 := fun j => by
    unfold st_save kps
    rw [sset_n _ _ _ (by decide)]
    unfold cz
    rw [kps0_r (k := 1) (Or.inl (by decide))]
    (repeat' split)
    · exact absurd (by assumption : 1 = 2 ∧ _).1 (by decide)
    · exact q6.1 _
    · exact q6.1 j
  have hf2 : ∀ j, 0 ≤ st_save S c 2 j ∧ st_save S c 2 j ≤ 255 := fun j => by
    unfold st_save kps
    rw [sset_n _ _ _ (by decide)]
    unfold cz
    rw [kps0_r (k := 2) (Or.inl (by decide))]
    (repeat' split)
    · exact q6.2.1 _
    · exact absurd (by assumption : 2 = 1 ∧ _).1 (by decide)
    · exact q6.2.1 j
  generalize st_save S c = T at *
  have hCK : ∀ k, isCK T k → isCK S k ∧ k ≠ 20 + S 23 0 ∨ k = 20 + S 23 0 := fun k hk => by
    unfold isCK at hk ⊢
    rw [e23, e 11 rfl] at hk
    omega
  have hmm := fun g => memN_k (T := T) (e 7 rfl) g (S 11 0).toNat (fun k hk => ⟨congrFun (e 20 rfl) _, eo 14 (by decide) (by decide) _ (by omega), eo 15 (by decide) (by decide) _ (by omega)⟩)
  have hm : ∀ g, memI T g = memI S g := fun g => by unfold memI; rw [e 11 rfl]; exact (hmm g).1
  have hp : ∀ g, prcI T g = prcI S g := fun g => by unfold prcI; rw [e 11 rfl]; exact (hmm g).2
  refine ⟨⟨fun k j hk => ?_, ⟨by rw [e 3 rfl]; exact q1.1, by rw [e 6 rfl]; exact q1.2.1, by rw [e 11 rfl]; exact q1.2.2.1, by rw [e23]; omega⟩, q2.c (e 3 rfl) (e 4 rfl) (e 6 rfl) (e 7 rfl), fun k hk => ?_, fun k k0 k1 => ?_, q5.c (e 6 rfl) (e 8 rfl) (e 9 rfl) (e 10 rfl), ⟨hf1, hf2, by rw [e 5 rfl]; exact q6.2.2.1, by rw [e 24 rfl, e 11 rfl]; exact q6.2.2.2⟩, ⟨fun k h0 hk => ?_, fun k hk => ?_, by rw [e 8 rfl]; exact q7.2.2.1, by rw [e 9 rfl]; exact q7.2.2.2.1, by rw [hm]; exact q7.2.2.2.2.1, by rw [hp]; exact q7.2.2.2.2.2⟩⟩, fun g h0 hg => ?_, by rw [e 11 rfl, e 21 rfl]; exact hX.2.1, fun a a0 a1 ha => ?_, fun k k0 k1 => ?_⟩
  · by_cases a1 : k = 1
    · subst a1; have := hf1 j; unfold R32; omega
    · by_cases a2 : k = 2
      · subst a2; have := hf2 j; unfold R32; omega
      · by_cases a23 : k = 23
        · subst a23; rw [e23']; have := hR 23 j (by decide); unfold fset; split <;> first | exact this | (unfold R32; omega)
        · by_cases y : 12 ≤ k ∧ k ≤ 18
          · rw [es k y.1 y.2]; unfold fset; split <;> exact hR k _ hk
          · rw [e k (by simp only [Bool.and_eq_true, bne_iff_ne]; omega)]; exact hR k j hk
  · rw [e 3 rfl]
    rcases hCK k hk with ⟨y, z⟩ | z
    · rw [eo 12 (by decide) (by decide) k z, eo 13 (by decide) (by decide) k z, eo 14 (by decide) (by decide) k z, eo 15 (by decide) (by decide) k z, eo 16 (by decide) (by decide) k z, eo 17 (by decide) (by decide) k z, eo 18 (by decide) (by decide) k z]
      exact q3 k y
    · rw [z, en 12 (by decide) (by decide), en 13 (by decide) (by decide), en 14 (by decide) (by decide), en 15 (by decide) (by decide), en 16 (by decide) (by decide), en 17 (by decide) (by decide), en 18 (by decide) (by decide)]
      exact q3 c hc
  · rw [e 11 rfl] at k1
    rw [e 19 rfl, e 20 rfl, e 21 rfl, e 6 rfl, eo 14 (by decide) (by decide) k (by omega), eo 15 (by decide) (by decide) k (by omega), eo 18 (by decide) (by decide) k (by omega)]
    exact q4 k k0 k1
  · rw [e 3 rfl] at hk
    rw [lay_congr (e 4 rfl), e 4 rfl, e 5 rfl]
    exact q7.1 k h0 hk
  · rw [e 5 rfl]
    rcases hCK k hk with ⟨y, z⟩ | z
    · rw [eo 12 (by decide) (by decide) k z]; exact q7.2.1 k y
    · rw [z, en 12 (by decide) (by decide)]; exact q7.2.1 c hc
  · rw [e 6 rfl] at hg
    rw [hp, e 9 rfl]
    exact hX.1 g h0 hg
  · rw [e 11 rfl] at a1
    rw [e 19 rfl] at ha
    rw [eo 15 (by decide) (by decide) a (by omega)]
    exact hX.2.2.1 a a0 a1 ha
  · rw [e23] at k1
    by_cases z : k = S 23 0
    · rw [z, en 15 (by decide) (by decide)]
      exact hX.2.2.1 c q.1 q.2.1 (by omega)
    · rw [eo 15 (by decide) (by decide) _ (by omega)]
      exact hX.2.2.2 k k0 (by omega)
/-- at the start -/
theorem IV_S0 {S : gS} (h : agr S S0) (hE : Ext S) : IV S := by
  have e : ∀ k, (decide (k < 28)) = true → S k = S0 k := fun k hk => h k (of_decide_eq_true hk)
  have hz : ∀ k, (decide (k < 28)) = true → (k != 6 && k != 7 && k != 8 && k != 9 && k != 24) = true → ∀ j, S k j = 0 := fun k a b j => by rw [e k a, S0_z b]
  have hR : ExR S := hE.2.2.2.2.2
  have e6 : S 6 0 = 1 := by rw [e 6 rfl]; rfl
  have e7 : S 7 0 = -1 := by rw [e 7 rfl]; rfl
  have e8 : S 8 0 = 10000 := by rw [e 8 rfl]; rfl
  have e9 : S 9 0 = 100 := by rw [e 9 rfl]; rfl
  have hck : ∀ k, ¬ isCK S k := fun k hk => by
    unfold isCK at hk
    rw [hz 11 rfl rfl, hz 23 rfl rfl] at hk
    omega
  have hm : memI S 0 = 0 ∧ prcI S 0 = 0 := by
    unfold memI prcI
    rw [hz 11 rfl rfl]
    exact ⟨rfl, rfl⟩
  have hpg : ∀ g, prcI S g = 0 := fun g => by
    unfold prcI
    rw [hz 11 rfl rfl]
    rfl
  refine ⟨⟨fun k j hk => ?_, ⟨by rw [hz 3 rfl rfl]; omega, by omega, by rw [hz 11 rfl rfl]; omega, by rw [hz 23 rfl rfl]; omega⟩, ⟨fun k k0 k1 => ?_, e7, fun k k0 k1 => by omega⟩, fun k hk => absurd hk (hck k), fun k k0 k1 => ?_, ⟨fun k k0 k1 => ?_, fun k k0 k1 => by omega⟩, ⟨fun j => by rw [hz 1 rfl rfl]; omega, fun j => by rw [hz 2 rfl rfl]; omega, fun j => Or.inl (hz 5 rfl rfl j), fun j j0 j1 => ?_⟩, ⟨fun k k0 k1 => ?_, fun k hk => absurd hk (hck k), e8, e9, by omega, by omega⟩⟩, fun g g0 g1 => ?_, fun a b a0 a1 => ?_, fun a a0 a1 => ?_, fun k k0 k1 => ?_⟩
  · by_cases c : k < 28
    · rw [h k c]
      unfold S0 S0n
      split
      · unfold R32; omega
      · unfold S01 sset S00 R32
        (repeat' split) <;> omega
    · exact hR k j (by omega)
  · rw [hz 3 rfl rfl] at k1; omega
  · rw [hz 11 rfl rfl] at k1; omega
  · have : k = 0 := by omega
    subst this
    omega
  · have : S 24 j = -1 := by rw [e 24 rfl]; exact if_pos ⟨rfl, j0, j1⟩
    rw [hz 11 rfl rfl]
    omega
  · rw [hz 3 rfl rfl] at k1; omega
  · have : g = 0 := by omega
    subst this
    rw [hpg]; omega
  · rw [hz 11 rfl rfl] at a1; omega
  · rw [hz 11 rfl rfl] at a1; omega
  · rw [hz 23 rfl rfl] at k1; omega
