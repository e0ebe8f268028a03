/-! the operations that change the law's rows; the answers -/
theorem fset_e (f : Int → Int) (i v : Int) : fset f i v i = v := if_pos rfl
theorem fset_o (f : Int → Int) {i j : Int} (v : Int) (h : j ≠ i) : fset f i v j = f j := if_neg h
theorem LI_seal {S : gS} {ft fu : Int → Int} {i : Int} (h : LI S ft fu) (hcd : cd_seal S i = 0) : LI (st_seal S i) (fset ft i 1) fu := by
  have hb : 0 ≤ i ∧ i < S 3 0 := by
    unfold cd_seal at hcd
    (repeat' split at hcd) <;> omega
  obtain ⟨hV, hM, hC, hA, hB, hG, hK⟩ := h
  have h3 := hV.1.2.1.1
  have q : ∀ k, k ≠ 5 → st_seal S i k = S k := fun k hk => sset_n S i 1 hk
  have q4 := q 4 (by decide)
  refine ⟨i_seal hV, hM.e (q 6 (by decide)) (q 7 (by decide)) (q 8 (by decide)) (q 11 (by decide)) (q 14 (by decide)) (q 20 (by decide)), hC.e (q 11 (by decide)) (q 16 (by decide)) (q 17 (by decide)) (q 23 (by decide)), hA, fun j h0 h1 => ?_, fun p h0 h1 => ?_, fun c h0 h1 => ?_⟩
  · rw [q 3 (by decide)] at h1
    have w := hB j h0 h1
    rw [lay_congr q4]
    refine ⟨?_, (fset_o ft 1 (by omega)).trans w.2⟩
    by_cases z : j = i
    · rw [z, fset_e]
      exact (sset_e S 5 i 1).symm
    · rw [fset_o ft 1 z, w.1]
      exact (sset_o S 5 1 5 z).symm
  · rw [fset_o ft 1 (by omega), fset_o ft 1 (by omega), fset_o ft 1 (by omega)]
    exact hG p h0 h1
  · rw [lay_congr q4, fset_o ft 1 (by omega)]
    exact hK c h0 h1
/-- a new image: its base p, sealed b -/
theorem LI_img {S T : gS} {ft fu : Int → Int} {n p b w : Int} (h : LI S ft fu) (hV : IV T) (hn : n = S 3 0) (hn1 : n < 10) (e : ∀ k, (k != 1 && k != 2 && k != 3 && k != 4 && k != 5) = true → T k = S k) (e3 : T 3 = fset (S 3) 0 (n + 1)) (e4 : T 4 = fset (S 4) n p) (e5 : T 5 = fset (S 5) n b) (hp0 : -1 ≤ p) (hp1 : p < n) (hw : w = lay S p + 1) : LI T (fset (fset ft n b) (10 + n) w) (fset fu 20 (n + 1)) := by
  obtain ⟨hV0, hM, hC, hA, hB, hG, hK⟩ := h
  have h2 := hV0.1.2.2.1
  have h3 := hV0.1.2.1.1
  have h11 := hV0.1.2.1.2.2.1
  have e30 : T 3 0 = n + 1 := by rw [e3]; exact if_pos rfl
  refine ⟨hV, hM.e (e 6 rfl) (e 7 rfl) (e 8 rfl) (e 11 rfl) (e 14 rfl) (e 20 rfl), hC.e (e 11 rfl) (e 16 rfl) (e 17 rfl) (e 23 rfl), ?_, fun j h0 h1 => ?_, fun p h0 h1 => ?_, fun c h0 h1 => ?_⟩
  · unfold LA
    rw [e30, e 6 rfl, e 11 rfl, e 23 rfl, fset_e, fset_o fu _ (by decide), fset_o fu _ (by decide), fset_o fu _ (by decide)]
    exact ⟨rfl, hA.2.1, hA.2.2.1, hA.2.2.2⟩
  · rw [e30] at h1
    by_cases z : j = n
    · rw [z, lay_new h2 hn (by omega) e4 hp0 hp1, fset_e, fset_o _ w (by omega), fset_e, e5, fset_e]
      exact ⟨rfl, hw⟩
    · have y := hB j h0 (by omega)
      rw [lay_push h2 hn e4 j (by omega) (by omega), e5, fset_o (S 5) b z, fset_o _ w (by omega), fset_o _ w (by omega), fset_o ft b z, fset_o ft b (by omega)]
      exact y
  · rw [e 6 rfl] at h1
    rw [e 7 rfl, e 8 rfl, e 9 rfl, fset_o _ w (by omega), fset_o _ w (by omega), fset_o _ w (by omega), fset_o ft b (by omega), fset_o ft b (by omega), fset_o ft b (by omega)]
    exact hG p h0 h1
  · rw [e 11 rfl] at h1
    have y := (hV0.1.2.2.2.1 c (Or.inl ⟨h0, h1⟩)).1
    rw [e 20 rfl, e 12 rfl, lay_push h2 hn e4 _ (by omega) (by omega), fset_o _ w (by omega), fset_o ft b (by omega), fset_o fu _ (by omega)]
    exact hK c h0 h1
theorem newImage_rows {S : gS} {p : Int} : (∀ k, (k != 1 && k != 2 && k != 3 && k != 4 && k != 5) = true → st_newImage S p k = S k) ∧ st_newImage S p 3 = fset (S 3) 0 (S 3 0 + 1) ∧ st_newImage S p 4 = fset (S 4) (S 3 0) p ∧ st_newImage S p 5 = fset (S 5) (S 3 0) 0 := by
  unfold st_newImage
  refine ⟨fun k hk => ?_, ?_, ?_, ?_⟩
  · simp only [Bool.and_eq_true, bne_iff_ne] at hk
    rw [sset_n _ _ _ (by omega), ez_r _ _ (by omega) (by omega), sset_n _ _ _ (by omega), sset_n _ _ _ (by omega)]
  · rw [sset_s, ez_r _ _ (by decide) (by decide), sset_n _ _ _ (by decide), sset_n _ _ _ (by decide)]
  · rw [sset_n _ _ _ (by decide), ez_r _ _ (by decide) (by decide), sset_n _ _ _ (by decide), sset_s]
  · rw [sset_n _ _ _ (by decide), ez_r _ _ (by decide) (by decide), sset_s, sset_n _ _ _ (by decide)]
theorem newImage_b {S : gS} {p : Int} (hcd : cd_newImage S p = 0) : (p = -1 ∨ (0 ≤ p ∧ p < S 3 0)) ∧ (p = -1 ∨ (S 5 p = 1 ∧ lay S p < 8)) ∧ S 3 0 < 10 := by
  unfold cd_newImage at hcd
  (repeat' split at hcd) <;> omega
theorem LI_newImage {S : gS} {ft fu : Int → Int} {p w : Int} (h : LI S ft fu) (hcd : cd_newImage S p = 0) (hw : w = lay S p + 1) : LI (st_newImage S p) (fset (fset ft (S 3 0) 0) (10 + S 3 0) w) (fset fu 20 (S 3 0 + 1)) := by
  have q := newImage_b hcd
  have h3 := h.1.1.2.1.1
  have r := newImage_rows (S := S) (p := p)
  exact LI_img h (i_newImage h.1 hcd) rfl q.2.2 r.1 r.2.1 r.2.2.1 r.2.2.2 (by omega) (by omega) hw
theorem commit_rows {S : gS} {c : Int} : (∀ k, (k != 1 && k != 2 && k != 3 && k != 4 && k != 5) = true → st_commit S c k = S k) ∧ st_commit S c 3 = fset (S 3) 0 (S 3 0 + 1) ∧ st_commit S c 4 = fset (S 4) (S 3 0) (S 12 c) ∧ st_commit S c 5 = fset (S 5) (S 3 0) 1 := by
  unfold st_commit
  refine ⟨fun k hk => ?_, ?_, ?_, ?_⟩
  · simp only [Bool.and_eq_true, bne_iff_ne] at hk
    rw [sset_n _ _ _ (by omega), cz_rr _ _ _ (by omega) (by omega), sset_n _ _ _ (by omega), sset_n _ _ _ (by omega)]
  · rw [sset_s, cz_rr _ _ _ (by decide) (by decide), sset_n _ _ _ (by decide), sset_n _ _ _ (by decide)]
  · rw [sset_n _ _ _ (by decide), cz_rr _ _ _ (by decide) (by decide), sset_n _ _ _ (by decide), sset_s]
  · rw [sset_n _ _ _ (by decide), cz_rr _ _ _ (by decide) (by decide), sset_s, sset_n _ _ _ (by decide)]
theorem commit_b {S : gS} {c : Int} (hcd : cd_commit S c = 0) : 0 ≤ c ∧ c < S 11 0 ∧ lay S (S 12 c) ≠ 8 ∧ S 3 0 ≠ 10 := by
  unfold cd_commit at hcd
  (repeat' split at hcd) <;> omega
theorem LI_commit {S : gS} {ft fu : Int → Int} {c w : Int} (h : LI S ft fu) (hcd : cd_commit S c = 0) (hw : w = lay S (S 12 c) + 1) : LI (st_commit S c) (fset (fset ft (S 3 0) 1) (10 + S 3 0) w) (fset fu 20 (S 3 0 + 1)) := by
  have q := commit_b hcd
  have h3 := h.1.1.2.1.1
  have q3 := (h.1.1.2.2.2.1 c (Or.inl ⟨q.1, q.2.1⟩)).1
  have r := commit_rows (S := S) (c := c)
  exact LI_img h (i_commit h.1 hcd) rfl (by omega) r.1 r.2.1 r.2.2.1 r.2.2.2 (by omega) (by omega) hw
theorem newGroup_rows {S : gS} {p m r s : Int} : (∀ k, (k != 6 && k != 7 && k != 8 && k != 9 && k != 10) = true → st_newGroup S p m r s k = S k) ∧ st_newGroup S p m r s 6 = fset (S 6) 0 (S 6 0 + 1) ∧ st_newGroup S p m r s 7 = fset (S 7) (S 6 0) p ∧ st_newGroup S p m r s 8 = fset (S 8) (S 6 0) m ∧ st_newGroup S p m r s 9 = fset (S 9) (S 6 0) r := by
  unfold st_newGroup
  refine ⟨fun k hk => ?_, ?_, ?_, ?_, ?_⟩
  · simp only [Bool.and_eq_true, bne_iff_ne] at hk
    rw [sset_n _ _ _ (by omega), sset_n _ _ _ (by omega), sset_n _ _ _ (by omega), sset_n _ _ _ (by omega), sset_n _ _ _ (by omega)]
  · rw [sset_s, sset_n _ _ _ (by decide), sset_n _ _ _ (by decide), sset_n _ _ _ (by decide), sset_n _ _ _ (by decide)]
  · rw [sset_n _ _ _ (by decide), sset_n _ _ _ (by decide), sset_n _ _ _ (by decide), sset_n _ _ _ (by decide), sset_s]
  · rw [sset_n _ _ _ (by decide), sset_n _ _ _ (by decide), sset_n _ _ _ (by decide), sset_s, sset_n _ _ _ (by decide)]
  · rw [sset_n _ _ _ (by decide), sset_n _ _ _ (by decide), sset_s, sset_n _ _ _ (by decide), sset_n _ _ _ (by decide)]
theorem newGroup_b {S : gS} {p m r s : Int} (hcd : cd_newGroup S p m r s = 0) : (0 ≤ p ∧ p < S 6 0) ∧ (1 ≤ m ∧ m ≤ 10000 ∧ 1 ≤ r ∧ r ≤ 100 ∧ 1 ≤ s ∧ s ≤ 100) ∧ S 6 0 ≠ 8 := by
  unfold cd_newGroup at hcd
  (repeat' split at hcd) <;> omega
theorem LI_newGroup {S : gS} {ft fu : Int → Int} {p m r s : Int} (h : LI S ft fu) (hcd : cd_newGroup S p m r s = 0) : LI (st_newGroup S p m r s) (fset (fset (fset ft (20 + S 6 0) p) (28 + S 6 0) m) (36 + S 6 0) r) (fset fu 21 (S 6 0 + 1)) := by
  have q := newGroup_b hcd
  have hVT := i_newGroup h.1 hcd
  obtain ⟨e, e6, e7, e8, e9⟩ := newGroup_rows (S := S) (p := p) (m := m) (r := r) (s := s)
  obtain ⟨hV, hM, hC, hA, hB, hG, hK⟩ := h
  generalize st_newGroup S p m r s = T at *
  have h3 := hV.1.2.1.1
  have h6 := hV.1.2.1.2.1
  have h11 := hV.1.2.1.2.2.1
  have e60 : T 6 0 = S 6 0 + 1 := by rw [e6]; exact if_pos rfl
  have hm := fun g => mem_push hV.1 (T := T) rfl e7 (e 11 rfl) (e 14 rfl) (e 15 rfl) (e 20 rfl) g
  have hmn := mem_new hV.1 (n := S 6 0) rfl
  refine ⟨hVT, fun g h0 h1 => ?_, hC.e (e 11 rfl) (e 16 rfl) (e 17 rfl) (e 23 rfl), ?_, fun j h0 h1 => ?_, fun g h0 h1 => ?_, fun c h0 h1 => ?_⟩
  · rw [e60] at h1
    rw [(hm g).1, e8]
    by_cases z : g = S 6 0
    · rw [z, fset_e, hmn.1]; omega
    · rw [fset_o (S 8) m z]; exact hM g h0 (by omega)
  · unfold LA
    rw [e60, e 3 rfl, e 11 rfl, e 23 rfl, fset_e, fset_o fu _ (by decide), fset_o fu _ (by decide), fset_o fu _ (by decide)]
    exact ⟨hA.1, rfl, hA.2.2.1, hA.2.2.2⟩
  · rw [e 3 rfl] at h1
    rw [e 5 rfl, lay_congr (e 4 rfl), fset_o _ r (by omega), fset_o _ r (by omega), fset_o _ m (by omega), fset_o _ m (by omega), fset_o ft p (by omega), fset_o ft p (by omega)]
    exact hB j h0 h1
  · rw [e60] at h1
    by_cases z : g = S 6 0
    · rw [z, e7, e8, e9, fset_e, fset_e, fset_e, fset_o _ r (by omega), fset_o _ m (by omega), fset_e, fset_o _ r (by omega), fset_e, fset_e]
      exact ⟨rfl, rfl, rfl⟩
    · rw [e7, e8, e9, fset_o (S 7) p z, fset_o (S 8) m z, fset_o (S 9) r z, fset_o _ r (by omega), fset_o _ r (by omega), fset_o _ r (by omega), fset_o _ m (by omega), fset_o _ m (by omega), fset_o _ m (by omega), fset_o ft p (by omega), fset_o ft p (by omega), fset_o ft p (by omega)]
      exact hG g h0 (by omega)
  · rw [e 11 rfl] at h1
    rw [e 20 rfl, e 12 rfl, lay_congr (e 4 rfl), fset_o _ r (by omega), fset_o _ m (by omega), fset_o ft p (by omega), fset_o fu _ (by omega)]
    exact hK c h0 h1
/-- a new container -/
theorem LI_cont {S T : gS} {ft fu : Int → Int} {n i w m pr pl el y : Int} (h : LI S ft fu) (hVT : IV T) (hn : n = S 11 0) (hn1 : n < 20) (e : ∀ k, (k != 1 && k != 2 && k != 11 && k != 12 && k != 13 && k != 14 && k != 15 && k != 16 && k != 17 && k != 18 && k != 19 && k != 20 && k != 21 && k != 22) = true → T k = S k) (e11 : T 11 = fset (S 11) 0 (n + 1)) (e12 : T 12 = fset (S 12) n i) (e14 : T 14 = fset (S 14) n m) (e15 : T 15 = fset (S 15) n pr) (e16 : T 16 = fset (S 16) n pl) (e17 : T 17 = fset (S 17) n el) (e20 : T 20 = fset (S 20) n w)
    (hi0 : 0 ≤ i) (hi1 : i < S 3 0) (hw0 : 0 ≤ w) (hw1 : w < S 6 0) (hs : subC pl el) (ht : tm S w m pr = -1) (hy : y = lay S i) : LI T (fset ft (44 + n) w) (fset (fset fu n y) 22 (n + 1)) := by
  obtain ⟨hV, hM, hC, hA, hB, hG, hK⟩ := h
  have q1 := hV.1.2.1
  have q2 := hV.1.2.2.1
  have h3 := q1.1
  have h6 := q1.2.1
  have h11 := q1.2.2.1
  have e110 : T 11 0 = n + 1 := by rw [e11]; exact if_pos rfl
  have hmc := fun g => mem_cont (T := T) hn (by omega) (e 7 rfl) e110 e20 e14 e15 g
  have hall := fun {p : Int} (hp : 0 ≤ p) => tm_all q2 q1 m pr hp (w + 1).toNat w (by omega) (by omega) hw1 ht
  refine ⟨hVT, fun g h0 h1 => ?_, fun k hk => ?_, ?_, fun j h0 h1 => ?_, fun g h0 h1 => ?_, fun c h0 h1 => ?_⟩
  · rw [e 6 rfl] at h1
    rw [(hmc g).1, e 8 rfl]
    split
    · rename_i z
      exact (hall h0 z).1
    · have := hM g h0 h1
      omega
  · rw [e16, e17]
    by_cases z : k = n
    · rw [z, fset_e, fset_e]; exact hs
    · rw [fset_o (S 16) pl z, fset_o (S 17) el z]
      refine hC k ?_
      unfold isCK at hk ⊢
      rw [e110, e 23 rfl] at hk
      omega
  · unfold LA
    rw [e110, e 3 rfl, e 6 rfl, e 23 rfl, fset_e, fset_o _ (n + 1) (by decide), fset_o _ (n + 1) (by decide), fset_o _ (n + 1) (by decide), fset_o fu y (by omega), fset_o fu y (by omega), fset_o fu y (by omega)]
    exact ⟨hA.1, hA.2.1, rfl, hA.2.2.2⟩
  · rw [e 3 rfl] at h1
    rw [e 5 rfl, lay_congr (e 4 rfl), fset_o ft w (by omega), fset_o ft w (by omega)]
    exact hB j h0 h1
  · rw [e 6 rfl] at h1
    rw [e 7 rfl, e 8 rfl, e 9 rfl, fset_o ft w (by omega), fset_o ft w (by omega), fset_o ft w (by omega)]
    exact hG g h0 h1
  · rw [e110] at h1
    by_cases z : c = n
    · rw [z, e20, e12, lay_congr (e 4 rfl), fset_e, fset_e, fset_e, fset_o _ (n + 1) (by omega), fset_e]
      exact ⟨rfl, hy⟩
    · rw [e20, e12, lay_congr (e 4 rfl), fset_o (S 20) w z, fset_o (S 12) i z, fset_o ft w (by omega), fset_o _ (n + 1) (by omega), fset_o fu y z]
      exact hK c h0 (by omega)
theorem run_b {S : gS} {i w p s : Int} (hcd : cd_run S i w p s = 0) : (0 ≤ i ∧ i < S 3 0 ∧ 0 ≤ w ∧ w < S 6 0) ∧ (0 ≤ p ∧ p < 16 ∧ 1 ≤ s ∧ s ≤ 100) ∧ S 5 i ≠ 0 ∧ S 11 0 ≠ 20 ∧ tm S w 0 1 = -1 := by
  unfold cd_run at hcd
  (repeat' split at hcd) <;> omega
theorem LI_run {S : gS} {ft fu : Int → Int} {i w p s y : Int} (h : LI S ft fu) (hcd : cd_run S i w p s = 0) (hy : y = lay S i) : LI (st_run S i w p s) (fset ft (44 + S 11 0) w) (fset (fset fu (S 11 0) y) 22 (S 11 0 + 1)) := by
  have hco := h.1.1.2.1.2.2.1
  have q := run_b hcd
  exact LI_cont (T := bgn S i w p s) (n := S 11 0) (i := i) (w := w) (m := 0) (pr := 1) (pl := p) (el := p) h (i_run h.1 hcd) rfl (by omega) (fun k hk => bgn_e hk) bgn_11 (bgn_row (by omega)) (bgn_row (by omega)) (bgn_row (by omega)) (bgn_row (by omega)) (bgn_row (by omega)) (bgn_row (by omega)) q.1.1 q.1.2.1 q.1.2.2.1 q.1.2.2.2 (subC_self p) q.2.2.2.2 hy
theorem restore_rows {S : gS} {k w : Int} (hco : S 11 0 < 20) (hk : 0 ≤ k) : (∀ a, (a != 1 && a != 2 && a != 11 && a != 12 && a != 13 && a != 14 && a != 15 && a != 16 && a != 17 && a != 18 && a != 19 && a != 20 && a != 21 && a != 22) = true → st_restore S k w a = S a) ∧ st_restore S k w 11 = fset (S 11) 0 (S 11 0 + 1) ∧ (∀ a, 12 ≤ a → a ≤ 18 → st_restore S k w a = fset (S a) (S 11 0) (S a (20 + k))) ∧ st_restore S k w 19 = fset (S 19) (S 11 0) 0 ∧ st_restore S k w 20 = fset (S 20) (S 11 0) w ∧ st_restore S k w 21 = fset (S 21) (S 11 0) (-1) := by
  have e0 : ∀ a, a ≠ 1 → a ≠ 2 → st_restore S k w a = kps0 (bgn S 0 w 0 1) (S 11 0) (20 + k) a := fun a a1 a2 => cz_rr _ _ _ a1 a2
  have hs : ∀ a, 12 ≤ a → a ≤ 18 → (∀ v, bgn S 0 w 0 1 a = fset (S a) (S 11 0) v → st_restore S k w a = fset (S a) (S 11 0) (S a (20 + k))) := fun a a0 a1 v ev => by
    rw [e0 a (by omega) (by omega), kps0_s a0 a1, ev, fset2]
    congr 1
    exact if_neg (by omega)
  have ho : ∀ a, a < 12 ∨ 18 < a → a ≠ 1 → a ≠ 2 → st_restore S k w a = bgn S 0 w 0 1 a := fun a a0 a1 a2 => by rw [e0 a a1 a2, kps0_r a0]
  refine ⟨fun a ha => ?_, ?_, fun a a0 a1 => ?_, ?_, ?_, ?_⟩
  · have hb := bgn_e (S := S) (i := 0) (w := w) (p := 0) (s := 1) ha
    simp only [Bool.and_eq_true, bne_iff_ne] at ha
    rw [ho a (by omega) (by omega) (by omega), hb]
  · rw [ho 11 (Or.inl (by decide)) (by decide) (by decide), bgn_11]
  · have : a = 12 ∨ a = 13 ∨ a = 14 ∨ a = 15 ∨ a = 16 ∨ a = 17 ∨ a = 18 := by omega
    rcases this with rfl | rfl | rfl | rfl | rfl | rfl | rfl
    · exact hs 12 (by decide) (by decide) 0 (bgn_row (by omega))
    · exact hs 13 (by decide) (by decide) 1 (bgn_row (by omega))
    · exact hs 14 (by decide) (by decide) 0 (bgn_row (by omega))
    · exact hs 15 (by decide) (by decide) 1 (bgn_row (by omega))
    · exact hs 16 (by decide) (by decide) 0 (bgn_row (by omega))
    · exact hs 17 (by decide) (by decide) 0 (bgn_row (by omega))
    · exact hs 18 (by decide) (by decide) 0 (bgn_row (by omega))
  · rw [ho 19 (Or.inr (by decide)) (by decide) (by decide), bgn_row (v := 0) (by omega)]
  · rw [ho 20 (Or.inr (by decide)) (by decide) (by decide), bgn_row (v := w) (by omega)]
  · rw [ho 21 (Or.inr (by decide)) (by decide) (by decide), bgn_row (v := -1) (by omega)]
theorem restore_b {S : gS} {k w : Int} (hcd : cd_restore S k w = 0) : (0 ≤ k ∧ k < S 23 0 ∧ 0 ≤ w ∧ w < S 6 0) ∧ S 11 0 ≠ 20 ∧ tm S w (S 14 (20 + k)) (S 15 (20 + k)) = -1 := by
  unfold cd_restore at hcd
  (repeat' split at hcd) <;> omega
theorem LI_restore {S : gS} {ft fu : Int → Int} {k w y : Int} (h : LI S ft fu) (hcd : cd_restore S k w = 0) (hy : y = lay S (S 12 (20 + k))) : LI (st_restore S k w) (fset ft (44 + S 11 0) w) (fset (fset fu (S 11 0) y) 22 (S 11 0 + 1)) := by
  have hco := h.1.1.2.1.2.2.1
  have q := restore_b hcd
  have hc : isCK S (20 + k) := Or.inr ⟨by omega, by omega⟩
  have q3 := h.1.1.2.2.2.1 _ hc
  obtain ⟨e, e11, es, e19, e20, e21⟩ := restore_rows (S := S) (k := k) (w := w) (by omega) q.1.1
  exact LI_cont (n := S 11 0) h (i_restore h.1 hcd) rfl (by omega) e e11 (es 12 (by decide) (by decide)) (es 14 (by decide) (by decide)) (es 15 (by decide) (by decide)) (es 16 (by decide) (by decide)) (es 17 (by decide) (by decide)) e20 q3.1.1 q3.1.2 q.1.2.2.1 q.1.2.2.2 (h.2.2.1 _ hc) q.2.2 hy
theorem save_rows {S : gS} {c : Int} : (∀ k, (k != 1 && k != 2 && k != 12 && k != 13 && k != 14 && k != 15 && k != 16 && k != 17 && k != 18 && k != 23) = true → st_save S c k = S k) ∧ st_save S c 23 = fset (S 23) 0 (S 23 0 + 1) ∧ (∀ k, 12 ≤ k → k ≤ 18 → st_save S c k = fset (S k) (20 + S 23 0) (S k c)) := by
  refine ⟨fun k hk => ?_, ?_, fun k a b => ?_⟩
  · simp only [Bool.and_eq_true, bne_iff_ne] at hk
    unfold st_save kps
    rw [sset_n _ _ _ (by omega), cz_rr _ _ _ (by omega) (by omega), kps0_r (by omega)]
  · unfold st_save kps
    rw [sset_s, cz_rr _ _ _ (by decide) (by decide), kps0_r (Or.inr (by decide))]
  · unfold st_save kps
    rw [sset_n _ _ _ (by omega), cz_rr _ _ _ (by omega) (by omega), kps0_s a b]
theorem save_b {S : gS} {c : Int} (hcd : cd_save S c = 0) : 0 ≤ c ∧ c < S 11 0 ∧ S 19 c = 1 ∧ S 23 0 ≠ 5 := by
  unfold cd_save at hcd
  (repeat' split at hcd) <;> omega
theorem save_mem {S : gS} {c : Int} (hI : Inv S) (g : Int) : memI (st_save S c) g = memI S g ∧ prcI (st_save S c) g = prcI S g := by
  have h11 := hI.2.1.2.2.1
  have h23 := hI.2.1.2.2.2
  obtain ⟨e, e23, es⟩ := save_rows (S := S) (c := c)
  have eo : ∀ k, 12 ≤ k → k ≤ 18 → ∀ j, j ≠ 20 + S 23 0 → st_save S c k j = S k j := fun k a b j hj => by rw [es k a b]; exact if_neg hj
  have hmm := memN_k (T := st_save S c) (e 7 rfl) g (S 11 0).toNat (fun k hk => ⟨congrFun (e 20 rfl) _, eo 14 (by decide) (by decide) _ (by omega), eo 15 (by decide) (by decide) _ (by omega)⟩)
  unfold memI prcI
  rw [e 11 rfl]
  exact hmm
theorem LI_save {S : gS} {ft fu : Int → Int} {c : Int} (h : LI S ft fu) (hcd : cd_save S c = 0) : LI (st_save S c) ft (fset fu 23 (S 23 0 + 1)) := by
  have q := save_b hcd
  have hVT := i_save h.1 hcd
  have hm := save_mem (c := c) h.1.1
  obtain ⟨e, e23, es⟩ := save_rows (S := S) (c := c)
  obtain ⟨hV, hM, hC, hA, hB, hG, hK⟩ := h
  generalize st_save S c = T at *
  have h11 := hV.1.2.1.2.2.1
  have h23 := hV.1.2.1.2.2.2
  have e230 : T 23 0 = S 23 0 + 1 := by rw [e23]; exact if_pos rfl
  refine ⟨hVT, hM.c (e 6 rfl) (e 8 rfl) (fun p _ _ => by rw [(hm p).1]; exact Int.le_refl _), fun k hk => ?_, ?_, fun j h0 h1 => ?_, fun g h0 h1 => ?_, fun d h0 h1 => ?_⟩
  · rw [es 16 (by decide) (by decide), es 17 (by decide) (by decide)]
    by_cases z : k = 20 + S 23 0
    · rw [z, fset_e, fset_e]
      exact hC c (Or.inl ⟨q.1, q.2.1⟩)
    · rw [fset_o (S 16) _ z, fset_o (S 17) _ z]
      refine hC k ?_
      unfold isCK at hk ⊢
      rw [e230, e 11 rfl] at hk
      omega
  · unfold LA
    rw [e230, e 3 rfl, e 6 rfl, e 11 rfl, fset_e, fset_o fu _ (by decide), fset_o fu _ (by decide), fset_o fu _ (by decide)]
    exact ⟨hA.1, hA.2.1, hA.2.2.1, rfl⟩
  · rw [e 3 rfl] at h1
    rw [e 5 rfl, lay_congr (e 4 rfl)]
    exact hB j h0 h1
  · rw [e 6 rfl] at h1
    rw [e 7 rfl, e 8 rfl, e 9 rfl]
    exact hG g h0 h1
  · rw [e 11 rfl] at h1
    rw [e 20 rfl, es 12 (by decide) (by decide), fset_o (S 12) _ (by omega), lay_congr (e 4 rfl), fset_o fu _ (by omega)]
    exact hK d h0 h1
/-! time -/
theorem sched_b {S : gS} {u : Int} (hcd : cd_schedule S u = 0) : 1 ≤ u ∧ u ≤ 10000 := by
  unfold cd_schedule at hcd
  (repeat' split at hcd) <;> omega
theorem sched_eq {S : gS} {u : Int} (hI : Inv S) (hcd : cd_schedule S u = 0) : sEq S (st_schedule S u) := by
  have q := sched_b hcd
  have hi1 := hI.2.1
  unfold Inv1 at hi1
  have hIs := sg_I (n := 8) hI (show R32 u by unfold R32; omega)
  have hgs := sg_g hI q.1 q.2
  have hsI := sch_I hIs hgs (S 6 0).toNat (by show ((S 6 0).toNat : Int) ≤ sg S u 8 6 0; rw [show sg S u 8 6 0 = S 6 0 from rfl]; omega)
  exact (sg_eq S u 8).trans hsI.2.2
theorem LI_schedule {S : gS} {ft fu : Int → Int} {u : Int} (h : LI S ft fu) (hcd : cd_schedule S u = 0) : LI (st_schedule S u) ft fu := by
  have hEq := sched_eq h.1.1 hcd
  have hVT := i_schedule h.1 hcd
  obtain ⟨hV, hM, hC, hR⟩ := h
  have e : ∀ k, (k != 22 && k != 26 && k != 27) = true → st_schedule S u k = S k := fun k hk => by
    simp only [Bool.and_eq_true, bne_iff_ne] at hk
    exact hEq k hk.1.1 hk.1.2 hk.2
  exact ⟨hVT, hM.e (e 6 rfl) (e 7 rfl) (e 8 rfl) (e 11 rfl) (e 14 rfl) (e 20 rfl), hC.e (e 11 rfl) (e 16 rfl) (e 17 rfl) (e 23 rfl), hR.c (fun k hk => hEq k (fun z => by rw [z] at hk; cases hk) (fun z => by rw [z] at hk; cases hk) (fun z => by rw [z] at hk; cases hk))⟩
/-- the times of the first n containers -/
def smN (S : gS) : Nat → Int
  | 0 => 0
  | n + 1 => smN S n + S 22 n
theorem smN_sox {T : gS} (hI : Inv T) {w : Int} (hw : 0 ≤ w) : ∀ n : Nat, n ≤ 20 → smN (sox T w) n = smN T n + (amN T w (n + 8) - amN T w 8) := by
  intro n
  induction n with
  | zero => intro _; show (0 : Int) = 0 + (amN T w 8 - amN T w 8); omega
  | succ n ih =>
    intro hn
    have a := ih (by omega)
    have b := sox_22 T w (j := (n : Int)) (by omega) (by omega)
    show smN (sox T w) n + sox T w 22 n = smN T n + T 22 n + (amN T w (n + 8) + amt T w ((n + 8 : Nat) : Int) - amN T w 8)
    rw [a, b, show ((n + 8 : Nat) : Int) = (n : Int) + 8 by omega]
    omega
theorem amN_flat {T : gS} (hI : Inv T) {w : Int} (hw : 0 ≤ w) (hu : 0 ≤ T 26 w) : ∀ n k : Nat, (T 11 0).toNat + 8 ≤ n → n + k = 28 → amN T w 28 = amN T w n := by
  have h11 := hI.2.1.2.2.1
  intro n k
  induction k generalizing n with
  | zero => intro _ h; rw [show n = 28 by omega]
  | succ k ih =>
    intro h1 h2
    rw [ih (n + 1) (by omega) (by omega)]
    have hz : isp T n w = 0 := by
      unfold isp
      rw [if_pos (by omega), if_neg (fun z => by have := z.1; omega)]
    show amN T w n + amt T w n = amN T w n
    rw [(amt_b hI hw (by omega) (by omega) hu).2 hz]
    omega
theorem smN_sch {S : gS} (hI : Inv S) (hg : gI S 0) : ∀ n : Nat, n ≤ S 6 0 → smN (sch S n) (S 11 0).toNat = smN S (S 11 0).toNat + gsc S n := by
  have h11 := hI.2.1.2.2.1
  have h6 := hI.2.1.2.1
  intro n
  induction n with
  | zero => intro _; show smN S (S 11 0).toNat = smN S (S 11 0).toNat + 0; omega
  | succ n ih =>
    intro hn
    have a := ih (by omega)
    obtain ⟨hT, hgT, hEq⟩ := sch_I hI hg n (by omega)
    have e11 : sch S n 11 = S 11 := hEq 11 (by decide) (by decide) (by decide)
    have hu : 0 ≤ sch S n 26 n := (hgT.tB n (by omega) (by omega)).1
    have b := smN_sox hT (w := (n : Int)) (by omega) (S 11 0).toNat (by omega)
    have c := amN_flat hT (w := (n : Int)) (by omega) hu ((S 11 0).toNat + 8) (20 - (S 11 0).toNat) (by rw [e11]; omega) (by omega)
    have d := gso_e (sch S n) n
    show smN (sox (sch S n) n) (S 11 0).toNat = smN S (S 11 0).toNat + (gsc S n + gso (sch S n) n)
    rw [b, a, d, c]
    omega
theorem smN_sched {S : gS} {u : Int} (hI : Inv S) (hcd : cd_schedule S u = 0) : smN (st_schedule S u) (S 11 0).toNat = smN S (S 11 0).toNat + vl_schedule S u := by
  have q := sched_b hcd
  have hi1 := hI.2.1
  unfold Inv1 at hi1
  have hIs := sg_I (n := 8) hI (show R32 u by unfold R32; omega)
  have hgs := sg_g hI q.1 q.2
  have e := smN_sch hIs hgs (S 6 0).toNat (by show ((S 6 0).toNat : Int) ≤ sg S u 8 6 0; rw [show sg S u 8 6 0 = S 6 0 from rfl]; omega)
  have e22 : ∀ n : Nat, smN (sg S u 8) n = smN S n := fun n => by
    induction n with
    | zero => rfl
    | succ n ih => show smN (sg S u 8) n + sg S u 8 22 n = smN S n + S 22 n; rw [ih]; rfl
  rw [e22] at e
  exact e
theorem sched_vl {S : gS} {u : Int} (hI : Inv S) (hcd : cd_schedule S u = 0) : vl_schedule S u = if run1 S 0 = 1 then u else 0 := by
  have q := sched_b hcd
  exact gsc_v hI q.1 q.2
/-- does one of the first n containers run -/
def rnN (S : gS) : Nat → Int
  | 0 => 0
  | n + 1 => if rnN S n = 1 ∨ S 19 n = 0 then 1 else 0
theorem rnN_01 (S : gS) : ∀ n : Nat, rnN S n = 0 ∨ rnN S n = 1 := by
  intro n
  cases n with
  | zero => exact Or.inl rfl
  | succ n => show (if rnN S n = 1 ∨ S 19 n = 0 then (1 : Int) else 0) = 0 ∨ (if rnN S n = 1 ∨ S 19 n = 0 then (1 : Int) else 0) = 1; split <;> omega
theorem rnN_run {S : gS} (hI : Inv S) : ∀ n : Nat, n ≤ S 11 0 → runN S 0 n = rnN S n := by
  intro n
  induction n with
  | zero => intro _; rfl
  | succ n ih =>
    intro hn
    have a := ih (by omega)
    have q4 := (hI.2.2.2.2.1 n (by omega) (by omega)).2.1
    have hb := bel_root hI.2.2.1 hI.2.1 (S 20 n + 1).toNat (S 20 n) (by omega) q4.1 q4.2
    show (if runN S 0 n = 1 ∨ (S 19 n = 0 ∧ bel S (S 20 n) 0 = 1) then (1 : Int) else 0) = if rnN S n = 1 ∨ S 19 n = 0 then 1 else 0
    rw [a, hb]
    simp only [and_true]
theorem rnN_e {S : gS} (hI : Inv S) : run1 S 0 = rnN S (S 11 0).toNat := by
  have h11 := hI.2.1.2.2.1
  exact rnN_run hI _ (by omega)
/-! memory asked for -/
theorem alK_li {c u : Int} {ft fu : Int → Int} (hc0 : 0 ≤ c) : ∀ (n : Nat) {S : gS}, LI S ft fu → c < S 11 0 → (S 19 c = 0 ∨ S 19 c = 2) → LI (alK c u n S) ft fu ∧ alK c u n S 11 = S 11 ∧ alK c u n S 20 = S 20 ∧ ((alK c u n S 19 c = 0 ∧ alK c u n S 14 c = S 14 c) ∨ alK c u n S 19 c = 2) := by
  intro n
  induction n with
  | zero => 
    intro S h b d
    refine ⟨h, rfl, rfl, ?_⟩
    rcases d with d | d
    · exact Or.inl ⟨d, rfl⟩
    · exact Or.inr d
  | succ n ih =>
    intro S h b d
    unfold alK
    split
    · rename_i q
      have hv := vict h.1.1 hc0 b q.2 q.1
      generalize gre S (tm S (S 20 c) u 0) = v at *
      have e11 : stp S v 11 = S 11 := stp_k rfl
      have e20 : stp S v 20 = S 20 := stp_k rfl
      have hs : stp S v 19 c = 0 ∨ stp S v 19 c = 2 := by
        by_cases z : c = v
        · rw [z]; exact Or.inr (stp_c S v).2.2.2.1
        · rw [(stp_n S z).2.2.2.1]; exact d
      obtain ⟨k1, k2, k3, k4⟩ := ih (LI_stp h hv.2.2.1 hv.2.2.2.1) (by rw [e11]; exact b) hs
      refine ⟨k1, k2.trans e11, k3.trans e20, ?_⟩
      rcases k4 with k4 | k4
      · by_cases z : c = v
        · -- the victim itself: it stays stopped
          exfalso
          have hst : ∀ (m : Nat) (T : gS), T 19 c = 2 → alK c u m T 19 c = 2 := by
            intro m
            cases m with
            | zero => intro T hT; exact hT
            | succ m => intro T hT; unfold alK; rw [if_neg (fun y => by omega)]; exact hT
          have := hst n (stp S v) (by rw [z]; exact (stp_c S v).2.2.2.1)
          omega
        · rw [(stp_n S z).1] at k4
          exact Or.inl k4
      · exact Or.inr k4
    · refine ⟨h, rfl, rfl, ?_⟩
      rcases d with d | d
      · exact Or.inl ⟨d, rfl⟩
      · exact Or.inr d
theorem alloc_b {S : gS} {c u : Int} (hcd : cd_allocate S c u = 0) : 0 ≤ c ∧ c < S 11 0 ∧ 1 ≤ u ∧ u ≤ 5000 ∧ S 19 c = 0 := by
  unfold cd_allocate at hcd
  (repeat' split at hcd) <;> omega
theorem LI_allocate {S : gS} {ft fu : Int → Int} {c u : Int} (h : LI S ft fu) (hcd : cd_allocate S c u = 0) : LI (st_allocate S c u) ft fu := by
  have q := alloc_b hcd
  have h11 := h.1.1.2.1.2.2.1
  have hVT := i_allocate h.1 hcd
  obtain ⟨k1, k2, k3, -⟩ := alK_li (u := u) q.1 21 h q.2.1 (Or.inl q.2.2.2.2)
  unfold st_allocate at hVT ⊢
  split at hVT
  · rename_i z
    rw [if_pos z]
    exact k1
  · rename_i z
    rw [if_neg z]
    have ht : tm (alS S c u) (alS S c u 20 c) u 0 = -1 := alK_end q.1 21 h.1 q.2.1 (Or.inl q.2.2.2.2) (by have := nsN_b S (S 11 0).toNat; unfold ns; omega) z
    have hcT : c < alS S c u 11 0 := by rw [show alS S c u 11 = S 11 from k2]; exact q.2.1
    have kk : LI (alS S c u) ft fu := k1
    generalize alS S c u = T at *
    obtain ⟨hV, hM, hC, hR⟩ := kk
    have q4 := (hV.1.2.2.2.2.1 c q.1 hcT).2.1
    have e : ∀ k, k ≠ 14 → sset T 14 c (T 14 c + u) k = T k := fun k hk => sset_n T c _ hk
    refine ⟨hVT, fun p h0 h1 => ?_, hC.e (e 11 (by decide)) (e 16 (by decide)) (e 17 (by decide)) (e 23 (by decide)), hR.c (fun k hk => e k (fun z => by rw [z] at hk; cases hk))⟩
    rw [e 6 (by decide)] at h1
    rw [e 8 (by decide)]
    have em := memI_up (S' := sset T 14 c (T 14 c + u)) hV.1.2.1 (e 7 (by decide)) (e 11 (by decide)) (e 20 (by decide)) p q.1 hcT (fun k hk => sset_o _ _ _ _ hk)
    rw [em, sset_e]
    split
    · rename_i y
      have := (tm_all hV.1.2.2.1 hV.1.2.1 u 0 h0 (T 20 c + 1).toNat (T 20 c) (by omega) (by omega) q4.2 ht y).1
      omega
    · have := hM p h0 h1
      omega
/-- what allocate answers -/
theorem alloc_vl {S : gS} {ft fu : Int → Int} {c u : Int} (h : LI S ft fu) (hcd : cd_allocate S c u = 0) : (vl_allocate S c u = -1 ∧ st_allocate S c u 19 c = 2) ∨ (vl_allocate S c u = S 14 c + u ∧ st_allocate S c u 19 c = 0 ∧ st_allocate S c u 14 c = S 14 c + u) := by
  have q := alloc_b hcd
  obtain ⟨k1, k2, k3, k4⟩ := alK_li (u := u) q.1 21 h q.2.1 (Or.inl q.2.2.2.2)
  unfold vl_allocate st_allocate
  have e : alS S c u = alK c u 21 S := rfl
  rw [← e] at k4
  rcases k4 with k4 | k4
  · refine Or.inr ?_
    rw [if_neg (by omega), if_neg (by omega), k4.2]
    exact ⟨rfl, k4.1, (sset_e _ _ _ _).trans rfl⟩
  · rw [if_pos k4, if_pos k4]
    exact Or.inl ⟨rfl, k4⟩
