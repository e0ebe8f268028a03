/-! what holds between the law's steps: the law's rows t, u beside the grid S -/
theorem bitk0 (a : Int) : bit a 0 = a % 2 := by
  unfold bit
  rw [show (2 : Int) ^ (0 : Int).toNat = 1 from by decide, Int.ediv_one]
theorem bitk1 (a : Int) : bit a 1 = a / 2 % 2 := by
  unfold bit
  rw [show (2 : Int) ^ (1 : Int).toNat = 2 from by decide]
theorem bitk2 (a : Int) : bit a 2 = a / 4 % 2 := by
  unfold bit
  rw [show (2 : Int) ^ (2 : Int).toNat = 4 from by decide]
theorem bitk3 (a : Int) : bit a 3 = a / 8 % 2 := by
  unfold bit
  rw [show (2 : Int) ^ (3 : Int).toNat = 8 from by decide]
theorem bsetk0 (a : Int) : bset a 0 = a - a % 2 + 1 := by
  unfold bset
  rw [bitk0, show (2 : Int) ^ (0 : Int).toNat = 1 from by decide]
  omega
theorem bsetk1 (a : Int) : bset a 1 = a - a / 2 % 2 * 2 + 2 := by
  unfold bset
  rw [bitk1, show (2 : Int) ^ (1 : Int).toNat = 2 from by decide]
theorem bsetk2 (a : Int) : bset a 2 = a - a / 4 % 2 * 4 + 4 := by
  unfold bset
  rw [bitk2, show (2 : Int) ^ (2 : Int).toNat = 4 from by decide]
theorem bsetk3 (a : Int) : bset a 3 = a - a / 8 % 2 * 8 + 8 := by
  unfold bset
  rw [bitk3, show (2 : Int) ^ (3 : Int).toNat = 8 from by decide]
theorem bclrk0 (a : Int) : bclr a 0 = a - a % 2 := by
  unfold bclr
  rw [bitk0, show (2 : Int) ^ (0 : Int).toNat = 1 from by decide]
  omega
theorem bclrk1 (a : Int) : bclr a 1 = a - a / 2 % 2 * 2 := by
  unfold bclr
  rw [bitk1, show (2 : Int) ^ (1 : Int).toNat = 2 from by decide]
theorem bclrk2 (a : Int) : bclr a 2 = a - a / 4 % 2 * 4 := by
  unfold bclr
  rw [bitk2, show (2 : Int) ^ (2 : Int).toNat = 4 from by decide]
theorem bclrk3 (a : Int) : bclr a 3 = a - a / 8 % 2 * 8 := by
  unfold bclr
  rw [bitk3, show (2 : Int) ^ (3 : Int).toNat = 8 from by decide]
theorem j4 {k : Int} (h0 : 0 ≤ k) (h1 : k < 4) : k = 0 ∨ k = 1 ∨ k = 2 ∨ k = 3 := by omega
/-- the effective capabilities b are among the permitted ones a -/
def subC (a b : Int) : Prop := (b % 2 = 1 → a % 2 = 1) ∧ (b / 2 % 2 = 1 → a / 2 % 2 = 1) ∧ (b / 4 % 2 = 1 → a / 4 % 2 = 1) ∧ (b / 8 % 2 = 1 → a / 8 % 2 = 1)
theorem subC_self (a : Int) : subC a a := ⟨id, id, id, id⟩
theorem subC_raise {a b k : Int} (h : subC a b) (h0 : 0 ≤ k) (h1 : k < 4) (ha : bit a k ≠ 0) : subC a (bset b k) := by
  obtain ⟨q0, q1, q2, q3⟩ := h
  rcases j4 h0 h1 with e | e | e | e
  · rw [e, bitk0] at ha
    rw [e, bsetk0]
    refine ⟨?_, ?_, ?_, ?_⟩ <;> omega
  · rw [e, bitk1] at ha
    rw [e, bsetk1]
    refine ⟨?_, ?_, ?_, ?_⟩ <;> omega
  · rw [e, bitk2] at ha
    rw [e, bsetk2]
    refine ⟨?_, ?_, ?_, ?_⟩ <;> omega
  · rw [e, bitk3] at ha
    rw [e, bsetk3]
    refine ⟨?_, ?_, ?_, ?_⟩ <;> omega
theorem subC_lower {a b k : Int} (h : subC a b) (h0 : 0 ≤ k) (h1 : k < 4) : subC a (bclr b k) := by
  obtain ⟨q0, q1, q2, q3⟩ := h
  rcases j4 h0 h1 with e | e | e | e
  · rw [e, bclrk0]
    refine ⟨?_, ?_, ?_, ?_⟩ <;> omega
  · rw [e, bclrk1]
    refine ⟨?_, ?_, ?_, ?_⟩ <;> omega
  · rw [e, bclrk2]
    refine ⟨?_, ?_, ?_, ?_⟩ <;> omega
  · rw [e, bclrk3]
    refine ⟨?_, ?_, ?_, ?_⟩ <;> omega
theorem subC_drop {a b k : Int} (h : subC a b) (h0 : 0 ≤ k) (h1 : k < 4) : subC (bclr a k) (bclr b k) := by
  obtain ⟨q0, q1, q2, q3⟩ := h
  rcases j4 h0 h1 with e | e | e | e
  · rw [e, bclrk0, bclrk0]
    refine ⟨?_, ?_, ?_, ?_⟩ <;> omega
  · rw [e, bclrk1, bclrk1]
    refine ⟨?_, ?_, ?_, ?_⟩ <;> omega
  · rw [e, bclrk2, bclrk2]
    refine ⟨?_, ?_, ?_, ?_⟩ <;> omega
  · rw [e, bclrk3, bclrk3]
    refine ⟨?_, ?_, ?_, ?_⟩ <;> omega
/-- no group holds more memory than its limit -/
def LM (S : gS) : Prop := ∀ p, 0 ≤ p → p < S 6 0 → memI S p ≤ S 8 p
def LC (S : gS) : Prop := ∀ k, isCK S k → subC (S 16 k) (S 17 k)
def LA (S : gS) (fu : Int → Int) : Prop := fu 20 = S 3 0 ∧ fu 21 = S 6 0 ∧ fu 22 = S 11 0 ∧ fu 23 = S 23 0
def LB (S : gS) (ft : Int → Int) : Prop := ∀ i, 0 ≤ i → i < S 3 0 → ft i = S 5 i ∧ ft (10 + i) = lay S i
def LG (S : gS) (ft : Int → Int) : Prop := ∀ p, 0 ≤ p → p < S 6 0 → ft (20 + p) = S 7 p ∧ ft (28 + p) = S 8 p ∧ ft (36 + p) = S 9 p
def LK (S : gS) (ft fu : Int → Int) : Prop := ∀ c, 0 ≤ c → c < S 11 0 → ft (44 + c) = S 20 c ∧ fu c = lay S (S 12 c)
def LR (S : gS) (ft fu : Int → Int) : Prop := LA S fu ∧ LB S ft ∧ LG S ft ∧ LK S ft fu
def LI (S : gS) (ft fu : Int → Int) : Prop := IV S ∧ LM S ∧ LC S ∧ LR S ft fu
def lrw (k : Nat) : Bool := k == 3 || k == 4 || k == 5 || k == 6 || k == 7 || k == 8 || k == 9 || k == 11 || k == 12 || k == 20 || k == 23
theorem LR.c {S T : gS} {ft fu : Int → Int} (h : LR S ft fu) (e : ∀ k, lrw k = true → T k = S k) : LR T ft fu := by
  have e3 := e 3 rfl
  have e4 := e 4 rfl
  have e5 := e 5 rfl
  have e6 := e 6 rfl
  have e7 := e 7 rfl
  have e8 := e 8 rfl
  have e9 := e 9 rfl
  have e11 := e 11 rfl
  have e12 := e 12 rfl
  have e20 := e 20 rfl
  have e23 := e 23 rfl
  obtain ⟨hA, hB, hG, hK⟩ := h
  refine ⟨?_, fun i h0 h1 => ?_, fun p h0 h1 => ?_, fun c h0 h1 => ?_⟩
  · unfold LA
    rw [e3, e6, e11, e23]
    exact hA
  · rw [e3] at h1
    rw [e5, lay_congr e4]
    exact hB i h0 h1
  · rw [e6] at h1
    rw [e7, e8, e9]
    exact hG p h0 h1
  · rw [e11] at h1
    rw [e20, e12, lay_congr e4]
    exact hK c h0 h1
theorem LM.c {S T : gS} (h : LM S) (e6 : T 6 = S 6) (e8 : T 8 = S 8) (hm : ∀ p, 0 ≤ p → p < S 6 0 → memI T p ≤ memI S p) : LM T := fun p h0 h1 => by
  rw [e6] at h1
  rw [e8]
  exact Int.le_trans (hm p h0 h1) (h p h0 h1)
theorem LM.e {S T : gS} (h : LM S) (e6 : T 6 = S 6) (e7 : T 7 = S 7) (e8 : T 8 = S 8) (e11 : T 11 = S 11) (e14 : T 14 = S 14) (e20 : T 20 = S 20) : LM T := h.c e6 e8 (fun p _ _ => by rw [memI_eq e7 e11 e14 e20]; exact Int.le_refl _)
theorem LC.e {S T : gS} (h : LC S) (e11 : T 11 = S 11) (e16 : T 16 = S 16) (e17 : T 17 = S 17) (e23 : T 23 = S 23) : LC T := fun k hk => by
  rw [isCK.eq e11 e23] at hk
  rw [e16, e17]
  exact h k hk
theorem LI.agr {S9 T : gS} {ft fu : Int → Int} (h : LI T ft fu) (ha : agr S9 T) (hE : Ext S9) : LI S9 ft fu := by
  obtain ⟨hV, hM, hC, hR⟩ := h
  have e : ∀ k, k < 28 → S9 k = T k := ha
  exact ⟨hV.agr ha hE, hM.e (e 6 (by decide)) (e 7 (by decide)) (e 8 (by decide)) (e 11 (by decide)) (e 14 (by decide)) (e 20 (by decide)), hC.e (e 11 (by decide)) (e 16 (by decide)) (e 17 (by decide)) (e 23 (by decide)), hR.c (fun k hk => e k (by
    unfold lrw at hk
    simp only [Bool.or_eq_true, beq_iff_eq] at hk
    omega))⟩
/-- one row changes, none of those that the law keeps -/
theorem LI_row {S : gS} {ft fu : Int → Int} {r : Nat} {i v : Int} (h : LI S ft fu) (hV : IV (sset S r i v)) (hr : (lrw r || r == 14 || r == 16 || r == 17) = false) : LI (sset S r i v) ft fu := by
  have q : ∀ k, (lrw k || k == 14 || k == 16 || k == 17) = true → sset S r i v k = S k := fun k hk => sset_n S i v (fun z => by rw [z, hr] at hk; cases hk)
  obtain ⟨_, hM, hC, hR⟩ := h
  exact ⟨hV, hM.e (q 6 rfl) (q 7 rfl) (q 8 rfl) (q 11 rfl) (q 14 rfl) (q 20 rfl), hC.e (q 11 rfl) (q 16 rfl) (q 17 rfl) (q 23 rfl), hR.c (fun k hk => q k (by rw [hk]; rfl))⟩
/-- a container's capabilities change -/
theorem LC_put {S : gS} {c v : Int} (h : LC S) (hs : subC (S 16 c) v) : LC (sset S 17 c v) := fun k hk => by
  rw [isCK.eq (sset_n S c v (by decide)) (sset_n S c v (by decide))] at hk
  rw [sset_n S (k := 17) (a := 16) c v (by decide)]
  by_cases z : k = c
  · rw [z, sset_e]
    exact hs
  · rw [sset_o S 17 v 17 z]
    exact h k hk
theorem memI_stp {S : gS} (hI : Inv S) {c : Int} (h0 : 0 ≤ c) (h1 : c < S 11 0) (p : Int) : memI (stp S c) p = memI S p - (if bel S (S 20 c) p = 1 then S 14 c else 0) := by
  have e := memI_up (S' := stp S c) hI.2.1 (stp_row (by decide) (by decide) (by decide) (by decide) (by decide) (by decide)) (stp_row (by decide) (by decide) (by decide) (by decide) (by decide) (by decide)) (stp_row (by decide) (by decide) (by decide) (by decide) (by decide) (by decide)) p h0 h1 (fun k hk => (stp_n S hk).1)
  rw [e, (stp_c S c).1]
  split <;> omega
theorem prcI_stp {S : gS} (hI : Inv S) {c : Int} (h0 : 0 ≤ c) (h1 : c < S 11 0) (p : Int) : prcI (stp S c) p = prcI S p - (if bel S (S 20 c) p = 1 then S 15 c else 0) := by
  have e := prcI_up (S' := stp S c) hI.2.1 (stp_row (by decide) (by decide) (by decide) (by decide) (by decide) (by decide)) (stp_row (by decide) (by decide) (by decide) (by decide) (by decide) (by decide)) (stp_row (by decide) (by decide) (by decide) (by decide) (by decide) (by decide)) p h0 h1 (fun k hk => (stp_n S hk).2.1)
  rw [e, (stp_c S c).2.1]
  split <;> omega
theorem stp_k {S : gS} {c : Int} {k : Nat} (h : (k != 14 && k != 15 && k != 18 && k != 19 && k != 21 && k != 24) = true) : stp S c k = S k := by
  simp only [Bool.and_eq_true, bne_iff_ne] at h
  exact stp_row (by omega) (by omega) (by omega) (by omega) (by omega) (by omega)
theorem LI_stp {S : gS} {ft fu : Int → Int} (h : LI S ft fu) {c : Int} (h0 : 0 ≤ c) (h1 : c < S 11 0) : LI (stp S c) ft fu := by
  obtain ⟨hV, hM, hC, hR⟩ := h
  have h14 := (hV.1.2.2.2.1 c (Or.inl ⟨h0, h1⟩)).2.2.1.1
  refine ⟨i_stp hV h0 h1, hM.c (stp_k rfl) (stp_k rfl) (fun p _ _ => ?_), hC.e (stp_k rfl) (stp_k rfl) (stp_k rfl) (stp_k rfl), hR.c (fun k hk => stp_k ?_)⟩
  · rw [memI_stp hV.1 h0 h1]
    split <;> omega
  · unfold lrw at hk
    simp only [Bool.or_eq_true, beq_iff_eq] at hk
    rcases hk with (((((((((hk | hk) | hk) | hk) | hk) | hk) | hk) | hk) | hk) | hk) | hk <;> (rw [hk]; rfl)
/-! the operations that keep the law's rows -/
theorem LI_write {S : gS} {ft fu : Int → Int} {i f c : Int} (h : LI S ft fu) (hcd : cd_write S i f c = 0) : LI (st_write S i f c) ft fu := LI_row h (i_write h.1 hcd) rfl
theorem LI_remove {S : gS} {ft fu : Int → Int} {i f : Int} (h : LI S ft fu) : LI (st_remove S i f) ft fu := LI_row h (i_remove h.1) rfl
theorem LI_writeFile {S : gS} {ft fu : Int → Int} {c f v : Int} (h : LI S ft fu) (hcd : cd_writeFile S c f v = 0) : LI (st_writeFile S c f v) ft fu := LI_row h (i_writeFile h.1 hcd) rfl
theorem LI_removeFile {S : gS} {ft fu : Int → Int} {c f : Int} (h : LI S ft fu) : LI (st_removeFile S c f) ft fu := LI_row h (i_removeFile h.1) rfl
theorem LI_pause {S : gS} {ft fu : Int → Int} {c : Int} (h : LI S ft fu) (hcd : cd_pause S c = 0) : LI (st_pause S c) ft fu := LI_row h (i_pause h.1 hcd) rfl
theorem LI_resume {S : gS} {ft fu : Int → Int} {c : Int} (h : LI S ft fu) (hcd : cd_resume S c = 0) : LI (st_resume S c) ft fu := LI_row h (i_resume h.1 hcd) rfl
theorem LI_fork {S : gS} {ft fu : Int → Int} {c : Int} (h : LI S ft fu) (hcd : cd_fork S c = 0) : LI (st_fork S c) ft fu := LI_row h (i_fork h.1 hcd) rfl
theorem LI_listen {S : gS} {ft fu : Int → Int} {c p : Int} (h : LI S ft fu) (hcd : cd_listen S c p = 0) : LI (st_listen S c p) ft fu := LI_row h (i_listen h.1 hcd) rfl
theorem LI_attach {S : gS} {ft fu : Int → Int} {c b : Int} (h : LI S ft fu) (hcd : cd_attach S c b = 0) : LI (st_attach S c b) ft fu := LI_row h (i_attach h.1 hcd) rfl
theorem LI_detach {S : gS} {ft fu : Int → Int} {c : Int} (h : LI S ft fu) (hcd : cd_detach S c = 0) : LI (st_detach S c) ft fu := LI_row h (i_detach h.1 hcd) rfl
theorem LI_stop {S : gS} {ft fu : Int → Int} {c : Int} (h : LI S ft fu) (hcd : cd_stop S c = 0) : LI (st_stop S c) ft fu := by
  unfold cd_stop at hcd
  exact LI_stp h (by (repeat' split at hcd) <;> omega) (by (repeat' split at hcd) <;> omega)
theorem LI_kill {S : gS} {ft fu : Int → Int} {c v : Int} (h : LI S ft fu) (hcd : cd_kill S c v = 0) : LI (st_kill S c v) ft fu := by
  unfold cd_kill at hcd
  exact LI_stp h (by (repeat' split at hcd) <;> omega) (by (repeat' split at hcd) <;> omega)
theorem LI_clear {S : gS} {ft fu : Int → Int} {i d : Int} (h : LI S ft fu) (hcd : cd_clear S i d = 0) : LI (st_clear S i d) ft fu := by
  obtain ⟨hV, hM, hC, hR⟩ := h
  have q : ∀ k, k ≠ 1 → k ≠ 2 → st_clear S i d k = S k := fun k h1 h2 => by
    unfold st_clear
    rw [sset_n _ _ _ h2]
    funext j
    unfold zz
    rw [if_neg (fun z => h1 z.1)]
  refine ⟨i_clear hV hcd, hM.e (q 6 (by decide) (by decide)) (q 7 (by decide) (by decide)) (q 8 (by decide) (by decide)) (q 11 (by decide) (by decide)) (q 14 (by decide) (by decide)) (q 20 (by decide) (by decide)), hC.e (q 11 (by decide) (by decide)) (q 16 (by decide) (by decide)) (q 17 (by decide) (by decide)) (q 23 (by decide) (by decide)), hR.c (fun k hk => q k (fun z => by rw [z] at hk; cases hk) (fun z => by rw [z] at hk; cases hk))⟩
theorem LI_free {S : gS} {ft fu : Int → Int} {c u : Int} (h : LI S ft fu) (hcd : cd_free S c u = 0) : LI (st_free S c u) ft fu := by
  obtain ⟨hV, hM, hC, hR⟩ := h
  have hb : 0 ≤ c ∧ c < S 11 0 ∧ 1 ≤ u := by
    unfold cd_free at hcd
    (repeat' split at hcd) <;> omega
  have q : ∀ k, k ≠ 14 → st_free S c u k = S k := fun k hk => sset_n S c _ hk
  refine ⟨i_free hV hcd, hM.c (q 6 (by decide)) (q 8 (by decide)) (fun p _ _ => ?_), hC.e (q 11 (by decide)) (q 16 (by decide)) (q 17 (by decide)) (q 23 (by decide)), hR.c (fun k hk => q k (fun z => by rw [z] at hk; cases hk))⟩
  have e := memI_up (S' := st_free S c u) hV.1.2.1 (q 7 (by decide)) (q 11 (by decide)) (q 20 (by decide)) p hb.1 hb.2.1 (fun k hk => sset_o S 14 _ 14 hk)
  rw [e, show st_free S c u 14 c = S 14 c - u from sset_e S 14 c _]
  split <;> omega
theorem LI_exit {S : gS} {ft fu : Int → Int} {c : Int} (h : LI S ft fu) (hcd : cd_exit S c = 0) : LI (st_exit S c) ft fu := by
  have hb : 0 ≤ c ∧ c < S 11 0 := by
    unfold cd_exit ist at hcd
    (repeat' split at hcd) <;> omega
  have hV := i_exit h.1 hcd
  unfold st_exit at hV ⊢
  split at hV
  · rename_i z
    rw [if_pos z, stp_e15]
    exact LI_stp h hb.1 hb.2
  · rename_i z
    rw [if_neg z]
    exact LI_row h hV rfl
theorem LI_raise {S : gS} {ft fu : Int → Int} {c k : Int} (h : LI S ft fu) (hcd : cd_raise S c k = 0) : LI (st_raise S c k) ft fu := by
  have hV := i_raise h.1 hcd
  obtain ⟨_, hM, hC, hR⟩ := h
  have hb : (0 ≤ c ∧ c < S 11 0) ∧ (0 ≤ k ∧ k < 4) ∧ bit (S 16 c) k ≠ 0 := by
    unfold cd_raise icp at hcd
    (repeat' split at hcd) <;> omega
  have q : ∀ k9, k9 ≠ 17 → st_raise S c k k9 = S k9 := fun k9 hk => sset_n S c _ hk
  exact ⟨hV, hM.e (q 6 (by decide)) (q 7 (by decide)) (q 8 (by decide)) (q 11 (by decide)) (q 14 (by decide)) (q 20 (by decide)), LC_put hC (subC_raise (hC c (Or.inl hb.1)) hb.2.1.1 hb.2.1.2 hb.2.2), hR.c (fun k9 hk => q k9 (fun z => by rw [z] at hk; cases hk))⟩
theorem LI_lower {S : gS} {ft fu : Int → Int} {c k : Int} (h : LI S ft fu) (hcd : cd_lower S c k = 0) : LI (st_lower S c k) ft fu := by
  have hV := i_lower h.1 hcd
  obtain ⟨_, hM, hC, hR⟩ := h
  have hb : (0 ≤ c ∧ c < S 11 0) ∧ (0 ≤ k ∧ k < 4) := by
    unfold cd_lower icp at hcd
    (repeat' split at hcd) <;> omega
  have q : ∀ k9, k9 ≠ 17 → st_lower S c k k9 = S k9 := fun k9 hk => sset_n S c _ hk
  exact ⟨hV, hM.e (q 6 (by decide)) (q 7 (by decide)) (q 8 (by decide)) (q 11 (by decide)) (q 14 (by decide)) (q 20 (by decide)), LC_put hC (subC_lower (hC c (Or.inl hb.1)) hb.2.1 hb.2.2), hR.c (fun k9 hk => q k9 (fun z => by rw [z] at hk; cases hk))⟩
theorem LI_drop {S : gS} {ft fu : Int → Int} {c k : Int} (h : LI S ft fu) (hcd : cd_drop S c k = 0) : LI (st_drop S c k) ft fu := by
  have hV := i_drop h.1 hcd
  obtain ⟨_, hM, hC, hR⟩ := h
  have hb : (0 ≤ c ∧ c < S 11 0) ∧ (0 ≤ k ∧ k < 4) := by
    unfold cd_drop icp at hcd
    (repeat' split at hcd) <;> omega
  have q : ∀ k9, k9 ≠ 17 → k9 ≠ 16 → st_drop S c k k9 = S k9 := fun k9 hk hk2 => by
    unfold st_drop
    rw [sset_n _ _ _ hk2, sset_n _ _ _ hk]
  refine ⟨hV, hM.e (q 6 (by decide) (by decide)) (q 7 (by decide) (by decide)) (q 8 (by decide) (by decide)) (q 11 (by decide) (by decide)) (q 14 (by decide) (by decide)) (q 20 (by decide) (by decide)), fun j hj => ?_, hR.c (fun k9 hk => q k9 (fun z => by rw [z] at hk; cases hk) (fun z => by rw [z] at hk; cases hk))⟩
  rw [isCK.eq (q 11 (by decide) (by decide)) (q 23 (by decide) (by decide))] at hj
  have e16 : st_drop S c k 16 j = if j = c then bclr (S 16 c) k else S 16 j := by
    unfold st_drop
    rw [sset_s]
    unfold fset
    split
    · rfl
    · rw [sset_n _ _ _ (by decide)]
  have e17 : st_drop S c k 17 j = if j = c then bclr (S 17 c) k else S 17 j := by
    unfold st_drop
    rw [sset_n _ _ _ (by decide), sset_s]
    rfl
  rw [e16, e17]
  by_cases z : j = c
  · rw [if_pos z, if_pos z]
    exact subC_drop (hC c (Or.inl hb.1)) hb.2.1 hb.2.2
  · rw [if_neg z, if_neg z]
    exact hC j hj
