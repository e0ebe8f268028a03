/-! what the sharing out of one group does to the rows; all of it together -/
theorem bstN_c {r r' : Int → Int} : ∀ n : Nat, (∀ p : Int, 0 ≤ p → p ≤ n → r p = r' p) → bstN r n = bstN r' n := by
  intro n
  induction n with
  | zero => intro _; rfl
  | succ n ih =>
    intro h
    have hb := bstN_b r' n
    unfold bstN
    rw [ih (fun p h0 h1 => h p h0 (by omega)), h (bstN r' n) hb.1 (by omega), h ((n : Int) + 1) (by omega) (by omega)]
theorem rN_c {r r' : Int → Int} (h : ∀ p, 0 ≤ p → p ≤ 27 → r p = r' p) : ∀ (m : Nat) (p : Int), 0 ≤ p → p ≤ 27 → rN r m p = rN r' m p := by
  intro m
  induction m with
  | zero => exact h
  | succ m ih =>
    intro p h0 h1
    show fset (rN r m) (bstN (rN r m) 27) (-1) p = fset (rN r' m) (bstN (rN r' m) 27) (-1) p
    rw [bstN_c 27 ih]
    unfold fset
    split
    · rfl
    · exact ih p h0 h1
theorem pk_c {r r' : Int → Int} (h : ∀ p, 0 ≤ p → p ≤ 27 → r p = r' p) (m : Nat) : pk r m = pk r' m := bstN_c 27 (rN_c h m)
theorem exN_c {r r' : Int → Int} (h : ∀ p, 0 ≤ p → p ≤ 27 → r p = r' p) (p : Int) : ∀ m : Nat, exN r m p = exN r' m p := by
  intro m
  induction m with
  | zero => rfl
  | succ m ih => unfold exN; rw [ih, pk_c h]
theorem gxN_c {r r' : Int → Int} (h : ∀ p, 0 ≤ p → p ≤ 27 → r p = r' p) : ∀ m : Nat, gxN r m = gxN r' m := by
  intro m
  induction m with
  | zero => rfl
  | succ m ih => unfold gxN; rw [ih, pk_c h]
theorem exN_m (r : Int → Int) (p : Int) : ∀ m : Nat, 0 ≤ exN r m p ∧ exN r m p ≤ m := by
  intro m
  induction m with
  | zero => unfold exN; omega
  | succ m ih => unfold exN; split <;> omega
theorem s2_27 (S : gS) (w p : Int) (h0 : 0 ≤ p) (h1 : p ≤ 27) : s2 S w 28 27 p = r0 S w p := by
  unfold s2
  rw [if_neg (by omega), if_neg (by omega), if_pos (by omega)]
theorem sox_26 (S : gS) (w : Int) {j : Int} (h0 : 0 ≤ j) (h1 : j < 8) : sox S w 26 j = S 26 j + amt S w j := by
  unfold sox s4 amt
  rw [if_pos (by omega), exN_c (s2_27 S w)]
  unfold s2
  by_cases q : isp S j w = 1
  · rw [if_pos ⟨rfl, h0, h1, by omega, q⟩, if_pos q]; omega
  · rw [if_neg (fun e => q e.2.2.2.2), if_neg (by omega), if_neg (by omega), if_neg q]; omega
theorem sox_22 (S : gS) (w : Int) {j : Int} (h0 : 0 ≤ j) (h1 : j < 20) : sox S w 22 j = S 22 j + amt S w (j + 8) := by
  unfold sox s4 amt
  rw [if_neg (by omega), if_pos (by omega), exN_c (s2_27 S w)]
  unfold s2
  by_cases q : isp S (j + 8) w = 1
  · rw [if_neg (by omega), if_pos ⟨rfl, h0, by omega, q⟩, if_pos q]; omega
  · rw [if_neg (by omega), if_neg (fun e => q e.2.2.2), if_neg (by omega), if_neg q]; omega
theorem sEq.trans {S T U : gS} (h : sEq S T) (h' : sEq T U) : sEq S U := fun k a b c => (h' k a b c).trans (h k a b c)
theorem sox_eq (S : gS) (w : Int) : sEq S (sox S w) := (s2_eq S w 28).trans (s4_eq _ _)
theorem sox_R {S : gS} (hI : Inv S) (hB : tB S) {w : Int} (hw : 0 ≤ w) (hw8 : w < 8) : hRp (sox S w) := by
  have hu := hB w hw hw8
  have hl := lef_b hI hw hu.1
  have hcn := cn2_b S w 28
  have h2 := s2_R hI hB hw hw8 (n := 28) (by omega)
  intro k j hk
  unfold sox s4
  split
  · rename_i q
    have he := exN_m (s2 S w 28 27) j (lef S w).toNat
    have hj := hB j q.2.1 q.2.2
    have : s2 S w 28 26 j = S 26 j + (if isp S j w = 1 then its1 S w j else 0) := by
      unfold s2
      by_cases q2 : isp S j w = 1
      · rw [if_pos ⟨rfl, q.2.1, q.2.2, by omega, q2⟩, if_pos q2]
      · rw [if_neg (fun e => q2 e.2.2.2.2), if_neg (by omega), if_neg (by omega), if_neg q2]; omega
    have h3 : 0 ≤ (if isp S j w = 1 then its1 S w j else 0) ∧ (if isp S j w = 1 then its1 S w j else 0) ≤ 10000 := by
      split
      · rename_i q2
        have := its_b hI hw (p := j) q.2.1 (by omega) q2 hu.1
        omega
      · omega
    rw [this]
    unfold R32
    omega
  · split
    · rename_i q; exact absurd q.1 hk
    · split
      · rcases rN_le (s2 S w 28 27) (lef S w).toNat j with q | q
        · rw [q]; exact h2 27 j (by decide)
        · rw [q]; unfold R32; omega
      · exact h2 k j hk
/-! the whole goes to the parts -/
theorem amN_ge {S : gS} (hI : Inv S) {w : Int} (hw : 0 ≤ w) (hu : 0 ≤ S 26 w) {p : Int} (hp : 0 ≤ p) : ∀ n : Nat, n ≤ 28 → 0 ≤ amN S w n ∧ (p < n → amt S w p ≤ amN S w n) := by
  intro n
  induction n with
  | zero => intro _; unfold amN; omega
  | succ n ih =>
    intro hn
    have h := ih (by omega)
    have hb := amt_b hI hw (p := n) (by omega) (by omega) hu
    unfold amN
    refine ⟨by omega, fun q => ?_⟩
    by_cases e : p = n
    · subst e; omega
    · have := h.2 (by omega); omega
def exS (r : Int → Int) (m : Nat) : Nat → Int
  | 0 => 0
  | n + 1 => exS r m n + exN r m n
theorem exS_s (r : Int → Int) (m : Nat) : ∀ n : Nat, exS r (m + 1) n = exS r m n + if pk r m < n then 1 else 0 := by
  have hb := bstN_b (rN r m) 27
  have h0 : 0 ≤ pk r m := hb.1
  intro n
  induction n with
  | zero => unfold exS; rw [if_neg (by omega)]; rfl
  | succ n ih =>
    unfold exS
    rw [ih, show exN r (m + 1) n = exN r m n + (if (n : Int) = pk r m then 1 else 0) from rfl]
    by_cases e : (n : Int) = pk r m
    · rw [if_pos e, if_neg (by omega), if_pos (by omega)]; omega
    · rw [if_neg e]
      by_cases e2 : pk r m < n
      · rw [if_pos e2, if_pos (by omega)]; omega
      · rw [if_neg e2, if_neg (by omega)]; omega
theorem exS_0 (r : Int → Int) : ∀ n : Nat, exS r 0 n = 0 := by
  intro n
  induction n with
  | zero => rfl
  | succ n ih => unfold exS; rw [ih]; rfl
theorem exS_g (r : Int → Int) : ∀ m : Nat, exS r m 8 + gxN r m = m ∧ exS r m 28 = m := by
  intro m
  induction m with
  | zero => rw [exS_0, exS_0]; unfold gxN; omega
  | succ m ih =>
    have hb : 0 ≤ pk r m ∧ pk r m ≤ 27 := bstN_b (rN r m) 27
    rw [exS_s, exS_s]
    unfold gxN
    by_cases e : pk r m < 8
    · rw [if_pos (by omega), if_pos e, if_pos (by omega)]; omega
    · rw [if_neg (by omega), if_neg e, if_pos (by omega)]; omega
theorem amN_e (S : gS) (w : Int) : ∀ n : Nat, amN S w n = si2 S w n + exS (r0 S w) (lef S w).toNat n := by
  intro n
  induction n with
  | zero => rfl
  | succ n ih =>
    show amN S w n + ((if isp S n w = 1 then its1 S w n else 0) + exN (r0 S w) (lef S w).toNat n) = (si2 S w n + if isp S n w = 1 then its1 S w n else 0) + (exS (r0 S w) (lef S w).toNat n + exN (r0 S w) (lef S w).toNat n)
    rw [ih]; omega
theorem gi2_e (S : gS) (w : Int) : ∀ n : Nat, (n ≤ 8 → gi2 S w n = 0) ∧ (8 ≤ n → gi2 S w n = si2 S w n - si2 S w 8) := by
  intro n
  induction n with
  | zero => exact ⟨fun _ => rfl, fun h => by omega⟩
  | succ n ih =>
    have e2 : gi2 S w (n + 1) = gi2 S w n + (if isp S n w = 1 ∧ 8 ≤ (n : Int) then its1 S w n else 0) := rfl
    have e1 : si2 S w (n + 1) = si2 S w n + (if isp S n w = 1 then its1 S w n else 0) := rfl
    constructor
    · intro h
      rw [e2, ih.1 (by omega), if_neg (by omega)]; rfl
    · intro h
      by_cases e : n = 7
      · subst e
        rw [e2, ih.1 (by omega), if_neg (by omega)]; show (0 : Int) + 0 = si2 S w 8 - si2 S w 8; omega
      · have := ih.2 (by omega)
        rw [e2, e1, this]
        by_cases q : isp S n w = 1
        · rw [if_pos ⟨q, by omega⟩, if_pos q]; omega
        · rw [if_neg (fun z => q z.1), if_neg q]; omega
theorem gso_e (S : gS) (w : Int) : gso S w = amN S w 28 - amN S w 8 := by
  have h1 := amN_e S w 28
  have h2 := amN_e S w 8
  have h3 := exS_g (r0 S w) (lef S w).toNat
  have h4 := (gi2_e S w 28).2 (by omega)
  unfold gso
  rw [gxN_c (s2_27 S w), h4, h1, h2]
  omega
/-! a group with a RUNNING container in or below it has a part -/
theorem runN_ex (S : gS) (p : Int) : ∀ n : Nat, runN S p n = 1 → ∃ c : Nat, c < n ∧ S 19 c = 0 ∧ bel S (S 20 c) p = 1 := by
  intro n
  induction n with
  | zero => intro h; exact absurd h (by unfold runN; omega)
  | succ n ih =>
    intro h
    unfold runN at h
    split at h
    · rename_i q
      rcases q with q | q
      · obtain ⟨c, h1, h2, h3⟩ := ih q
        exact ⟨c, by omega, h2, h3⟩
      · exact ⟨n, by omega, q.1, q.2⟩
    · omega
theorem runN_in (S : gS) (p : Int) {c : Nat} (h1 : S 19 c = 0) (h2 : bel S (S 20 c) p = 1) : ∀ n : Nat, c < n → runN S p n = 1 := by
  intro n
  induction n with
  | zero => intro h; omega
  | succ n ih =>
    intro h
    unfold runN
    by_cases e : c = n
    · subst e
      rw [if_pos (Or.inr ⟨h1, h2⟩)]
    · rw [if_pos (Or.inl (ih (by omega)))]
theorem bel_top {S : gS} (hI : Inv S) {p : Int} (hp : 0 ≤ p) : ∀ (n : Nat) (a : Int), a < n → 0 ≤ a → a < S 6 0 → bel S a p = 1 → a = p ∨ ∃ w, 0 ≤ w ∧ w < S 6 0 ∧ S 7 w = p ∧ bel S a w = 1 := by
  intro n
  induction n with
  | zero => intro a h0 h1; omega
  | succ n ih =>
    intro a h0 h1 h2 h
    by_cases e : a = p
    · exact Or.inl e
    · right
      rw [bel_s hI.2.2.1 hI.2.1 hp h1 h2 e] at h
      by_cases ea : a = 0
      · rw [ea, hI.2.2.1.2.1, bel_m1 hp] at h; omega
      · have hb := hI.2.2.1.2.2 a (by omega) h2
        rcases ih (S 7 a) (by omega) hb.1 (by omega) h with q | ⟨w, w0, w1, w2, w3⟩
        · exact ⟨a, h1, h2, q, bel_eq S a⟩
        · by_cases ew : a = w
          · exact ⟨w, w0, w1, w2, by rw [ew]; exact bel_eq S w⟩
          · exact ⟨w, w0, w1, w2, by rw [bel_s hI.2.2.1 hI.2.1 w0 h1 h2 ew]; exact w3⟩
theorem run_isp {S : gS} (hI : Inv S) {w : Int} (hw : 0 ≤ w) (h : run1 S w = 1) : 1 ≤ shA S w 28 := by
  obtain ⟨c, h1, h2, h3⟩ := runN_ex S w _ h
  have hc := hI.2.1.2.2.1
  have hg := hI.2.1.2.1
  have h4 := (hI.2.2.2.2.1 c (by omega) (by omega)).2.1
  rcases bel_top hI hw (S 20 c + 1).toNat (S 20 c) (by omega) h4.1 h4.2 h3 with q | ⟨v, v0, v1, v2, v3⟩
  · exact shA_pos hI hw (p := (c : Int) + 8) (by omega) (by omega) (by
      unfold isp
      rw [if_pos (by omega), show (c : Int) + 8 - 8 = c by omega, if_pos ⟨by omega, h2, q⟩])
  · exact shA_pos hI hw (p := v) v0 (by omega) (by
      unfold isp
      rw [if_neg (by omega), if_pos ⟨v1, v2, runN_in S v h2 v3 _ h1⟩])
theorem run_root {S : gS} (hI : Inv S) (h : run1 S 0 = 0) {p w : Int} (hp : 0 ≤ p) (hw : 0 ≤ w) : isp S p w = 0 := by
  have no : ∀ c : Nat, (c : Int) < S 11 0 → S 19 c ≠ 0 := by
    intro c hc h0
    have h4 := (hI.2.2.2.2.1 c (by omega) hc).2.1
    have := runN_in S 0 h0 (bel_root hI.2.2.1 hI.2.1 (S 20 c + 1).toNat (S 20 c) (by omega) h4.1 h4.2) (S 11 0).toNat (by omega)
    unfold run1 at h
    omega
  unfold isp
  split
  · rw [if_neg (fun q => no (p - 8).toNat (by omega) (by rw [show (((p - 8).toNat : Nat) : Int) = p - 8 by omega]; exact q.2.1))]
  · refine if_neg (fun q => ?_)
    obtain ⟨c, h1, h2, -⟩ := runN_ex S p _ q.2.2
    exact no c (by omega) h2
