/-! what holds of the reference's state between calls; sums and chains as functions -/
def isin (a n : Int) : Int := if 0 ≤ a ∧ a < n then 1 else 0
theorem isin_s (a n : Int) : (isin a n = 1 ∧ 0 ≤ a ∧ a < n) ∨ (isin a n = 0 ∧ ¬ (0 ≤ a ∧ a < n)) := by
  unfold isin
  split
  · exact Or.inl ⟨rfl, by omega, by omega⟩
  · exact Or.inr ⟨rfl, by omega⟩
def hRp (S : gS) : Prop := ∀ k j, k ≠ 22 → R32 (S k j)
/-- the numbers that count -/
def Inv1 (S : gS) : Prop := (0 ≤ S 3 0 ∧ S 3 0 ≤ 10) ∧ (1 ≤ S 6 0 ∧ S 6 0 ≤ 8) ∧ (0 ≤ S 11 0 ∧ S 11 0 ≤ 20) ∧ (0 ≤ S 23 0 ∧ S 23 0 ≤ 5)
/-- bases and parents lie below -/
def Inv2 (S : gS) : Prop := (∀ k, 0 ≤ k → k < S 3 0 → -1 ≤ S 4 k ∧ S 4 k < k) ∧ S 7 0 = -1 ∧ (∀ k, 1 ≤ k → k < S 6 0 → 0 ≤ S 7 k ∧ S 7 k < k)
/-- a container or checkpoint: its place -/
def isCK (S : gS) (k : Int) : Prop := (0 ≤ k ∧ k < S 11 0) ∨ (20 ≤ k ∧ k < 20 + S 23 0)
def Inv3 (S : gS) : Prop := ∀ k, isCK S k → (0 ≤ S 12 k ∧ S 12 k < S 3 0) ∧ (1 ≤ S 13 k ∧ S 13 k ≤ 100) ∧ (0 ≤ S 14 k ∧ S 14 k ≤ 10000) ∧ (0 ≤ S 15 k ∧ S 15 k ≤ 100) ∧ (0 ≤ S 16 k ∧ S 16 k ≤ 15) ∧ (0 ≤ S 17 k ∧ S 17 k ≤ 15) ∧ (0 ≤ S 18 k ∧ S 18 k ≤ 65535)
def Inv4 (S : gS) : Prop := ∀ k, 0 ≤ k → k < S 11 0 → (0 ≤ S 19 k ∧ S 19 k ≤ 2) ∧ (0 ≤ S 20 k ∧ S 20 k < S 6 0) ∧ (S 21 k = -1 ∨ (0 ≤ S 21 k ∧ S 21 k < 40 ∧ 1 ≤ S 21 k % 10 ∧ S 21 k % 10 ≤ 6)) ∧ (S 19 k = 2 → S 14 k = 0 ∧ S 15 k = 0 ∧ S 18 k = 0 ∧ S 21 k = -1)
def Inv5 (S : gS) : Prop := (∀ k, 0 ≤ k → k < S 6 0 → (1 ≤ S 8 k ∧ S 8 k ≤ 10000) ∧ (1 ≤ S 9 k ∧ S 9 k ≤ 100)) ∧ (∀ k, 1 ≤ k → k < S 6 0 → 1 ≤ S 10 k ∧ S 10 k ≤ 100)
def Inv6 (S : gS) : Prop := (∀ j, -1 ≤ S 1 j ∧ S 1 j ≤ 999) ∧ (∀ j, 0 ≤ S 2 j ∧ S 2 j ≤ 255) ∧ (∀ j, S 5 j = 0 ∨ S 5 j = 1) ∧ (∀ j, 0 ≤ j → j < 32 → -1 ≤ S 24 j ∧ S 24 j < S 11 0)
/-- how many layers a chain of bases has -/
def layN (S : gS) : Nat → Int → Int
  | 0, _ => 0
  | n + 1, k => if k = -1 then 0 else 1 + layN S n (S 4 k)
def lay (S : gS) (k : Int) : Int := layN S (k + 1).toNat k
/-- is group a below b: 1 or 0 -/
def belN (S : gS) : Nat → Int → Int → Int
  | 0, a, b => if a = b then 1 else 0
  | n + 1, a, b => if a = b then 1 else if a = -1 then 0 else belN S n (S 7 a) b
def bel (S : gS) (a b : Int) : Int := belN S (a + 1).toNat a b
def memN (S : gS) (g : Int) : Nat → Int
  | 0 => 0
  | n + 1 => memN S g n + if bel S (S 20 n) g = 1 then S 14 n else 0
def memI (S : gS) (g : Int) : Int := memN S g (S 11 0).toNat
def prcN (S : gS) (g : Int) : Nat → Int
  | 0 => 0
  | n + 1 => prcN S g n + if bel S (S 20 n) g = 1 then S 15 n else 0
def prcI (S : gS) (g : Int) : Int := prcN S g (S 11 0).toNat
def Inv7 (S : gS) : Prop := (∀ k, 0 ≤ k → k < S 3 0 → lay S k ≤ 8 ∧ (0 ≤ S 4 k → S 5 (S 4 k) = 1)) ∧ (∀ k, isCK S k → S 5 (S 12 k) = 1) ∧ S 8 0 = 10000 ∧ S 9 0 = 100 ∧ memI S 0 ≤ 10000 ∧ prcI S 0 ≤ 100
def Inv (S : gS) : Prop := hRp S ∧ Inv1 S ∧ Inv2 S ∧ Inv3 S ∧ Inv4 S ∧ Inv5 S ∧ Inv6 S ∧ Inv7 S
theorem Inv.ba {S : gS} (h : Inv2 S) : ∀ k, 0 ≤ k → k < S 3 0 → -1 ≤ S 4 k ∧ S 4 k < k := h.1
theorem Inv2.pa {S : gS} (h : Inv2 S) (h1 : Inv1 S) : ∀ k, 0 ≤ k → k < S 6 0 → -1 ≤ S 7 k ∧ S 7 k < k := by
  intro k h0 h2
  rcases (by omega : k = 0 ∨ 1 ≤ k) with rfl | q
  · rw [h.2.1]; omega
  · have := h.2.2 k q h2; omega
theorem lay_m1 (S : gS) : lay S (-1) = 0 := rfl
theorem layN_stab {S : gS} (h : Inv2 S) : ∀ (n m : Nat) (k : Int), -1 ≤ k → k < S 3 0 → k < n → k < m → layN S n k = layN S m k := by
  intro n
  induction n with
  | zero => 
    intro m k h0 h1 h2 h3
    have : k = -1 := by omega
    subst this
    cases m <;> rfl
  | succ n ih =>
    intro m k h0 h1 h2 h3
    cases m with
    | zero =>
      have : k = -1 := by omega
      subst this
      rfl
    | succ m =>
      unfold layN
      by_cases hk : k = -1
      · rw [if_pos hk, if_pos hk]
      · rw [if_neg hk, if_neg hk]
        have := h.1 k (by omega) h1
        rw [ih m (S 4 k) this.1 (by omega) (by omega) (by omega)]
theorem lay_s {S : gS} (h : Inv2 S) {k : Int} (h0 : 0 ≤ k) (h1 : k < S 3 0) : lay S k = 1 + lay S (S 4 k) := by
  have hb := h.1 k h0 h1
  unfold lay
  have e : (k + 1).toNat = k.toNat + 1 := by omega
  rw [e]
  show (if k = -1 then 0 else 1 + layN S k.toNat (S 4 k)) = _
  rw [if_neg (by omega), layN_stab h k.toNat (S 4 k + 1).toNat (S 4 k) hb.1 (by omega) (by omega) (by omega)]
theorem lay_nn (S : gS) (k : Int) : 0 ≤ lay S k := by
  have : ∀ (n : Nat) (k : Int), 0 ≤ layN S n k := by
    intro n
    induction n with
    | zero => intro k; exact Int.le_refl 0
    | succ n ih =>
      intro k
      unfold layN
      split
      · exact Int.le_refl 0
      · have := ih (S 4 k); omega
  exact this _ _
theorem lay_le {S : gS} (h : Inv2 S) {k : Int} (h0 : -1 ≤ k) (h1 : k < S 3 0) : lay S k ≤ k + 1 := by
  have : ∀ (n : Nat) (k : Int), k < n → -1 ≤ k → k < S 3 0 → lay S k ≤ k + 1 := by
    intro n
    induction n with
    | zero => intro k a b c; have : k = -1 := by omega
              subst this
              rw [lay_m1]; omega
    | succ n ih =>
      intro k a b c
      by_cases hk : k = -1
      · subst hk; rw [lay_m1]; omega
      · have hb := h.1 k (by omega) c
        rw [lay_s h (by omega) c]
        have := ih (S 4 k) (by omega) hb.1 (by omega)
        omega
  exact this (k + 1).toNat k (by omega) h0 h1
theorem belN_stab {S : gS} (h : Inv2 S) (h1 : Inv1 S) (b : Int) (hb : 0 ≤ b) : ∀ (n m : Nat) (k : Int), -1 ≤ k → k < S 6 0 → k < n → k < m → belN S n k b = belN S m k b := by
  intro n
  induction n with
  | zero => 
    intro m k h0 h1 h2 h3
    have : k = -1 := by omega
    subst this
    cases m with
    | zero => rfl
    | succ m => unfold belN; rw [if_neg (by omega), if_neg (by omega), if_pos rfl]
  | succ n ih =>
    intro m k h0 h2 h3 h4
    cases m with
    | zero =>
      have : k = -1 := by omega
      subst this
      unfold belN
      rw [if_neg (by omega), if_pos rfl, if_neg (by omega)]
    | succ m =>
      unfold belN
      by_cases hkb : k = b
      · rw [if_pos hkb, if_pos hkb]
      · rw [if_neg hkb, if_neg hkb]
        by_cases hk : k = -1
        · rw [if_pos hk, if_pos hk]
        · rw [if_neg hk, if_neg hk]
          have := h.pa h1 k (by omega) h2
          rw [ih m (S 7 k) this.1 (by omega) (by omega) (by omega)]
theorem bel_eq (S : gS) (a : Int) : bel S a a = 1 := by
  unfold bel
  cases (a + 1).toNat <;> (unfold belN; rw [if_pos rfl])
theorem bel_m1 {S : gS} {b : Int} (hb : 0 ≤ b) : bel S (-1) b = 0 := by
  show belN S 0 (-1) b = 0
  unfold belN
  rw [if_neg (by omega)]
theorem bel_s {S : gS} (h : Inv2 S) (h1 : Inv1 S) {a b : Int} (hb : 0 ≤ b) (h0 : 0 ≤ a) (h2 : a < S 6 0) (hab : a ≠ b) : bel S a b = bel S (S 7 a) b := by
  have hp := h.pa h1 a h0 h2
  unfold bel
  have e : (a + 1).toNat = a.toNat + 1 := by omega
  rw [e]
  show (if a = b then 1 else if a = -1 then 0 else belN S a.toNat (S 7 a) b) = _
  rw [if_neg hab, if_neg (by omega), belN_stab h h1 b hb a.toNat (S 7 a + 1).toNat (S 7 a) hp.1 (by omega) (by omega) (by omega)]
theorem bel_01 (S : gS) (a b : Int) : bel S a b = 0 ∨ bel S a b = 1 := by
  have : ∀ (n : Nat) (a : Int), belN S n a b = 0 ∨ belN S n a b = 1 := by
    intro n
    induction n with
    | zero => intro a; unfold belN; split <;> omega
    | succ n ih =>
      intro a
      unfold belN
      split
      · exact Or.inr rfl
      · split
        · exact Or.inl rfl
        · exact ih _
  exact this _ _
