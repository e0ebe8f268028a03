/-! pure rows of 08 -/
abbrev gS : Type := Nat → Int → Int
def sset (S : gS) (k : Nat) (i v : Int) : gS := fun a j => if a = k ∧ j = i then v else S a j
theorem sset_n (S : gS) {k a : Nat} (i v : Int) (h : a ≠ k) : sset S k i v a = S a := by
  funext j
  unfold sset
  rw [if_neg (fun q => h q.1)]
theorem sset_s (S : gS) (k : Nat) (i v : Int) : sset S k i v k = fset (S k) i v := by
  funext j
  unfold sset fset
  by_cases q : j = i
  · rw [if_pos ⟨rfl, q⟩, if_pos q]
  · rw [if_neg (fun z => q z.2), if_neg q]
theorem sset_e (S : gS) (k : Nat) (i v : Int) : sset S k i v k i = v := by unfold sset; rw [if_pos ⟨rfl, rfl⟩]
abbrev qS : Type := Option Value → Int → gS → Prop
abbrev mN : qE := fun _ _ => False

/-! pure rows of 11 -/
def hRp (S : gS) : Prop := ∀ k j, k ≠ 22 → R32 (S k j)
/-- the numbers that count -/
def Inv1 (S : gS) : Prop := (0 ≤ S 3 0 ∧ S 3 0 ≤ 10) ∧ (1 ≤ S 6 0 ∧ S 6 0 ≤ 8) ∧ (0 ≤ S 11 0 ∧ S 11 0 ≤ 20) ∧ (0 ≤ S 23 0 ∧ S 23 0 ≤ 5)
/-- bases and parents lie below -/
def Inv2 (S : gS) : Prop := (∀ k, 0 ≤ k → k < S 3 0 → -1 ≤ S 4 k ∧ S 4 k < k) ∧ S 7 0 = -1 ∧ (∀ k, 1 ≤ k → k < S 6 0 → 0 ≤ S 7 k ∧ S 7 k < k)
/-- a container or checkpoint: its place -/
def isCK (S : gS) (k : Int) : Prop := (0 ≤ k ∧ k < S 11 0) ∨ (20 ≤ k ∧ k < 20 + S 23 0)
def Inv3 (S : gS) : Prop := ∀ k, isCK S k → (0 ≤ S 12 k ∧ S 12 k < S 3 0) ∧ (1 ≤ S 13 k ∧ S 13 k ≤ 100) ∧ (0 ≤ S 14 k ∧ S 14 k ≤ 10000) ∧ (0 ≤ S 15 k ∧ S 15 k ≤ 100) ∧ (0 ≤ S 16 k ∧ S 16 k ≤ 15) ∧ (0 ≤ S 17 k ∧ S 17 k ≤ 15) ∧ (0 ≤ S 18 k ∧ S 18 k ≤ 65535)
def Inv4 (S : gS) : Prop := ∀ k, 0 ≤ k → k < S 11 0 → (0 ≤ S 19 k ∧ S 19 k ≤ 2) ∧ (0 ≤ S 20 k ∧ S 20 k < S 6 0) ∧ (S 21 k = -1 ∨ (0 ≤ S 21 k ∧ S 21 k < 40 ∧ 1 ≤ S 21 k % 10 ∧ S 21 k % 10 ≤ 6)) ∧ (S 19 k = 2 → S 14 k = 0 ∧ S 15 k = 0 ∧ S 18 k = 0 ∧ S 21 k = -1)
def Inv5 (S : gS) : Prop := (∀ k, 0 ≤ k → k < S 6 0 → (1 ≤ S 8 k ∧ S 8 k ≤ 10000) ∧ (1 ≤ S 9 k ∧ S 9 k ≤ 100)) ∧ (∀ k, 1 ≤ k → k < S 6 0 → 1 ≤ S 10 k ∧ S 10 k ≤ 100)
def Inv6 (S : gS) : Prop := (∀ j, -1 ≤ S 1 j ∧ S 1 j ≤ 999) ∧ (∀ j, 0 ≤ S 2 j ∧ S 2 j ≤ 255) ∧ (∀ j, S 5 j = 0 ∨ S 5 j = 1) ∧ (∀ j, 0 ≤ j → j < 32 → -1 ≤ S 24 j ∧ S 24 j < S 11 0)
/-- how many layers a chain of bases has -/
def layN (S : gS) : Nat → Int → Int
  | 0, _ => 0
  | n + 1, k => if k = -1 then 0 else 1 + layN S n (S 4 k)
def lay (S : gS) (k : Int) : Int := layN S (k + 1).toNat k
/-- is group a below b: 1 or 0 -/
def belN (S : gS) : Nat → Int → Int → Int
  | 0, a, b => if a = b then 1 else 0
  | n + 1, a, b => if a = b then 1 else if a = -1 then 0 else belN S n (S 7 a) b
def bel (S : gS) (a b : Int) : Int := belN S (a + 1).toNat a b
def memN (S : gS) (g : Int) : Nat → Int
  | 0 => 0
  | n + 1 => memN S g n + if bel S (S 20 n) g = 1 then S 14 n else 0
def memI (S : gS) (g : Int) : Int := memN S g (S 11 0).toNat
def prcN (S : gS) (g : Int) : Nat → Int
  | 0 => 0
  | n + 1 => prcN S g n + if bel S (S 20 n) g = 1 then S 15 n else 0
def prcI (S : gS) (g : Int) : Int := prcN S g (S 11 0).toNat
def Inv7 (S : gS) : Prop := (∀ k, 0 ≤ k → k < S 3 0 → lay S k ≤ 8 ∧ (0 ≤ S 4 k → S 5 (S 4 k) = 1)) ∧ (∀ k, isCK S k → S 5 (S 12 k) = 1) ∧ S 8 0 = 10000 ∧ S 9 0 = 100 ∧ memI S 0 ≤ 10000 ∧ prcI S 0 ≤ 100
def Inv (S : gS) : Prop := hRp S ∧ Inv1 S ∧ Inv2 S ∧ Inv3 S ∧ Inv4 S ∧ Inv5 S ∧ Inv6 S ∧ Inv7 S
theorem Inv2.pa {S : gS} (h : Inv2 S) (h1 : Inv1 S) : ∀ k, 0 ≤ k → k < S 6 0 → -1 ≤ S 7 k ∧ S 7 k < k := by
  intro k h0 h2
  rcases (by omega : k = 0 ∨ 1 ≤ k) with rfl | q
  · rw [h.2.1]; omega
  · have := h.2.2 k q h2; omega
theorem lay_m1 (S : gS) : lay S (-1) = 0 := rfl
theorem layN_stab {S : gS} (h : Inv2 S) : ∀ (n m : Nat) (k : Int), -1 ≤ k → k < S 3 0 → k < n → k < m → layN S n k = layN S m k := by
  intro n
  induction n with
  | zero => 
    intro m k h0 h1 h2 h3
    have : k = -1 := by omega
    subst this
    cases m <;> rfl
  | succ n ih =>
    intro m k h0 h1 h2 h3
    cases m with
    | zero =>
      have : k = -1 := by omega
      subst this
      rfl
    | succ m =>
      unfold layN
      by_cases hk : k = -1
      · rw [if_pos hk, if_pos hk]
      · rw [if_neg hk, if_neg hk]
        have := h.1 k (by omega) h1
        rw [ih m (S 4 k) this.1 (by omega) (by omega) (by omega)]
theorem lay_s {S : gS} (h : Inv2 S) {k : Int} (h0 : 0 ≤ k) (h1 : k < S 3 0) : lay S k = 1 + lay S (S 4 k) := by
  have hb := h.1 k h0 h1
  unfold lay
  have e : (k + 1).toNat = k.toNat + 1 := by omega
  rw [e]
  show (if k = -1 then 0 else 1 + layN S k.toNat (S 4 k)) = _
  rw [if_neg (by omega), layN_stab h k.toNat (S 4 k + 1).toNat (S 4 k) hb.1 (by omega) (by omega) (by omega)]
theorem lay_nn (S : gS) (k : Int) : 0 ≤ lay S k := by
  have : ∀ (n : Nat) (k : Int), 0 ≤ layN S n k := by
    intro n
    induction n with
    | zero => intro k; exact Int.le_refl 0
    | succ n ih =>
      intro k
      unfold layN
      split
      · exact Int.le_refl 0
      · have := ih (S 4 k); omega
  exact this _ _
theorem lay_le {S : gS} (h : Inv2 S) {k : Int} (h0 : -1 ≤ k) (h1 : k < S 3 0) : lay S k ≤ k + 1 := by
  have : ∀ (n : Nat) (k : Int), k < n → -1 ≤ k → k < S 3 0 → lay S k ≤ k + 1 := by
    intro n
    induction n with
    | zero => intro k a b c; have : k = -1 := by omega
              subst this
              rw [lay_m1]; omega
    | succ n ih =>
      intro k a b c
      by_cases hk : k = -1
      · subst hk; rw [lay_m1]; omega
      · have hb := h.1 k (by omega) c
        rw [lay_s h (by omega) c]
        have := ih (S 4 k) (by omega) hb.1 (by omega)
        omega
  exact this (k + 1).toNat k (by omega) h0 h1
theorem belN_stab {S : gS} (h : Inv2 S) (h1 : Inv1 S) (b : Int) (hb : 0 ≤ b) : ∀ (n m : Nat) (k : Int), -1 ≤ k → k < S 6 0 → k < n → k < m → belN S n k b = belN S m k b := by
  intro n
  induction n with
  | zero => 
    intro m k h0 h1 h2 h3
    have : k = -1 := by omega
    subst this
    cases m with
    | zero => rfl
    | succ m => unfold belN; rw [if_neg (by omega), if_neg (by omega), if_pos rfl]
  | succ n ih =>
    intro m k h0 h2 h3 h4
    cases m with
    | zero =>
      have : k = -1 := by omega
      subst this
      unfold belN
      rw [if_neg (by omega), if_pos rfl, if_neg (by omega)]
    | succ m =>
      unfold belN
      by_cases hkb : k = b
      · rw [if_pos hkb, if_pos hkb]
      · rw [if_neg hkb, if_neg hkb]
        by_cases hk : k = -1
        · rw [if_pos hk, if_pos hk]
        · rw [if_neg hk, if_neg hk]
          have := h.pa h1 k (by omega) h2
          rw [ih m (S 7 k) this.1 (by omega) (by omega) (by omega)]
theorem bel_eq (S : gS) (a : Int) : bel S a a = 1 := by
  unfold bel
  cases (a + 1).toNat <;> (unfold belN; rw [if_pos rfl])
theorem bel_m1 {S : gS} {b : Int} (hb : 0 ≤ b) : bel S (-1) b = 0 := by
  show belN S 0 (-1) b = 0
  unfold belN
  rw [if_neg (by omega)]
theorem bel_s {S : gS} (h : Inv2 S) (h1 : Inv1 S) {a b : Int} (hb : 0 ≤ b) (h0 : 0 ≤ a) (h2 : a < S 6 0) (hab : a ≠ b) : bel S a b = bel S (S 7 a) b := by
  have hp := h.pa h1 a h0 h2
  unfold bel
  have e : (a + 1).toNat = a.toNat + 1 := by omega
  rw [e]
  show (if a = b then 1 else if a = -1 then 0 else belN S a.toNat (S 7 a) b) = _
  rw [if_neg hab, if_neg (by omega), belN_stab h h1 b hb a.toNat (S 7 a + 1).toNat (S 7 a) hp.1 (by omega) (by omega) (by omega)]
theorem bel_01 (S : gS) (a b : Int) : bel S a b = 0 ∨ bel S a b = 1 := by
  have : ∀ (n : Nat) (a : Int), belN S n a b = 0 ∨ belN S n a b = 1 := by
    intro n
    induction n with
    | zero => intro a; unfold belN; split <;> omega
    | succ n ih =>
      intro a
      unfold belN
      split
      · exact Or.inr rfl
      · split
        · exact Or.inl rfl
        · exact ih _
  exact this _ _

/-! pure rows of 13 -/
/-- what a layer a, over what is seen below it, shows of a file f -/
def obit (S : gS) (a f : Int) : Int := bit (S 2 a) (f / 4)
def lyr (S : gS) (a f rest : Int) : Int := if S 1 (32 * a + f) = 0 then (if obit S a f = 1 then 0 else rest) else if 0 < S 1 (32 * a + f) then S 1 (32 * a + f) else 0
def seeN (S : gS) : Nat → Int → Int → Int
  | 0, _, _ => 0
  | n + 1, k, f => if k = -1 then 0 else lyr S k f (seeN S n (S 4 k) f)
def see (S : gS) (k f : Int) : Int := seeN S (k + 1).toNat k f
theorem see_m1 (S : gS) (f : Int) : see S (-1) f = 0 := rfl
theorem seeN_stab {S : gS} (h : Inv2 S) (f : Int) : ∀ (n m : Nat) (k : Int), -1 ≤ k → k < S 3 0 → k < n → k < m → seeN S n k f = seeN S m k f := by
  intro n
  induction n with
  | zero =>
    intro m k h0 h1 h2 h3
    have : k = -1 := by omega
    subst this
    cases m <;> rfl
  | succ n ih =>
    intro m k h0 h1 h2 h3
    cases m with
    | zero =>
      have : k = -1 := by omega
      subst this
      rfl
    | succ m =>
      unfold seeN
      by_cases hk : k = -1
      · rw [if_pos hk, if_pos hk]
      · rw [if_neg hk, if_neg hk]
        have := h.1 k (by omega) h1
        rw [ih m (S 4 k) this.1 (by omega) (by omega) (by omega)]
theorem see_s {S : gS} (h : Inv2 S) {k : Int} (f : Int) (h0 : 0 ≤ k) (h1 : k < S 3 0) : see S k f = lyr S k f (see S (S 4 k) f) := by
  have hb := h.1 k h0 h1
  unfold see
  have e : (k + 1).toNat = k.toNat + 1 := by omega
  rw [e]
  show (if k = -1 then 0 else lyr S k f (seeN S k.toNat (S 4 k) f)) = _
  rw [if_neg (by omega), seeN_stab h f k.toNat (S 4 k + 1).toNat (S 4 k) hb.1 (by omega) (by omega) (by omega)]

/-! pure rows of 14 -/
def opQ (S : gS) (cd vl : Int) (st : gS) : qS := fun v t9 S9 => t9 = cd ∧ (cd = 0 → v = some (.int (iI vl)) ∧ S9 = st) ∧ (cd ≠ 0 → S9 = S ∧ ∃ z, v = some (.int z))
theorem opQ.good {S st S9 : gS} {cd vl e : Int} (h : cd = 0) (hv : e = vl) (hs : S9 = st) : opQ S cd vl st (some (.int (iI e))) 0 S9 := ⟨h.symm, fun _ => ⟨by rw [hv], hs⟩, fun q => absurd h q⟩
theorem lay_congr {S S' : gS} (h : S' 4 = S 4) (k : Int) : lay S' k = lay S k := by
  have : ∀ (n : Nat) (k : Int), layN S' n k = layN S n k := by
    intro n
    induction n with
    | zero => intro k; rfl
    | succ n ih => intro k; unfold layN; rw [ih, h]
  exact this _ _
theorem lyr_b {S : gS} (h : Inv6 S) {a f r : Int} (h0 : 0 ≤ r) (h1 : r ≤ 999) : 0 ≤ lyr S a f r ∧ lyr S a f r ≤ 999 := by
  have := h.1 (32 * a + f)
  unfold lyr
  (repeat' split) <;> omega
theorem see_b {S : gS} (h : Inv6 S) (k f : Int) : 0 ≤ see S k f ∧ see S k f ≤ 999 := by
  have : ∀ (n : Nat) (k : Int), 0 ≤ seeN S n k f ∧ seeN S n k f ≤ 999 := by
    intro n
    induction n with
    | zero => intro k; unfold seeN; omega
    | succ n ih =>
      intro k
      unfold seeN
      split
      · omega
      · exact lyr_b h (ih _).1 (ih _).2
  exact this _ _
def csee (S : gS) (c f : Int) : Int := lyr S (10 + c) f (see S (S 12 c) f)
/-- a layer emptied as far as place n -/
def ez (S : gS) (l n : Int) : gS := fun a j => if a = 2 ∧ j = l then 0 else if a = 1 ∧ 32 * l ≤ j ∧ j < 32 * l + n then 0 else S a j
def cz (S : gS) (t f n : Int) : gS := fun a j => if a = 2 ∧ j = t then S 2 f else if a = 1 ∧ 32 * t ≤ j ∧ j < 32 * t + n then S 1 (j - 32 * t + 32 * f) else S a j
def cd_write (S : gS) (i f c : Int) : Int := if ¬ (0 ≤ i ∧ i < S 3 0 ∧ 0 ≤ f ∧ f < 32) then 1 else if ¬ (1 ≤ c ∧ c ≤ 999) then 2 else if S 5 i ≠ 0 then 3 else 0
def vl_write (S : gS) (i f c : Int) : Int := see S i f
def st_write (S : gS) (i f c : Int) : gS := sset S 1 (32 * i + f) c
def cd_remove (S : gS) (i f : Int) : Int := if ¬ (0 ≤ i ∧ i < S 3 0 ∧ 0 ≤ f ∧ f < 32) then 1 else if S 5 i ≠ 0 ∨ see S i f = 0 then 2 else 0
def vl_remove (S : gS) (i f : Int) : Int := see S i f
def st_remove (S : gS) (i f : Int) : gS := sset S 1 (32 * i + f) (-1)
def cd_seal (S : gS) (i : Int) : Int := if ¬ (0 ≤ i ∧ i < S 3 0) then 1 else if S 5 i ≠ 0 then 2 else 0
def vl_seal (S : gS) (i : Int) : Int := lay S i
def st_seal (S : gS) (i : Int) : gS := sset S 5 i 1
def cd_shown (S : gS) (i f : Int) : Int := if ¬ (0 ≤ i ∧ i < S 3 0 ∧ 0 ≤ f ∧ f < 32) then 1 else 0
def vl_shown (S : gS) (i f : Int) : Int := see S i f
def st_shown (S : gS) (i f : Int) : gS := S
/-! pure rows of 15 -/
theorem lay_8 {S : gS} (hI : Inv S) {k : Int} (h0 : 0 ≤ k) (h1 : k < S 3 0) : 0 ≤ lay S k ∧ lay S k ≤ 8 := ⟨lay_nn S k, (hI.2.2.2.2.2.2.2.1 k h0 h1).1⟩
def cd_newImage (S : gS) (p : Int) : Int := if ¬ (p = -1 ∨ (0 ≤ p ∧ p < S 3 0)) then 1 else if (p = -1 ∨ (S 5 p = 1 ∧ lay S p < 8)) ∧ S 3 0 < 10 then 0 else 2
def vl_newImage (S : gS) (p : Int) : Int := S 3 0
def st_newImage (S : gS) (p : Int) : gS := sset (ez (sset (sset S 4 (S 3 0) p) 5 (S 3 0) 0) (S 3 0) 32) 3 0 (S 3 0 + 1)
def clN (S : gS) (i d : Int) : Nat → Int
  | 0 => 0
  | n + 1 => clN S i d n + if 0 < see S i (4 * d + n) then 1 else 0
def zz (S : gS) (i d n : Int) : gS := fun a q => if a = 1 ∧ 32 * i + 4 * d ≤ q ∧ q < 32 * i + 4 * d + n then 0 else S a q
theorem zz_0 (S : gS) (i d : Int) : zz S i d 0 = S := by
  funext a j; unfold zz; split <;> first | rfl | omega
theorem zz_s (S : gS) {i d n : Int} (hn : 0 ≤ n) : sset (zz S i d n) 1 (32 * i + (4 * d + n)) 0 = zz S i d (n + 1) := by
  funext a j; unfold sset zz; (repeat' split) <;> first | rfl | omega
def cd_clear (S : gS) (i d : Int) : Int := if ¬ (0 ≤ i ∧ i < S 3 0 ∧ 0 ≤ d ∧ d < 8) then 1 else if S 5 i ≠ 0 then 2 else 0
def vl_clear (S : gS) (i d : Int) : Int := clN S i d 4
def st_clear (S : gS) (i d : Int) : gS := sset (zz S i d 4) 2 i (bset (S 2 i) d)
/-! pure rows of 16 -/
def ancN (S : gS) : Nat → Int → Int
  | 0, k => k
  | n + 1, k => ancN S n (S 4 k)
def enC (S : gS) (a : Int) : Nat → Int
  | 0 => 0
  | n + 1 => enC S a n + if S 1 (32 * a + n) = 0 then 0 else 1
def enO (S : gS) (a : Int) : Nat → Int
  | 0 => 0
  | n + 1 => enO S a n + bit (S 2 a) n
def cd_entries (S : gS) (i l : Int) : Int := if 0 ≤ i ∧ i < S 3 0 ∧ 0 ≤ l ∧ l < lay S i then 0 else 1
def enA (S : gS) (i l : Int) : Int := ancN S (lay S i - 1 - l).toNat i
def vl_entries (S : gS) (i l : Int) : Int := enC S (enA S i l) 32 + enO S (enA S i l) 8
def st_entries (S : gS) (_ _ : Int) : gS := S
def cd_commit (S : gS) (c : Int) : Int := if ¬ (0 ≤ c ∧ c < S 11 0) then 1 else if lay S (S 12 c) = 8 ∨ S 3 0 = 10 then 2 else 0
def vl_commit (S : gS) (c : Int) : Int := S 3 0
def st_commit (S : gS) (c : Int) : gS := sset (cz (sset (sset S 4 (S 3 0) (S 12 c)) 5 (S 3 0) 1) (S 3 0) (10 + c) 32) 3 0 (S 3 0 + 1)
theorem memN_b {S : gS} (hI : Inv S) (g : Int) : ∀ n : Nat, (n : Int) ≤ S 11 0 → 0 ≤ memN S g n ∧ memN S g n ≤ 10000 * n := by
  intro n
  induction n with
  | zero => intro _; unfold memN; omega
  | succ n ih =>
    intro hn
    have h1 := ih (by omega)
    have h2 := (hI.2.2.2.1 n (Or.inl ⟨by omega, by omega⟩)).2.2.1
    unfold memN
    split <;> omega
theorem prcN_b {S : gS} (hI : Inv S) (g : Int) : ∀ n : Nat, (n : Int) ≤ S 11 0 → 0 ≤ prcN S g n ∧ prcN S g n ≤ 100 * n := by
  intro n
  induction n with
  | zero => intro _; unfold prcN; omega
  | succ n ih =>
    intro hn
    have h1 := ih (by omega)
    have h2 := (hI.2.2.2.1 n (Or.inl ⟨by omega, by omega⟩)).2.2.2.1
    unfold prcN
    split <;> omega
theorem memI_b {S : gS} (hI : Inv S) (g : Int) : 0 ≤ memI S g ∧ memI S g ≤ 200000 := by
  have h := hI.2.1.2.2.1
  have := memN_b hI g (S 11 0).toNat (by omega)
  unfold memI
  omega
theorem prcI_b {S : gS} (hI : Inv S) (g : Int) : 0 ≤ prcI S g ∧ prcI S g ≤ 2000 := by
  have h := hI.2.1.2.2.1
  have := prcN_b hI g (S 11 0).toNat (by omega)
  unfold prcI
  omega
/-- the first group of a path over its limit with so much more; -1 for none -/
def tmN (S : gS) (u m : Int) : Nat → Int → Int
  | 0, _ => -1
  | n + 1, k => if k = -1 then -1 else if memI S k + u > S 8 k ∨ prcI S k + m > S 9 k then k else tmN S u m n (S 7 k)
def tm (S : gS) (g u m : Int) : Int := tmN S u m (g + 1).toNat g
theorem tm_m1 (S : gS) (u m : Int) : tm S (-1) u m = -1 := rfl
theorem tmN_stab {S : gS} (h : Inv2 S) (h1 : Inv1 S) (u m : Int) : ∀ (n q : Nat) (k : Int), -1 ≤ k → k < S 6 0 → k < n → k < q → tmN S u m n k = tmN S u m q k := by
  intro n
  induction n with
  | zero =>
    intro q k h0 h2 h3 h4
    have : k = -1 := by omega
    subst this
    cases q <;> rfl
  | succ n ih =>
    intro q k h0 h2 h3 h4
    cases q with
    | zero =>
      have : k = -1 := by omega
      subst this
      rfl
    | succ q =>
      unfold tmN
      by_cases hk : k = -1
      · rw [if_pos hk, if_pos hk]
      · rw [if_neg hk, if_neg hk]
        have := h.pa h1 k (by omega) h2
        rw [ih q (S 7 k) this.1 (by omega) (by omega) (by omega)]
theorem tm_s {S : gS} (h : Inv2 S) (h1 : Inv1 S) {k : Int} (u m : Int) (h0 : 0 ≤ k) (h2 : k < S 6 0) : tm S k u m = if memI S k + u > S 8 k ∨ prcI S k + m > S 9 k then k else tm S (S 7 k) u m := by
  have hp := h.pa h1 k h0 h2
  unfold tm
  have e : (k + 1).toNat = k.toNat + 1 := by omega
  rw [e]
  show (if k = -1 then -1 else if memI S k + u > S 8 k ∨ prcI S k + m > S 9 k then k else tmN S u m k.toNat (S 7 k)) = _
  rw [if_neg (by omega), tmN_stab h h1 u m k.toNat (S 7 k + 1).toNat (S 7 k) hp.1 (by omega) (by omega) (by omega)]
theorem tm_b {S : gS} (h : Inv2 S) (h1 : Inv1 S) (u m : Int) : ∀ (n : Nat) (k : Int), k < n → -1 ≤ k → k < S 6 0 → -1 ≤ tm S k u m ∧ tm S k u m ≤ k := by
  intro n
  induction n with
  | zero =>
    intro k a b c
    have : k = -1 := by omega
    subst this
    rw [tm_m1]; omega
  | succ n ih =>
    intro k a b c
    by_cases hk : k = -1
    · subst hk; rw [tm_m1]; omega
    · have hp := h.pa h1 k (by omega) c
      rw [tm_s h h1 u m (by omega) c]
      have := ih (S 7 k) (by omega) hp.1 (by omega)
      split <;> omega
theorem tm_r {S : gS} (h : Inv2 S) (h1 : Inv1 S) {k : Int} (u m : Int) (h0 : -1 ≤ k) (h2 : k < S 6 0) : -1 ≤ tm S k u m ∧ tm S k u m ≤ k := tm_b h h1 u m (k + 1).toNat k (by omega) h0 h2
def cd_newGroup (S : gS) (p m r s : Int) : Int := if ¬ (0 ≤ p ∧ p < S 6 0) then 1 else if ¬ (1 ≤ m ∧ m ≤ 10000 ∧ 1 ≤ r ∧ r ≤ 100 ∧ 1 ≤ s ∧ s ≤ 100) then 2 else if S 6 0 = 8 then 3 else 0
def vl_newGroup (S : gS) (p m r s : Int) : Int := S 6 0
def st_newGroup (S : gS) (p m r s : Int) : gS := sset (sset (sset (sset (sset S 7 (S 6 0) p) 8 (S 6 0) m) 9 (S 6 0) r) 10 (S 6 0) s) 6 0 (S 6 0 + 1)
def cd_groupMemory (S : gS) (a : Int) : Int := if 0 ≤ a ∧ a < S 6 0 then 0 else 1
def vl_groupMemory (S : gS) (a : Int) : Int := memI S a
def st_groupMemory (S : gS) (a : Int) : gS := S
def cd_groupProcesses (S : gS) (a : Int) : Int := if 0 ≤ a ∧ a < S 6 0 then 0 else 1
def vl_groupProcesses (S : gS) (a : Int) : Int := prcI S a
def st_groupProcesses (S : gS) (a : Int) : gS := S
/-! pure rows of 17 -/
theorem hRp.set {S : gS} (h : hRp S) {k : Nat} {i v : Int} (hv : k ≠ 22 → R32 v) : hRp (sset S k i v) := by
  intro a j ha
  unfold sset
  split
  · exact hv (by omega)
  · exact h a j ha
def opV (S : gS) (cd : Int) (st : gS) : qS := fun v t9 S9 => v = none ∧ t9 = cd ∧ (cd = 0 → S9 = st) ∧ (cd ≠ 0 → S9 = S)
theorem opV.good {S st S9 : gS} {cd c : Int} (h : cd = c) (hc : c = 0) (hs : S9 = st) : opV S cd st none c S9 := ⟨rfl, h.symm, fun _ => hs, fun q => absurd (h.trans hc) q⟩
/-- a container begun at the next place -/
def bgn0 (S : gS) (i gr p s : Int) : gS := sset (sset (sset (sset (sset (sset (sset (sset (sset (sset (sset S 12 (S 11 0) i) 13 (S 11 0) s) 14 (S 11 0) 0) 15 (S 11 0) 1) 16 (S 11 0) p) 17 (S 11 0) p) 18 (S 11 0) 0) 19 (S 11 0) 0) 20 (S 11 0) gr) 21 (S 11 0) (-1)) 22 (S 11 0) 0
def bgn (S : gS) (i gr p s : Int) : gS := sset (ez (bgn0 S i gr p s) (10 + S 11 0) 32) 11 0 (S 11 0 + 1)
/-- a container stopped, its ports of the host as far as n -/
def stq (S : gS) (c n : Int) : gS := fun a j => if (a = 14 ∨ a = 15 ∨ a = 18) ∧ j = c then 0 else if a = 19 ∧ j = c then 2 else if a = 21 ∧ j = c then -1 else if a = 24 ∧ 0 ≤ j ∧ j < n ∧ S 24 j = c then -1 else S a j
def stp (S : gS) (c : Int) : gS := stq S c 32
/-- the container with the most memory in a group and below -/
def grN (S : gS) (g : Int) : Nat → Int
  | 0 => -1
  | n + 1 => if S 19 n ≠ 2 ∧ bel S (S 20 n) g = 1 ∧ (grN S g n = -1 ∨ S 14 (grN S g n) ≤ S 14 n) then n else grN S g n
def gre (S : gS) (g : Int) : Int := grN S g (S 11 0).toNat
theorem grN_b (S : gS) (g : Int) : ∀ n : Nat, -1 ≤ grN S g n ∧ grN S g n < n := by
  intro n
  induction n with
  | zero => unfold grN; omega
  | succ n ih => unfold grN; split <;> omega
def ist (S : gS) (c s : Int) : Int := if ¬ (0 ≤ c ∧ c < S 11 0) then 1 else if S 19 c = s then 0 else 2
def its (S : gS) (c s : Int) : Int := if ist S c s = 0 then 1 else 0
def cd_run (S : gS) (i w p s : Int) : Int := if ¬ (0 ≤ i ∧ i < S 3 0 ∧ 0 ≤ w ∧ w < S 6 0) then 1 else if ¬ (0 ≤ p ∧ p < 16 ∧ 1 ≤ s ∧ s ≤ 100) then 2 else if S 5 i = 0 ∨ S 11 0 = 20 ∨ tm S w 0 1 ≠ -1 then 3 else 0
def vl_run (S : gS) (i w p s : Int) : Int := S 11 0
def st_run (S : gS) (i w p s : Int) : gS := bgn S i w p s
def cd_pause (S : gS) (c : Int) : Int := ist S c 0
def st_pause (S : gS) (c : Int) : gS := sset S 19 c 1
def cd_resume (S : gS) (c : Int) : Int := ist S c 1
def st_resume (S : gS) (c : Int) : gS := sset S 19 c 0
def cd_stop (S : gS) (c : Int) : Int := if ¬ (0 ≤ c ∧ c < S 11 0) then 1 else if S 19 c = 2 then 2 else 0
def vl_stop (S : gS) (c : Int) : Int := S 14 c
def st_stop (S : gS) (c : Int) : gS := stp S c
def cd_free (S : gS) (c u : Int) : Int := if ¬ (0 ≤ c ∧ c < S 11 0) then 1 else if ¬ (1 ≤ u ∧ u ≤ 5000) then 2 else if S 19 c ≠ 0 ∨ S 14 c < u then 3 else 0
def vl_free (S : gS) (c u : Int) : Int := S 14 c - u
def st_free (S : gS) (c u : Int) : gS := sset S 14 c (S 14 c - u)
def cd_fork (S : gS) (c : Int) : Int := if ¬ (0 ≤ c ∧ c < S 11 0) then 1 else if S 19 c ≠ 0 ∨ tm S (S 20 c) 0 1 ≠ -1 then 2 else 0
def vl_fork (S : gS) (c : Int) : Int := S 15 c + 1
def st_fork (S : gS) (c : Int) : gS := sset S 15 c (S 15 c + 1)
def cd_exit (S : gS) (c : Int) : Int := ist S c 0
def vl_exit (S : gS) (c : Int) : Int := S 15 c - 1
def st_exit (S : gS) (c : Int) : gS := if S 15 c - 1 = 0 then stp (sset S 15 c (S 15 c - 1)) c else sset S 15 c (S 15 c - 1)
/-! pure rows of 18 -/
def may (S : gS) (c f : Int) : Int := if S 19 c = 0 ∧ (4 ≤ f ∨ bit (S 17 c) 1 = 1) then 1 else 0
def cd_writeFile (S : gS) (c f v : Int) : Int := if ¬ (0 ≤ c ∧ c < S 11 0 ∧ 0 ≤ f ∧ f < 32) then 1 else if ¬ (1 ≤ v ∧ v ≤ 999) then 2 else if may S c f = 0 then 3 else 0
def vl_writeFile (S : gS) (c f v : Int) : Int := csee S c f
def st_writeFile (S : gS) (c f v : Int) : gS := sset S 1 (32 * (10 + c) + f) v
def cd_removeFile (S : gS) (c f : Int) : Int := if ¬ (0 ≤ c ∧ c < S 11 0 ∧ 0 ≤ f ∧ f < 32) then 1 else if may S c f = 0 ∨ csee S c f = 0 then 2 else 0
def vl_removeFile (S : gS) (c f : Int) : Int := csee S c f
def st_removeFile (S : gS) (c f : Int) : gS := sset S 1 (32 * (10 + c) + f) (-1)
def cd_fileOf (S : gS) (c f : Int) : Int := if 0 ≤ c ∧ c < S 11 0 ∧ 0 ≤ f ∧ f < 32 then 0 else 1
def vl_fileOf (S : gS) (c f : Int) : Int := csee S c f
def st_fileOf (S : gS) (c f : Int) : gS := S
def icp (S : gS) (c k b : Int) : Int := if ¬ (0 ≤ c ∧ c < S 11 0 ∧ 0 ≤ k ∧ k < 4) then 1 else if S 19 c ≠ 0 ∨ (b = 1 ∧ bit (S 16 c) k = 0) then 2 else 0
def cd_raise (S : gS) (c k : Int) : Int := icp S c k 1
def vl_raise (S : gS) (c k : Int) : Int := bset (S 17 c) k
def st_raise (S : gS) (c k : Int) : gS := sset S 17 c (bset (S 17 c) k)
def cd_lower (S : gS) (c k : Int) : Int := icp S c k 0
def vl_lower (S : gS) (c k : Int) : Int := bclr (S 17 c) k
def st_lower (S : gS) (c k : Int) : gS := sset S 17 c (bclr (S 17 c) k)
def cd_drop (S : gS) (c k : Int) : Int := icp S c k 0
def vl_drop (S : gS) (c k : Int) : Int := bclr (S 16 c) k
def st_drop (S : gS) (c k : Int) : gS := sset (sset S 17 c (bclr (S 17 c) k)) 16 c (bclr (S 16 c) k)
def cd_kill (S : gS) (c v : Int) : Int := if ¬ (0 ≤ c ∧ c < S 11 0 ∧ 0 ≤ v ∧ v < S 11 0) then 1 else if S 19 c = 0 ∧ bit (S 17 c) 3 = 1 ∧ v ≠ c ∧ S 19 v ≠ 2 ∧ bel S (S 20 v) (S 20 c) = 1 then 0 else 2
def vl_kill (S : gS) (c v : Int) : Int := S 14 v
def st_kill (S : gS) (c v : Int) : gS := stp S v
/-! pure rows of 19 -/
def aaN (S : gS) (x : Int) : Nat → Int
  | 0 => -1
  | n + 1 => if S 21 n = x then n else aaN S x n
def aat (S : gS) (b a : Int) : Int := aaN S (10 * b + a) (S 11 0).toNat
theorem aaN_b (S : gS) (x : Int) : ∀ n : Nat, -1 ≤ aaN S x n ∧ aaN S x n < n := by
  intro n
  induction n with
  | zero => unfold aaN; omega
  | succ n ih => unfold aaN; split <;> omega
theorem aat_b {S : gS} (h1 : Inv1 S) (b a : Int) : -1 ≤ aat S b a ∧ aat S b a < S 11 0 := by
  have h := h1.2.2.1
  have := aaN_b S (10 * b + a) (S 11 0).toNat
  unfold aat
  omega
def faN (S : gS) (b : Int) : Nat → Int → Int
  | 0, a => a
  | n + 1, a => if a ≤ 6 ∧ aat S b a ≠ -1 then faN S b n (a + 1) else a
def fad (S : gS) (b : Int) : Int := faN S b 6 1
theorem faN_b (S : gS) (b : Int) : ∀ (n : Nat) (a : Int), a ≤ faN S b n a ∧ faN S b n a ≤ a + n := by
  intro n
  induction n with
  | zero => intro a; unfold faN; omega
  | succ n ih => intro a; have := ih (a + 1); unfold faN; split <;> omega
theorem fad_b (S : gS) (b : Int) : 1 ≤ fad S b ∧ fad S b ≤ 7 := by
  have := faN_b S b 6 1
  unfold fad
  omega
def cd_attach (S : gS) (c b : Int) : Int := if ¬ (0 ≤ c ∧ c < S 11 0 ∧ 0 ≤ b ∧ b < 4) then 1 else if S 19 c = 0 ∧ bit (S 17 c) 2 = 1 ∧ S 21 c = -1 ∧ fad S b ≤ 6 then 0 else 2
def vl_attach (S : gS) (c b : Int) : Int := fad S b
def st_attach (S : gS) (c b : Int) : gS := sset S 21 c (10 * b + fad S b)
def cd_detach (S : gS) (c : Int) : Int := if ¬ (0 ≤ c ∧ c < S 11 0) then 1 else if S 19 c ≠ 0 ∨ S 21 c = -1 then 2 else 0
def vl_detach (S : gS) (c : Int) : Int := S 21 c / 10
def st_detach (S : gS) (c : Int) : gS := sset S 21 c (-1)
def cd_connectHost (S : gS) (k : Int) : Int := if 0 ≤ k ∧ k < 32 then 0 else 1
def vl_connectHost (S : gS) (k : Int) : Int := if S 24 k ≠ -1 ∧ S 19 (S 24 k) = 0 then S 24 k else -1
def st_connectHost (S : gS) (k : Int) : gS := S
def cnr (S : gS) (c a : Int) : Int := aat S (S 21 c / 10) a
def cd_connect (S : gS) (c a p : Int) : Int := if ¬ (0 ≤ c ∧ c < S 11 0 ∧ 0 ≤ p ∧ p < 16) then 1 else if ¬ (1 ≤ a ∧ a ≤ 6) then 2 else if S 19 c ≠ 0 ∨ S 21 c = -1 then 3 else 0
def vl_connect (S : gS) (c a p : Int) : Int := if cnr S c a ≠ -1 ∧ S 19 (cnr S c a) = 0 ∧ bit (S 18 (cnr S c a)) p = 1 then cnr S c a else -1
def st_connect (S : gS) (c a p : Int) : gS := S
def bsN (x : Int) : Nat → Int
  | 0 => 0
  | n + 1 => bsN x n + bit x n
def cd_listen (S : gS) (c p : Int) : Int := if ¬ (0 ≤ c ∧ c < S 11 0 ∧ 0 ≤ p ∧ p < 16) then 1 else if S 19 c = 0 ∧ bit (S 18 c) p = 0 ∧ (4 ≤ p ∨ bit (S 17 c) 0 = 1) then 0 else 2
def vl_listen (S : gS) (c p : Int) : Int := bsN (bset (S 18 c) p) 16
def st_listen (S : gS) (c p : Int) : gS := sset S 18 c (bset (S 18 c) p)
theorem bset_b {a k : Int} {n : Nat} (ha : 0 ≤ a) (hk : 0 ≤ k) (hn : k < n) (h2 : a < 2 ^ n) : 0 ≤ bset a k ∧ bset a k < 2 ^ n := by
  have hP : (0 : Int) < 2 ^ k.toNat := Int.pow_pos (by omega)
  have e : (2 : Int) ^ n = 2 * 2 ^ (n - k.toNat - 1) * 2 ^ k.toNat := by
    rw [show (2 : Int) * 2 ^ (n - k.toNat - 1) = 2 ^ (n - k.toNat - 1 + 1) from by rw [Int.pow_succ, Int.mul_comm], ← Int.pow_add]
    congr 1
    omega
  rcases bit_01 a k with hb | hb
  · unfold bset
    rw [hb]
    unfold bit at hb
    rw [e] at h2 ⊢
    generalize (2 : Int) ^ (n - k.toNat - 1) = m at h2 ⊢
    generalize (2 : Int) ^ k.toNat = P at hP hb h2 ⊢
    have q1 : a / P < 2 * m := Int.ediv_lt_of_lt_mul hP h2
    have q2 : a < (a / P + 1) * P := Int.lt_ediv_add_one_mul_self a hP
    generalize a / P = q at q1 q2 hb
    have q3 : (q + 2) * P ≤ 2 * m * P := Int.mul_le_mul_of_nonneg_right (by omega) (by omega)
    have q4 : (q + 2) * P = (q + 1) * P + P := by rw [show q + 2 = (q + 1) + 1 by omega, Int.add_mul (q + 1) 1 P, Int.one_mul]
    omega
  · unfold bset
    rw [hb]
    omega
def pbN (S : gS) (c h : Int) : Nat → Int
  | 0 => 0
  | n + 1 => pbN S c h n + if sset S 24 h c 24 n = -1 then 0 else 1
def cd_publish (S : gS) (c p k : Int) : Int := if ¬ (0 ≤ c ∧ c < S 11 0 ∧ 0 ≤ p ∧ p < 16 ∧ 0 ≤ k ∧ k < 32) then 1 else if bit (S 18 c) p = 1 ∧ S 24 k = -1 then 0 else 2
def vl_publish (S : gS) (c _p k : Int) : Int := pbN S c k 32
def st_publish (S : gS) (c p k : Int) : gS := sset (sset S 24 k c) 25 k p
/-! pure rows of 20 -/
/-- what a checkpoint keeps, from one place to another -/
def kps0 (S : gS) (t f : Int) : gS := sset (sset (sset (sset (sset (sset (sset S 12 t (S 12 f)) 13 t (S 13 f)) 14 t (S 14 f)) 15 t (S 15 f)) 16 t (S 16 f)) 17 t (S 17 f)) 18 t (S 18 f)
def kps (S : gS) (t f : Int) : gS := cz (kps0 S t f) (10 + t) (10 + f) 32
def cd_save (S : gS) (c : Int) : Int := if ¬ (0 ≤ c ∧ c < S 11 0) then 1 else if S 19 c ≠ 1 ∨ S 23 0 = 5 then 2 else 0
def vl_save (S : gS) (c : Int) : Int := S 23 0
def st_save (S : gS) (c : Int) : gS := sset (kps S (20 + S 23 0) c) 23 0 (S 23 0 + 1)
def cd_restore (S : gS) (k w : Int) : Int := if ¬ (0 ≤ k ∧ k < S 23 0 ∧ 0 ≤ w ∧ w < S 6 0) then 1 else if S 11 0 = 20 ∨ tm S w (S 14 (20 + k)) (S 15 (20 + k)) ≠ -1 then 2 else 0
def vl_restore (S : gS) (k w : Int) : Int := S 11 0
def st_restore (S : gS) (k w : Int) : gS := kps (bgn S 0 w 0 1) (S 11 0) (20 + k)
def cd_stateOf (S : gS) (c : Int) : Int := if 0 ≤ c ∧ c < S 11 0 then 0 else 1
def vl_stateOf (S : gS) (c : Int) : Int := S 19 c
def st_stateOf (S : gS) (c : Int) : gS := S
def cd_memoryOf (S : gS) (c : Int) : Int := if 0 ≤ c ∧ c < S 11 0 then 0 else 1
def vl_memoryOf (S : gS) (c : Int) : Int := S 14 c
def st_memoryOf (S : gS) (c : Int) : gS := S
def cd_timeOf (S : gS) (c : Int) : Int := if 0 ≤ c ∧ c < S 11 0 then 0 else 1
def vl_timeOf (S : gS) (c : Int) : Int := S 22 c
def st_timeOf (S : gS) (c : Int) : gS := S
def cd_capabilitiesOf (S : gS) (c : Int) : Int := if 0 ≤ c ∧ c < S 11 0 then 0 else 1
def vl_capabilitiesOf (S : gS) (c : Int) : Int := 16 * S 16 c + S 17 c
def st_capabilitiesOf (S : gS) (c : Int) : gS := S
def cd_addressOf (S : gS) (c : Int) : Int := if 0 ≤ c ∧ c < S 11 0 then 0 else 1
def vl_addressOf (S : gS) (c : Int) : Int := S 21 c
def st_addressOf (S : gS) (c : Int) : gS := S
theorem ancN_s (S : gS) : ∀ (n : Nat) (k : Int), ancN S (n + 1) k = S 4 (ancN S n k) := by
  intro n
  induction n with
  | zero => intro k; rfl
  | succ n ih => intro k; show ancN S (n + 1) (S 4 k) = S 4 (ancN S n (S 4 k)); exact ih (S 4 k)
theorem anc_lay {S : gS} (hI : Inv S) : ∀ (n : Nat) (k : Int), 0 ≤ k → k < S 3 0 → (n : Int) ≤ lay S k → -1 ≤ ancN S n k ∧ ancN S n k < S 3 0 ∧ lay S (ancN S n k) = lay S k - n := by
  intro n
  induction n with
  | zero => intro k h0 h1 h2; show -1 ≤ k ∧ k < S 3 0 ∧ lay S k = lay S k - 0; omega
  | succ n ih =>
    intro k h0 h1 h2
    have hb := hI.2.2.1.1 k h0 h1
    have hs := lay_s hI.2.2.1 h0 h1
    show -1 ≤ ancN S n (S 4 k) ∧ ancN S n (S 4 k) < S 3 0 ∧ lay S (ancN S n (S 4 k)) = lay S k - (n + 1 : Nat)
    by_cases hk : S 4 k = -1
    · rw [hk, lay_m1] at hs
      have : n = 0 := by omega
      subst this
      show -1 ≤ S 4 k ∧ S 4 k < S 3 0 ∧ lay S (S 4 k) = lay S k - (0 + 1 : Nat)
      rw [hk, lay_m1]; omega
    · have := ih (S 4 k) (by omega) (by omega) (by omega)
      omega
theorem lay_0 {S : gS} (hI : Inv S) {k : Int} (h0 : -1 ≤ k) (h1 : k < S 3 0) (h : lay S k = 0) : k = -1 := by
  by_cases hk : k = -1
  · exact hk
  · have := lay_s hI.2.2.1 (k := k) (by omega) h1
    have := lay_nn S (S 4 k)
    omega
def lyA (S : gS) (c h : Int) : Int := if h = lay S (S 12 c) then 10 + c else ancN S (lay S (S 12 c) - 1 - h).toNat (S 12 c)
def cd_plainFileOf (S : gS) (c f : Int) : Int := if 0 ≤ c ∧ c < S 11 0 ∧ 0 ≤ f ∧ f < 32 then 0 else 1
def vl_plainFileOf (S : gS) (c f : Int) : Int := csee S c f
def st_plainFileOf (S : gS) (_ _ : Int) : gS := S
/-- what is built up below height h -/
def pln (S : gS) (c f h : Int) : Int := if h = lay S (S 12 c) + 1 then csee S c f else see S (ancN S (lay S (S 12 c) - h).toNat (S 12 c)) f
theorem pln_s {S : gS} (hI : Inv S) {c f h : Int} (hc : 0 ≤ c) (hk : 0 ≤ S 12 c ∧ S 12 c < S 3 0) (h0 : 0 ≤ h) (h1 : h ≤ lay S (S 12 c)) : pln S c f (h + 1) = lyr S (lyA S c h) f (pln S c f h) ∧ 0 ≤ lyA S c h ∧ (lyA S c h = 10 + c ∨ lyA S c h < S 3 0) := by
  by_cases q : h = lay S (S 12 c)
  · unfold pln lyA
    rw [if_pos (by omega), if_pos q, if_neg (by omega), q, Int.sub_self]
    exact ⟨rfl, by omega, Or.inl rfl⟩
  · have ha := anc_lay hI (lay S (S 12 c) - 1 - h).toNat (S 12 c) hk.1 hk.2 (by omega)
    have e : (lay S (S 12 c) - h).toNat = (lay S (S 12 c) - 1 - h).toNat + 1 := by omega
    unfold pln lyA
    rw [if_neg (by omega), if_neg q, if_neg (by omega), show lay S (S 12 c) - (h + 1) = lay S (S 12 c) - 1 - h by omega, e, ancN_s]
    generalize hA : ancN S (lay S (S 12 c) - 1 - h).toNat (S 12 c) = A at ha ⊢
    have h0A : 0 ≤ A := by
      rcases (by omega : A = -1 ∨ 0 ≤ A) with z | z
      · rw [z, lay_m1] at ha; omega
      · exact z
    exact ⟨see_s hI.2.2.1 f h0A ha.2.1, h0A, Or.inr ha.2.1⟩
/-! pure rows of 21 -/
theorem Inv1.c {S S' : gS} (h : Inv1 S) (h3 : S' 3 = S 3) (h6 : S' 6 = S 6) (h11 : S' 11 = S 11) (h23 : S' 23 = S 23) : Inv1 S' := by
  unfold Inv1; rw [h3, h6, h11, h23]; exact h
theorem Inv2.c {S S' : gS} (h : Inv2 S) (h3 : S' 3 = S 3) (h4 : S' 4 = S 4) (h6 : S' 6 = S 6) (h7 : S' 7 = S 7) : Inv2 S' := by
  unfold Inv2; rw [h3, h4, h6, h7]; exact h
theorem Inv5.c {S S' : gS} (h : Inv5 S) (h6 : S' 6 = S 6) (h8 : S' 8 = S 8) (h9 : S' 9 = S 9) (h10 : S' 10 = S 10) : Inv5 S' := by
  unfold Inv5; rw [h6, h8, h9, h10]; exact h
theorem isCK.c {S S' : gS} {k : Int} (h11 : S' 11 = S 11) (h23 : S' 23 = S 23) : isCK S' k = isCK S k := by
  unfold isCK; rw [h11, h23]
theorem bel_congr {S S' : gS} (h : S' 7 = S 7) (a b : Int) : bel S' a b = bel S a b := by
  have : ∀ (n : Nat) (a : Int), belN S' n a b = belN S n a b := by
    intro n
    induction n with
    | zero => intro a; rfl
    | succ n ih => intro a; unfold belN; rw [ih, h]
  exact this _ _
/-- one container's memory changes -/
theorem memN_up {S S' : gS} (h7 : S' 7 = S 7) (h20 : S' 20 = S 20) (g c : Int) (h14 : ∀ k, k ≠ c → S' 14 k = S 14 k) : ∀ n : Nat, memN S' g n = memN S g n + (if 0 ≤ c ∧ c < n ∧ bel S (S 20 c) g = 1 then S' 14 c - S 14 c else 0) := by
  intro n
  induction n with
  | zero =>
    rw [if_neg (by omega)]
    rfl
  | succ n ih =>
    unfold memN
    rw [bel_congr h7, h20, ih]
    by_cases hc : (n : Int) = c
    · subst hc
      rw [if_neg (by omega)]
      (repeat' split) <;> omega
    · rw [h14 n hc]
      (repeat' split) <;> omega
theorem prcN_up {S S' : gS} (h7 : S' 7 = S 7) (h20 : S' 20 = S 20) (g c : Int) (h15 : ∀ k, k ≠ c → S' 15 k = S 15 k) : ∀ n : Nat, prcN S' g n = prcN S g n + (if 0 ≤ c ∧ c < n ∧ bel S (S 20 c) g = 1 then S' 15 c - S 15 c else 0) := by
  intro n
  induction n with
  | zero =>
    rw [if_neg (by omega)]
    rfl
  | succ n ih =>
    unfold prcN
    rw [bel_congr h7, h20, ih]
    by_cases hc : (n : Int) = c
    · subst hc
      rw [if_neg (by omega)]
      (repeat' split) <;> omega
    · rw [h15 n hc]
      (repeat' split) <;> omega
theorem memI_up {S S' : gS} (h1 : Inv1 S) (h7 : S' 7 = S 7) (h11 : S' 11 = S 11) (h20 : S' 20 = S 20) (g : Int) {c : Int} (hc : 0 ≤ c) (hc2 : c < S 11 0) (h14 : ∀ k, k ≠ c → S' 14 k = S 14 k) : memI S' g = memI S g + (if bel S (S 20 c) g = 1 then S' 14 c - S 14 c else 0) := by
  have h := memN_up h7 h20 g c h14 (S 11 0).toNat
  have hco := h1.2.2.1
  unfold memI
  rw [h11, h]
  congr 1
  by_cases q : bel S (S 20 c) g = 1
  · rw [if_pos q, if_pos ⟨hc, by omega, q⟩]
  · rw [if_neg q, if_neg (fun z => q z.2.2)]
theorem prcI_up {S S' : gS} (h1 : Inv1 S) (h7 : S' 7 = S 7) (h11 : S' 11 = S 11) (h20 : S' 20 = S 20) (g : Int) {c : Int} (hc : 0 ≤ c) (hc2 : c < S 11 0) (h15 : ∀ k, k ≠ c → S' 15 k = S 15 k) : prcI S' g = prcI S g + (if bel S (S 20 c) g = 1 then S' 15 c - S 15 c else 0) := by
  have h := prcN_up h7 h20 g c h15 (S 11 0).toNat
  have hco := h1.2.2.1
  unfold prcI
  rw [h11, h]
  congr 1
  by_cases q : bel S (S 20 c) g = 1
  · rw [if_pos q, if_pos ⟨hc, by omega, q⟩]
  · rw [if_neg q, if_neg (fun z => q z.2.2)]
theorem memN_eq {S S' : gS} (h7 : S' 7 = S 7) (h20 : S' 20 = S 20) (h14 : S' 14 = S 14) (g : Int) : ∀ n : Nat, memN S' g n = memN S g n := by
  intro n
  induction n with
  | zero => rfl
  | succ n ih => unfold memN; rw [bel_congr h7, h20, h14, ih]
theorem prcN_eq {S S' : gS} (h7 : S' 7 = S 7) (h20 : S' 20 = S 20) (h15 : S' 15 = S 15) (g : Int) : ∀ n : Nat, prcN S' g n = prcN S g n := by
  intro n
  induction n with
  | zero => rfl
  | succ n ih => unfold prcN; rw [bel_congr h7, h20, h15, ih]
theorem memI_eq {S S' : gS} (h7 : S' 7 = S 7) (h11 : S' 11 = S 11) (h14 : S' 14 = S 14) (h20 : S' 20 = S 20) (g : Int) : memI S' g = memI S g := by
  unfold memI; rw [h11, memN_eq h7 h20 h14]
theorem prcI_eq {S S' : gS} (h7 : S' 7 = S 7) (h11 : S' 11 = S 11) (h15 : S' 15 = S 15) (h20 : S' 20 = S 20) (g : Int) : prcI S' g = prcI S g := by
  unfold prcI; rw [h11, prcN_eq h7 h20 h15]
/-- every group's path ends at the root -/
theorem bel_root {S : gS} (h2 : Inv2 S) (h1 : Inv1 S) : ∀ (n : Nat) (a : Int), a < n → 0 ≤ a → a < S 6 0 → bel S a 0 = 1 := by
  intro n
  induction n with
  | zero => intro a b c; omega
  | succ n ih =>
    intro a hb hc hd
    by_cases h0 : a = 0
    · rw [h0, bel_eq]
    · have hp := h2.2.2 a (by omega) hd
      rw [bel_s h2 h1 (by omega) hc hd h0]
      exact ih (S 7 a) (by omega) hp.1 (by omega)
theorem stp_row {S : gS} {c : Int} {k : Nat} (h14 : k ≠ 14) (h15 : k ≠ 15) (h18 : k ≠ 18) (h19 : k ≠ 19) (h21 : k ≠ 21) (h24 : k ≠ 24) : stp S c k = S k := by
  funext j
  unfold stp stq
  rw [if_neg (by omega), if_neg (by omega), if_neg (by omega), if_neg (by omega)]
theorem stp_c (S : gS) (c : Int) : stp S c 14 c = 0 ∧ stp S c 15 c = 0 ∧ stp S c 18 c = 0 ∧ stp S c 19 c = 2 ∧ stp S c 21 c = -1 := by
  unfold stp stq
  refine ⟨?_, ?_, ?_, ?_, ?_⟩ <;> (repeat' split) <;> omega
theorem stp_n (S : gS) {c j : Int} (hj : j ≠ c) : stp S c 14 j = S 14 j ∧ stp S c 15 j = S 15 j ∧ stp S c 18 j = S 18 j ∧ stp S c 19 j = S 19 j ∧ stp S c 21 j = S 21 j := by
  unfold stp stq
  refine ⟨?_, ?_, ?_, ?_, ?_⟩ <;> (repeat' split) <;> omega
theorem Inv_stp {S : gS} (hI : Inv S) {c : Int} (hc : 0 ≤ c) (hc2 : c < S 11 0) : Inv (stp S c) := by
  obtain ⟨hR, hi1, hi2, hi3, hi4, hi5, hi6, hi7⟩ := id hI
  have r3 : stp S c 3 = S 3 := stp_row (by decide) (by decide) (by decide) (by decide) (by decide) (by decide)
  have r4 : stp S c 4 = S 4 := stp_row (by decide) (by decide) (by decide) (by decide) (by decide) (by decide)
  have r6 : stp S c 6 = S 6 := stp_row (by decide) (by decide) (by decide) (by decide) (by decide) (by decide)
  have r7 : stp S c 7 = S 7 := stp_row (by decide) (by decide) (by decide) (by decide) (by decide) (by decide)
  have r11 : stp S c 11 = S 11 := stp_row (by decide) (by decide) (by decide) (by decide) (by decide) (by decide)
  have r23 : stp S c 23 = S 23 := stp_row (by decide) (by decide) (by decide) (by decide) (by decide) (by decide)
  have r12 : stp S c 12 = S 12 := stp_row (by decide) (by decide) (by decide) (by decide) (by decide) (by decide)
  have r13 : stp S c 13 = S 13 := stp_row (by decide) (by decide) (by decide) (by decide) (by decide) (by decide)
  have r16 : stp S c 16 = S 16 := stp_row (by decide) (by decide) (by decide) (by decide) (by decide) (by decide)
  have r17 : stp S c 17 = S 17 := stp_row (by decide) (by decide) (by decide) (by decide) (by decide) (by decide)
  have r20 : stp S c 20 = S 20 := stp_row (by decide) (by decide) (by decide) (by decide) (by decide) (by decide)
  have r5 : stp S c 5 = S 5 := stp_row (by decide) (by decide) (by decide) (by decide) (by decide) (by decide)
  have r1 : stp S c 1 = S 1 := stp_row (by decide) (by decide) (by decide) (by decide) (by decide) (by decide)
  have r2 : stp S c 2 = S 2 := stp_row (by decide) (by decide) (by decide) (by decide) (by decide) (by decide)
  have r8 : stp S c 8 = S 8 := stp_row (by decide) (by decide) (by decide) (by decide) (by decide) (by decide)
  have r9 : stp S c 9 = S 9 := stp_row (by decide) (by decide) (by decide) (by decide) (by decide) (by decide)
  have r10 : stp S c 10 = S 10 := stp_row (by decide) (by decide) (by decide) (by decide) (by decide) (by decide)
  have hk := hi3 c (Or.inl ⟨hc, hc2⟩)
  refine ⟨?_, hi1.c r3 r6 r11 r23, hi2.c r3 r4 r6 r7, ?_, ?_, hi5.c r6 r8 r9 r10, ?_, ?_⟩
  · intro a j ha
    have := hR a j ha
    unfold stp stq
    (repeat' split) <;> first | exact this | (unfold R32; omega)
  · intro k hkk
    rw [isCK.c r11 r23] at hkk
    rw [r3, r12, r13, r16, r17]
    have h := hi3 k hkk
    by_cases hkc : k = c
    · subst hkc
      have := stp_c S k
      omega
    · have := stp_n S hkc
      omega
  · intro k h0 h1
    rw [r11] at h1
    have h := hi4 k h0 h1
    rw [r6, r20]
    by_cases hkc : k = c
    · subst hkc
      have := stp_c S k
      omega
    · have := stp_n S hkc
      rw [this.1, this.2.1, this.2.2.1, this.2.2.2.1, this.2.2.2.2]
      exact h
  · unfold Inv6
    rw [r1, r2, r5, r11]
    refine ⟨hi6.1, hi6.2.1, hi6.2.2.1, fun j h0 h1 => ?_⟩
    have := hi6.2.2.2 j h0 h1
    unfold stp stq
    (repeat' split) <;> omega
  · unfold Inv7
    refine ⟨fun k h0 h1 => ?_, fun k hkk => ?_, ?_, ?_, ?_, ?_⟩
    · rw [r3] at h1
      rw [lay_congr r4, r4, r5]
      exact hi7.1 k h0 h1
    · rw [isCK.c r11 r23] at hkk
      rw [r12, r5]
      exact hi7.2.1 k hkk
    · rw [r8]; exact hi7.2.2.1
    · rw [r9]; exact hi7.2.2.2.1
    · have e := memI_up hi1 r7 r11 r20 0 hc hc2 (fun k hk => (stp_n S hk).1)
      have := (stp_c S c).1
      have h9 := hi7.2.2.2.2.1
      rw [e]
      split <;> omega
    · have e := prcI_up hi1 r7 r11 r20 0 hc hc2 (fun k hk => (stp_n S hk).2.1)
      have := (stp_c S c).2.1
      have h9 := hi7.2.2.2.2.2
      rw [e]
      split <;> omega

/-! pure rows of 22 -/
theorem tm_bel {S : gS} (h2 : Inv2 S) (h1 : Inv1 S) (u m : Int) : ∀ (n : Nat) (k : Int), k < n → -1 ≤ k → k < S 6 0 → tm S k u m ≠ -1 → bel S k (tm S k u m) = 1 ∧ (memI S (tm S k u m) + u > S 8 (tm S k u m) ∨ prcI S (tm S k u m) + m > S 9 (tm S k u m)) := by
  intro n
  induction n with
  | zero =>
    intro k a b c d
    have : k = -1 := by omega
    subst this
    exact absurd (tm_m1 S u m) d
  | succ n ih =>
    intro k a b c d
    by_cases hk : k = -1
    · subst hk; exact absurd (tm_m1 S u m) d
    · have hp := h2.pa h1 k (by omega) c
      have e := tm_s h2 h1 u m (k := k) (by omega) c
      by_cases q : memI S k + u > S 8 k ∨ prcI S k + m > S 9 k
      · rw [if_pos q] at e
        rw [e]
        exact ⟨bel_eq S k, q⟩
      · rw [if_neg q] at e
        rw [e] at d ⊢
        have hr := tm_r h2 h1 (k := S 7 k) u m hp.1 (by omega)
        have h := ih (S 7 k) (by omega) hp.1 (by omega) d
        rw [bel_s h2 h1 (by omega) (by omega) c (by omega)]
        exact h
theorem grN_1 (S : gS) (g : Int) : ∀ n : Nat, grN S g n ≠ -1 → 0 ≤ grN S g n ∧ S 19 (grN S g n) ≠ 2 ∧ bel S (S 20 (grN S g n)) g = 1 := by
  intro n
  induction n with
  | zero => intro h; exact absurd rfl h
  | succ n ih =>
    unfold grN
    split
    · rename_i q
      intro _
      exact ⟨by omega, q.1, q.2.1⟩
    · exact ih
theorem grN_2 (S : gS) (g : Int) {k : Int} (h0 : 0 ≤ k) (h1 : S 19 k ≠ 2) (h2 : bel S (S 20 k) g = 1) : ∀ n : Nat, k < n → grN S g n ≠ -1 := by
  intro n
  induction n with
  | zero => intro h; omega
  | succ n ih =>
    intro hk
    unfold grN
    split
    · omega
    · rename_i q
      by_cases hkn : k = n
      · subst hkn
        intro z
        exact q ⟨h1, h2, Or.inl z⟩
      · exact ih (by omega)
def nsN (S : gS) : Nat → Nat
  | 0 => 0
  | n + 1 => nsN S n + if S 19 n = 2 then 0 else 1
def ns (S : gS) : Nat := nsN S (S 11 0).toNat
theorem nsN_b (S : gS) : ∀ n : Nat, nsN S n ≤ n := by
  intro n
  induction n with
  | zero => exact Nat.le_refl 0
  | succ n ih => unfold nsN; split <;> omega
theorem nsN_stp (S : gS) {c : Int} (hc : 0 ≤ c) (h : S 19 c ≠ 2) : ∀ n : Nat, nsN (stp S c) n + (if c < n then 1 else 0) = nsN S n := by
  intro n
  induction n with
  | zero => rw [if_neg (by omega)]; rfl
  | succ n ih =>
    unfold nsN
    by_cases hcn : c = n
    · subst hcn
      have := stp_c S n
      rw [if_neg (by omega)] at ih
      rw [if_pos this.2.2.2.1, if_pos (by omega), if_neg h]
      omega
    · rw [(stp_n S (c := c) (j := n) (by omega)).2.2.2.1]
      have e : (if c < (n : Int) then 1 else 0) = (if c < ((n + 1 : Nat) : Int) then (1 : Nat) else 0) := by
        by_cases q : c < (n : Int)
        · rw [if_pos q, if_pos (by omega)]
        · rw [if_neg q, if_neg (by omega)]
      rw [e] at ih
      omega
theorem ns_stp {S : gS} (h1 : Inv1 S) {c : Int} (hc : 0 ≤ c) (hc2 : c < S 11 0) (h : S 19 c ≠ 2) : ns (stp S c) + 1 = ns S := by
  have e : stp S c 11 = S 11 := stp_row (by decide) (by decide) (by decide) (by decide) (by decide) (by decide)
  have := nsN_stp S hc h (S 11 0).toNat
  rw [if_pos (by omega)] at this
  unfold ns
  rw [e]
  exact this
/-- who asks for memory, how much; killed until it fits -/
def alK (c u : Int) : Nat → gS → gS
  | 0, S => S
  | n + 1, S => if tm S (S 20 c) u 0 ≠ -1 ∧ S 19 c = 0 then alK c u n (stp S (gre S (tm S (S 20 c) u 0))) else S
def cd_allocate (S : gS) (c u : Int) : Int := if ¬ (0 ≤ c ∧ c < S 11 0) then 1 else if ¬ (1 ≤ u ∧ u ≤ 5000) then 2 else if S 19 c ≠ 0 then 3 else 0
def alS (S : gS) (c u : Int) : gS := alK c u 21 S
def vl_allocate (S : gS) (c u : Int) : Int := if alS S c u 19 c = 2 then -1 else alS S c u 14 c + u
def st_allocate (S : gS) (c u : Int) : gS := if alS S c u 19 c = 2 then alS S c u else sset (alS S c u) 14 c (alS S c u 14 c + u)
/-- the victim of one round -/
theorem vict {S : gS} (hI : Inv S) {c u : Int} (hc : 0 ≤ c) (hc2 : c < S 11 0) (hs : S 19 c = 0) (ht : tm S (S 20 c) u 0 ≠ -1) : 0 ≤ tm S (S 20 c) u 0 ∧ tm S (S 20 c) u 0 < S 6 0 ∧ 0 ≤ gre S (tm S (S 20 c) u 0) ∧ gre S (tm S (S 20 c) u 0) < S 11 0 ∧ S 19 (gre S (tm S (S 20 c) u 0)) ≠ 2 := by
  obtain ⟨hR, hi1, hi2, hi3, hi4, -⟩ := id hI
  have h4 := hi4 c hc hc2
  have hr := tm_r hi2 hi1 u 0 (k := S 20 c) (by omega) (by omega)
  have hb := tm_bel hi2 hi1 u 0 (S 20 c + 1).toNat (S 20 c) (by omega) (by omega) (by omega) ht
  have hco := hi1.2.2.1
  have g2 := grN_2 S (tm S (S 20 c) u 0) hc (by omega) hb.1 (S 11 0).toNat (by omega)
  have g1 := grN_1 S (tm S (S 20 c) u 0) (S 11 0).toNat g2
  have g3 := grN_b S (tm S (S 20 c) u 0) (S 11 0).toNat
  refine ⟨by omega, by omega, g1.1, ?_, g1.2.1⟩
  show grN S (tm S (S 20 c) u 0) (S 11 0).toNat < S 11 0
  omega
/-! pure rows of 23 -/
def runN (S : gS) (p : Int) : Nat → Int
  | 0 => 0
  | n + 1 => if runN S p n = 1 ∨ (S 19 n = 0 ∧ bel S (S 20 n) p = 1) then 1 else 0
def run1 (S : gS) (p : Int) : Int := runN S p (S 11 0).toNat
def isp (S : gS) (p g : Int) : Int := if 8 ≤ p then (if p - 8 < S 11 0 ∧ S 19 (p - 8) = 0 ∧ S 20 (p - 8) = g then 1 else 0) else (if p < S 6 0 ∧ S 7 p = g ∧ run1 S p = 1 then 1 else 0)
def shp (S : gS) (p : Int) : Int := if p < 8 then S 10 p else S 13 (p - 8)
def shA (S : gS) (g : Int) : Nat → Int
  | 0 => 0
  | n + 1 => shA S g n + if isp S n g = 1 then shp S n else 0
def its1 (S : gS) (g p : Int) : Int := S 26 g * shp S p / shA S g 28
def rem1 (S : gS) (g p : Int) : Int := S 26 g * shp S p % shA S g 28
def r0 (S : gS) (g : Int) : Int → Int := fun p => if isp S p g = 1 then rem1 S g p else -1
def si2 (S : gS) (g : Int) : Nat → Int
  | 0 => 0
  | n + 1 => si2 S g n + if isp S n g = 1 then its1 S g n else 0
def gi2 (S : gS) (g : Int) : Nat → Int
  | 0 => 0
  | n + 1 => gi2 S g n + if isp S n g = 1 ∧ 8 ≤ (n : Int) then its1 S g n else 0
def sr2 (S : gS) (g : Int) : Nat → Int
  | 0 => 0
  | n + 1 => sr2 S g n + if isp S n g = 1 then rem1 S g n else 0
def cn2 (S : gS) (g : Int) : Nat → Nat
  | 0 => 0
  | n + 1 => cn2 S g n + if isp S n g = 1 then 1 else 0
theorem runN_01 (S : gS) (p : Int) (n : Nat) : runN S p n = 0 ∨ runN S p n = 1 := by
  cases n with
  | zero => exact Or.inl rfl
  | succ n => unfold runN; split <;> omega
theorem run1_01 (S : gS) (p : Int) : run1 S p = 0 ∨ run1 S p = 1 := runN_01 S p _
theorem isp_01 (S : gS) (p g : Int) : isp S p g = 0 ∨ isp S p g = 1 := by unfold isp; (repeat' split) <;> omega
/-- a part's shares -/
theorem shp_b {S : gS} (hI : Inv S) {p g : Int} (h0 : 0 ≤ p) (hg : 0 ≤ g) (h : isp S p g = 1) : 1 ≤ shp S p ∧ shp S p ≤ 100 := by
  obtain ⟨hR, hi1, hi2, hi3, hi4, hi5, -⟩ := hI
  unfold isp at h
  unfold shp
  split at h
  · split at h
    · have := hi3 (p - 8) (Or.inl (by omega))
      rw [if_neg (by omega)]
      exact this.2.1
    · omega
  · split at h
    · rename_i q1 q2
      have h7 := hi2.2.1
      have : p ≠ 0 := fun e => by rw [e, h7] at q2; omega
      rw [if_pos (by omega)]
      exact hi5.2 p (by omega) (by omega)
    · omega
theorem shA_b {S : gS} (hI : Inv S) {g : Int} (hg : 0 ≤ g) : ∀ n : Nat, 0 ≤ shA S g n ∧ shA S g n ≤ 100 * n := by
  intro n
  induction n with
  | zero => unfold shA; omega
  | succ n ih =>
    unfold shA
    split
    · rename_i h
      have := shp_b hI (p := n) (by omega) hg h
      omega
    · omega
theorem shA_le {S : gS} (hI : Inv S) {g p : Int} (hg : 0 ≤ g) (h0 : 0 ≤ p) (h : isp S p g = 1) : ∀ n : Nat, p < n → shp S p ≤ shA S g n := by
  intro n
  induction n with
  | zero => intro q; omega
  | succ n ih =>
    intro q
    unfold shA
    by_cases e : p = n
    · subst e
      have := shA_b hI hg n
      rw [if_pos h]
      omega
    · have h1 := ih (by omega)
      split
      · rename_i h2
        have := shp_b hI (p := n) (by omega) hg h2
        omega
      · omega
theorem shA_pos {S : gS} (hI : Inv S) {g p : Int} (hg : 0 ≤ g) (h0 : 0 ≤ p) (hp : p < 28) (h : isp S p g = 1) : 1 ≤ shA S g 28 := by
  have h1 := shA_le hI hg h0 h 28 (by omega)
  have h2 := shp_b hI h0 hg h
  omega
theorem shA_0 {S : gS} (hI : Inv S) {g : Int} (hg : 0 ≤ g) (h : shA S g 28 = 0) {p : Int} (h0 : 0 ≤ p) (hp : p < 28) : isp S p g = 0 := by
  rcases isp_01 S p g with q | q
  · exact q
  · have := shA_pos hI hg h0 hp q
    omega
/-- a share is at most the whole -/
theorem its_b {S : gS} (hI : Inv S) {g p : Int} (hg : 0 ≤ g) (h0 : 0 ≤ p) (hp : p < 28) (h : isp S p g = 1) (hu : 0 ≤ S 26 g) : 0 ≤ its1 S g p ∧ its1 S g p ≤ S 26 g ∧ 0 ≤ rem1 S g p ∧ rem1 S g p < shA S g 28 ∧ shA S g 28 * its1 S g p + rem1 S g p = S 26 g * shp S p := by
  have ha := shA_pos hI hg h0 hp h
  have hl := shA_le hI hg h0 h 28 (by omega)
  have hs := shp_b hI h0 hg h
  unfold its1 rem1
  have hm : 0 ≤ S 26 g * shp S p := Int.mul_nonneg hu (by omega)
  refine ⟨Int.ediv_nonneg hm (by omega), ?_, Int.emod_nonneg _ (by omega), Int.emod_lt_of_pos _ (by omega), Int.mul_ediv_add_emod _ _⟩
  have h1 : S 26 g * shp S p ≤ S 26 g * shA S g 28 := Int.mul_le_mul_of_nonneg_left hl hu
  have h2 := Int.ediv_le_ediv (c := shA S g 28) (by omega) h1
  rwa [Int.mul_ediv_cancel _ (by omega)] at h2
theorem sums {S : gS} (hI : Inv S) {g : Int} (hg : 0 ≤ g) (hu : 0 ≤ S 26 g) : ∀ n : Nat, n ≤ 28 → shA S g 28 * si2 S g n + sr2 S g n = S 26 g * shA S g n ∧ 0 ≤ sr2 S g n ∧ sr2 S g n ≤ cn2 S g n * (shA S g 28 - 1) ∧ 0 ≤ si2 S g n := by
  intro n
  induction n with
  | zero => intro _; unfold si2 sr2 shA cn2; simp
  | succ n ih =>
    intro hn
    have h := ih (by omega)
    unfold si2 sr2 cn2
    have e : shA S g (n + 1) = shA S g n + (if isp S n g = 1 then shp S n else 0) := rfl
    rw [e]
    by_cases q : isp S n g = 1
    · have hb := its_b hI hg (p := n) (by omega) (by omega) q hu
      rw [if_pos q, if_pos q, if_pos q, if_pos q, Int.mul_add, Int.mul_add]
      generalize shA S g 28 * si2 S g n = X1 at h ⊢
      generalize shA S g 28 * its1 S g n = X2 at hb ⊢
      generalize S 26 g * shA S g n = X3 at h ⊢
      generalize S 26 g * shp S n = X4 at hb ⊢
      have ec : ((cn2 S g n + 1 : Nat) : Int) * (shA S g 28 - 1) = (cn2 S g n : Int) * (shA S g 28 - 1) + (shA S g 28 - 1) := by
        rw [Int.natCast_add, Int.add_mul]
        simp
      rw [ec]
      generalize (cn2 S g n : Int) * (shA S g 28 - 1) = X5 at h ⊢
      omega
    · rw [if_neg q, if_neg q, if_neg q, if_neg q]
      simpa using h
/-- how many units the rounding leaves -/
def lef (S : gS) (g : Int) : Int := if shA S g 28 = 0 then 0 else S 26 g - si2 S g 28
theorem lef_b {S : gS} (hI : Inv S) {g : Int} (hg : 0 ≤ g) (hu : 0 ≤ S 26 g) : 0 ≤ lef S g ∧ lef S g ≤ cn2 S g 28 := by
  unfold lef
  split
  · omega
  · rename_i ha
    have hb := shA_b hI hg 28
    have h := sums hI hg hu 28 (Nat.le_refl _)
    generalize hA : shA S g 28 = A at *
    have h1 : 0 < A := by omega
    have e : A * (S 26 g - si2 S g 28) = sr2 S g 28 := by
      rw [Int.mul_sub, Int.mul_comm A (S 26 g)]
      omega
    constructor
    · rcases (by omega : 0 ≤ S 26 g - si2 S g 28 ∨ S 26 g - si2 S g 28 < 0) with q | q
      · exact q
      · have := Int.mul_neg_of_pos_of_neg h1 q
        omega
    · rcases (by omega : S 26 g - si2 S g 28 ≤ cn2 S g 28 ∨ (cn2 S g 28 : Int) + 1 ≤ S 26 g - si2 S g 28) with q | q
      · exact q
      · have h3 := Int.mul_le_mul_of_nonneg_left q (by omega : 0 ≤ A)
        have h4 : A * ((cn2 S g 28 : Int) + 1) = A * cn2 S g 28 + A := by rw [Int.mul_add, Int.mul_one]
        have h5 : (cn2 S g 28 : Int) * (A - 1) = A * cn2 S g 28 - cn2 S g 28 := by rw [Int.mul_sub, Int.mul_one, Int.mul_comm]
        omega
/-- the part with the greatest remainder, the first of several -/
def bstN (r : Int → Int) : Nat → Int
  | 0 => 0
  | n + 1 => if r (bstN r n) < r ((n : Int) + 1) then (n : Int) + 1 else bstN r n
theorem bstN_b (r : Int → Int) : ∀ n : Nat, 0 ≤ bstN r n ∧ bstN r n ≤ n := by
  intro n
  induction n with
  | zero => unfold bstN; omega
  | succ n ih => unfold bstN; split <;> omega
theorem bstN_max (r : Int → Int) : ∀ n : Nat, ∀ p : Int, 0 ≤ p → p ≤ n → r p ≤ r (bstN r n) ∧ (p < bstN r n → r p < r (bstN r n)) := by
  intro n
  induction n with
  | zero =>
    intro p h0 h1
    have : p = 0 := by omega
    subst this
    exact ⟨Int.le_refl _, fun h => by unfold bstN at h; omega⟩
  | succ n ih =>
    intro p h0 h1
    have hb := bstN_b r n
    unfold bstN
    split
    · rename_i q
      by_cases e : p = (n : Int) + 1
      · subst e; exact ⟨Int.le_refl _, fun h => by omega⟩
      · have := ih p h0 (by omega)
        omega
    · rename_i q
      by_cases e : p = (n : Int) + 1
      · subst e; exact ⟨by omega, fun h => by omega⟩
      · exact ih p h0 (by omega)
def rN (r : Int → Int) : Nat → Int → Int
  | 0 => r
  | m + 1 => fset (rN r m) (bstN (rN r m) 27) (-1)
def pk (r : Int → Int) (m : Nat) : Int := bstN (rN r m) 27
def exN (r : Int → Int) : Nat → Int → Int
  | 0, _ => 0
  | m + 1, p => exN r m p + if p = pk r m then 1 else 0
def nnN (r : Int → Int) : Nat → Nat
  | 0 => 0
  | n + 1 => nnN r n + if 0 ≤ r n then 1 else 0
theorem nnN_pos (r : Int → Int) : ∀ n : Nat, 0 < nnN r n → ∃ p : Int, 0 ≤ p ∧ p < n ∧ 0 ≤ r p := by
  intro n
  induction n with
  | zero => intro h; exact absurd h (Nat.lt_irrefl 0)
  | succ n ih =>
    unfold nnN
    intro h
    by_cases q : 0 ≤ r n
    · exact ⟨n, by omega, by omega, q⟩
    · rw [if_neg q] at h
      obtain ⟨p, h1, h2, h3⟩ := ih h
      exact ⟨p, h1, by omega, h3⟩
theorem nnN_set {r : Int → Int} {b : Int} (h0 : 0 ≤ b) (hr : 0 ≤ r b) : ∀ n : Nat, nnN (fset r b (-1)) n + (if b < n then 1 else 0) = nnN r n := by
  intro n
  induction n with
  | zero => rw [if_neg (by omega)]; rfl
  | succ n ih =>
    unfold nnN
    by_cases e : b = n
    · subst e
      rw [if_neg (by omega)] at ih
      rw [show fset r (n : Int) (-1) n = -1 from if_pos rfl]
      (repeat' split) <;> omega
    · have e2 : fset r b (-1) n = r n := by unfold fset; rw [if_neg (by omega)]
      have e3 : (if b < (n : Int) then 1 else 0) = (if b < ((n + 1 : Nat) : Int) then (1 : Nat) else 0) := by
        by_cases q : b < (n : Int)
        · rw [if_pos q, if_pos (by omega)]
        · rw [if_neg q, if_neg (by omega)]
      rw [e3] at ih
      rw [e2]
      omega
/-- while remainders are left, a pick has one -/
theorem pk_ok {r : Int → Int} {c : Nat} (hc : nnN r 28 = c) : ∀ m : Nat, m ≤ c → nnN (rN r m) 28 = c - m ∧ (m < c → 0 ≤ rN r m (pk r m)) := by
  have key : ∀ m : Nat, nnN (rN r m) 28 = c - m → m < c → 0 ≤ rN r m (pk r m) := by
    intro m h hm
    obtain ⟨p, h1, h2, h3⟩ := nnN_pos (rN r m) 28 (by omega)
    have := (bstN_max (rN r m) 27 p h1 (by omega)).1
    unfold pk
    omega
  intro m
  induction m with
  | zero => intro _; exact ⟨by show nnN r 28 = c - 0; omega, fun h => key 0 (by show nnN r 28 = c - 0; omega) h⟩
  | succ m ih =>
    intro hm
    have h := ih (by omega)
    have hb := bstN_b (rN r m) 27
    have hs := nnN_set (r := rN r m) (b := bstN (rN r m) 27) hb.1 (h.2 (by omega)) 28
    rw [if_pos (by omega)] at hs
    have e : nnN (rN r (m + 1)) 28 = c - (m + 1) := by
      show nnN (fset (rN r m) (bstN (rN r m) 27) (-1)) 28 = c - (m + 1)
      omega
    exact ⟨e, fun h9 => key (m + 1) e h9⟩
theorem rN_le (r : Int → Int) : ∀ (m : Nat) (p : Int), rN r m p = r p ∨ rN r m p = -1 := by
  intro m
  induction m with
  | zero => intro p; exact Or.inl rfl
  | succ m ih =>
    intro p
    show fset (rN r m) _ (-1) p = r p ∨ fset (rN r m) _ (-1) p = -1
    unfold fset
    split
    · exact Or.inr rfl
    · exact ih p
theorem nnN_r0 {S : gS} (hI : Inv S) {g : Int} (hg : 0 ≤ g) (hu : 0 ≤ S 26 g) : ∀ n : Nat, n ≤ 28 → nnN (r0 S g) n = cn2 S g n := by
  intro n
  induction n with
  | zero => intro _; rfl
  | succ n ih =>
    intro hn
    unfold nnN cn2
    rw [ih (by omega)]
    congr 1
    unfold r0
    by_cases q : isp S n g = 1
    · have := its_b hI hg (p := n) (by omega) (by omega) q hu
      rw [if_pos q, if_pos q, if_pos (by omega)]
    · rw [if_neg q, if_neg q, if_neg (by omega)]
/-- every pick is a part -/
theorem pk_isp {S : gS} (hI : Inv S) {g : Int} (hg : 0 ≤ g) (hu : 0 ≤ S 26 g) {m : Nat} (hm : m < cn2 S g 28) : isp S (pk (r0 S g) m) g = 1 := by
  have h := (pk_ok (nnN_r0 hI hg hu 28 (Nat.le_refl _)) m (by omega)).2 hm
  rcases rN_le (r0 S g) m (pk (r0 S g) m) with q | q
  · rw [q] at h
    unfold r0 at h
    split at h
    · assumption
    · omega
  · omega
theorem exN_b {S : gS} (hI : Inv S) {g : Int} (hg : 0 ≤ g) (hu : 0 ≤ S 26 g) : ∀ (m : Nat) (p : Int), m ≤ cn2 S g 28 → 0 ≤ exN (r0 S g) m p ∧ exN (r0 S g) m p ≤ m ∧ (isp S p g = 0 → exN (r0 S g) m p = 0) := by
  intro m
  induction m with
  | zero => intro p _; unfold exN; omega
  | succ m ih =>
    intro p hm
    have h := ih p (by omega)
    unfold exN
    split
    · rename_i q
      have := pk_isp hI hg hu (m := m) (by omega)
      rw [← q] at this
      omega
    · omega
/-- what part p gets of the units of group g -/
def amt (S : gS) (g p : Int) : Int := (if isp S p g = 1 then its1 S g p else 0) + exN (r0 S g) (lef S g).toNat p
def amN (S : gS) (g : Int) : Nat → Int
  | 0 => 0
  | n + 1 => amN S g n + amt S g n
theorem exN_sum (r : Int → Int) (m : Nat) : ∀ n : Nat, ∀ s : Nat → Int, (∀ k, s (k + 1) = s k + exN r m k) → s 0 = 0 → 28 ≤ n → n = 28 → s n = m := by
  induction m with
  | zero =>
    intro n s hs h0 _ hn
    have : ∀ k : Nat, s k = 0 := by
      intro k
      induction k with
      | zero => exact h0
      | succ k ih => rw [hs, ih]; rfl
    rw [this]; rfl
  | succ m ih =>
    intro n s hs h0 h28 hn
    subst hn
    have hb := bstN_b (rN r m) 27
    -- the same sum without the last pick
    have : ∀ k : Nat, k ≤ 28 → ∃ q : Nat → Int, (∀ j, q (j + 1) = q j + exN r m j) ∧ q 0 = 0 ∧ s k = q k + (if pk r m < k then 1 else 0) := by
      intro k
      induction k with
      | zero =>
        intro _
        refine ⟨fun j => Nat.rec 0 (fun i x => x + exN r m i) j, fun j => rfl, rfl, ?_⟩
        rw [h0, if_neg (by unfold pk; omega)]
        rfl
      | succ k ihk =>
        intro hk
        obtain ⟨q, h1, h2, h3⟩ := ihk (by omega)
        refine ⟨q, h1, h2, ?_⟩
        rw [hs, h3, h1, show exN r (m + 1) k = exN r m k + (if (k : Int) = pk r m then 1 else 0) from rfl]
        by_cases e : (k : Int) = pk r m
        · rw [← e, if_pos rfl, if_neg (by omega), if_pos (by omega)]
          omega
        · rw [if_neg e]
          by_cases e2 : pk r m < k
          · rw [if_pos e2, if_pos (by omega)]; omega
          · rw [if_neg e2, if_neg (by omega)]; omega
    obtain ⟨q, h1, h2, h3⟩ := this 28 (Nat.le_refl _)
    rw [h3, ih 28 q h1 h2 (Nat.le_refl _) rfl, if_pos (by unfold pk; omega)]
    omega
theorem amN_28 {S : gS} (hI : Inv S) {g : Int} (hg : 0 ≤ g) (hu : 0 ≤ S 26 g) : amN S g 28 = if shA S g 28 = 0 then 0 else S 26 g := by
  have hsum : ∀ n : Nat, amN S g n = si2 S g n + (Nat.rec 0 (fun i x => x + exN (r0 S g) (lef S g).toNat i) n : Int) := by
    intro n
    induction n with
    | zero => rfl
    | succ n ih =>
      show amN S g n + ((if isp S n g = 1 then its1 S g n else 0) + exN (r0 S g) (lef S g).toNat n) = si2 S g n + (if isp S n g = 1 then its1 S g n else 0) + (Nat.rec 0 (fun i x => x + exN (r0 S g) (lef S g).toNat i) n + exN (r0 S g) (lef S g).toNat n : Int)
      rw [ih]
      omega
  have hex := exN_sum (r0 S g) (lef S g).toNat 28 (fun n => (Nat.rec 0 (fun i x => x + exN (r0 S g) (lef S g).toNat i) n : Int)) (fun k => rfl) rfl (Nat.le_refl _) rfl
  have hl := lef_b hI hg hu
  have h1 := hsum 28
  have h2 : amN S g 28 = si2 S g 28 + ((lef S g).toNat : Int) := by
    rw [h1]
    exact congrArg (fun z => si2 S g 28 + z) hex
  rw [h2]
  by_cases ha : shA S g 28 = 0
  · rw [if_pos ha]
    have hz : ∀ n : Nat, n ≤ 28 → si2 S g n = 0 := by
      intro n
      induction n with
      | zero => intro _; rfl
      | succ n ih =>
        intro hn
        unfold si2
        rw [ih (by omega), if_neg (by have := shA_0 hI hg ha (p := n) (by omega) (by omega); omega)]
        rfl
    rw [hz 28 (Nat.le_refl _)]
    unfold lef at hl ⊢
    rw [if_pos ha]
    rfl
  · rw [if_neg ha]
    have : lef S g = S 26 g - si2 S g 28 := if_neg ha
    omega
theorem amt_b {S : gS} (hI : Inv S) {g p : Int} (hg : 0 ≤ g) (h0 : 0 ≤ p) (hp : p < 28) (hu : 0 ≤ S 26 g) : 0 ≤ amt S g p ∧ (isp S p g = 0 → amt S g p = 0) := by
  have hl := lef_b hI hg hu
  have he := exN_b hI hg hu (lef S g).toNat p (by omega)
  unfold amt
  split
  · rename_i q
    have := its_b hI hg h0 hp q hu
    omega
  · omega

/-! pure rows of 24 -/
theorem isp_self {S : gS} (hI : Inv S) {g : Int} (h0 : 0 ≤ g) (h8 : g < 8) : isp S g g = 0 := by
  have h2 := hI.2.2.1
  unfold isp
  rw [if_neg (by omega)]
  split
  · rename_i q
    rcases (by omega : g = 0 ∨ 1 ≤ g) with e | e
    · subst e; have := h2.2.1; omega
    · have := h2.2.2 g e q.1; omega
  · rfl
theorem runN_c {S T : gS} (h7 : T 7 = S 7) (h19 : T 19 = S 19) (h20 : T 20 = S 20) (p : Int) : ∀ n : Nat, runN T p n = runN S p n := by
  intro n
  induction n with
  | zero => rfl
  | succ n ih => unfold runN; rw [ih, bel_congr h7, h19, h20]
theorem isp_c {S T : gS} (h6 : T 6 = S 6) (h7 : T 7 = S 7) (h11 : T 11 = S 11) (h19 : T 19 = S 19) (h20 : T 20 = S 20) (p g : Int) : isp T p g = isp S p g := by
  unfold isp run1
  rw [runN_c h7 h19 h20, h6, h7, h11, h19, h20]
theorem shp_c {S T : gS} (h10 : T 10 = S 10) (h13 : T 13 = S 13) (p : Int) : shp T p = shp S p := by
  unfold shp; rw [h10, h13]
/-- rows that scheduling leaves -/
def sEq (S T : gS) : Prop := ∀ k, k ≠ 22 → k ≠ 26 → k ≠ 27 → T k = S k
theorem Inv_sEq {S T : gS} (hI : Inv S) (hR : hRp T) (h : sEq S T) : Inv T := by
  obtain ⟨-, hi1, hi2, hi3, hi4, hi5, hi6, hi7⟩ := hI
  have r : ∀ k, k < 22 → T k = S k := fun k hk => h k (by omega) (by omega) (by omega)
  refine ⟨hR, hi1.c (r 3 (by decide)) (r 6 (by decide)) (r 11 (by decide)) (h 23 (by decide) (by decide) (by decide)), hi2.c (r 3 (by decide)) (r 4 (by decide)) (r 6 (by decide)) (r 7 (by decide)), ?_, ?_, hi5.c (r 6 (by decide)) (r 8 (by decide)) (r 9 (by decide)) (r 10 (by decide)), ?_, ?_⟩
  · intro k hk
    rw [isCK.c (r 11 (by decide)) (h 23 (by decide) (by decide) (by decide))] at hk
    rw [r 3 (by decide), r 12 (by decide), r 13 (by decide), r 14 (by decide), r 15 (by decide), r 16 (by decide), r 17 (by decide), r 18 (by decide)]
    exact hi3 k hk
  · intro k h0 h1
    rw [r 11 (by decide)] at h1
    rw [r 6 (by decide), r 14 (by decide), r 15 (by decide), r 18 (by decide), r 19 (by decide), r 20 (by decide), r 21 (by decide)]
    exact hi4 k h0 h1
  · unfold Inv6
    rw [r 1 (by decide), r 2 (by decide), r 5 (by decide), r 11 (by decide), h 24 (by decide) (by decide) (by decide)]
    exact hi6
  · unfold Inv7
    rw [r 3 (by decide), r 4 (by decide), r 5 (by decide), r 8 (by decide), r 9 (by decide), r 12 (by decide), memI_eq (r 7 (by decide)) (r 11 (by decide)) (r 14 (by decide)) (r 20 (by decide)), prcI_eq (r 7 (by decide)) (r 11 (by decide)) (r 15 (by decide)) (r 20 (by decide))]
    refine ⟨fun k h0 h1 => ?_, fun k hk => ?_, hi7.2.2⟩
    · rw [lay_congr (r 4 (by decide))]; exact hi7.1 k h0 h1
    · rw [isCK.c (r 11 (by decide)) (h 23 (by decide) (by decide) (by decide))] at hk
      exact hi7.2.1 k hk
theorem sEq.isp {S T : gS} (h : sEq S T) (p g : Int) : isp T p g = isp S p g := isp_c (h 6 (by decide) (by decide) (by decide)) (h 7 (by decide) (by decide) (by decide)) (h 11 (by decide) (by decide) (by decide)) (h 19 (by decide) (by decide) (by decide)) (h 20 (by decide) (by decide) (by decide)) p g
theorem sEq.shp {S T : gS} (h : sEq S T) (p : Int) : shp T p = shp S p := shp_c (h 10 (by decide) (by decide) (by decide)) (h 13 (by decide) (by decide) (by decide)) p
theorem sEq.set {S T : gS} (h : sEq S T) {k : Nat} (hk : k = 22 ∨ k = 26 ∨ k = 27) (i v : Int) : sEq S (sset T k i v) := fun a h1 h2 h3 => by rw [sset_n T i v (by omega)]; exact h a h1 h2 h3
def s2 (S : gS) (g n : Int) : gS := fun k j => if k = 26 ∧ 0 ≤ j ∧ j < 8 ∧ j < n ∧ isp S j g = 1 then S 26 j + its1 S g j else if k = 22 ∧ 0 ≤ j ∧ j + 8 < n ∧ isp S (j + 8) g = 1 then S 22 j + its1 S g (j + 8) else if k = 27 ∧ 0 ≤ j ∧ j < n then r0 S g j else S k j
theorem s2_eq (S : gS) (g n : Int) : sEq S (s2 S g n) := by
  intro k h1 h2 h3
  funext j; unfold s2
  (repeat' split) <;> first | rfl | omega
def s4 (B : gS) (m : Nat) : gS := fun k j => if k = 26 ∧ 0 ≤ j ∧ j < 8 then B 26 j + exN (B 27) m j else if k = 22 ∧ 0 ≤ j ∧ j < 20 then B 22 j + exN (B 27) m (j + 8) else if k = 27 then rN (B 27) m j else B k j
theorem s4_eq (B : gS) (m : Nat) : sEq B (s4 B m) := by
  intro k h1 h2 h3
  funext j; unfold s4
  (repeat' split) <;> first | rfl | omega

/-! pure rows of 25 -/
def gxN (r : Int → Int) : Nat → Int
  | 0 => 0
  | m + 1 => gxN r m + if pk r m < 8 then 0 else 1
def sox (S : gS) (g : Int) : gS := s4 (s2 S g 28) (lef S g).toNat
def gso (S : gS) (g : Int) : Int := gi2 S g 28 + gxN (s2 S g 28 27) (lef S g).toNat
/-- rows of time are bounded while they are shared out -/
def tB (T : gS) : Prop := ∀ j, 0 ≤ j → j < 8 → 0 ≤ T 26 j ∧ T 26 j ≤ 10000
theorem s2_R {S : gS} (hI : Inv S) (hB : tB S) {g : Int} (hg : 0 ≤ g) (hg8 : g < 8) {n : Int} (hn : n ≤ 28) : hRp (s2 S g n) := by
  intro k j hk
  have hR := hI.1 k j hk
  have hu := hB g hg hg8
  unfold s2
  split
  · rename_i q
    have hj := hB j q.2.1 q.2.2.1
    have := its_b hI hg (p := j) q.2.1 (by omega) q.2.2.2.2 hu.1
    unfold R32; omega
  · split
    · rename_i q; exact absurd q.1 hk
    · split
      · rename_i q
        unfold r0
        split
        · rename_i q2
          have := its_b hI hg q.2.1 (by omega) q2 hu.1
          have := shA_b hI hg 28
          unfold R32; omega
        · unfold R32; omega
      · exact hR

/-! pure rows of 26 -/
theorem cn2_b (S : gS) (w : Int) : ∀ n : Nat, cn2 S w n ≤ n := by
  intro n
  induction n with
  | zero => unfold cn2; omega
  | succ n ih => unfold cn2; split <;> omega
/-! pure rows of 27 -/
theorem bstN_c {r r' : Int → Int} : ∀ n : Nat, (∀ p : Int, 0 ≤ p → p ≤ n → r p = r' p) → bstN r n = bstN r' n := by
  intro n
  induction n with
  | zero => intro _; rfl
  | succ n ih =>
    intro h
    have hb := bstN_b r' n
    unfold bstN
    rw [ih (fun p h0 h1 => h p h0 (by omega)), h (bstN r' n) hb.1 (by omega), h ((n : Int) + 1) (by omega) (by omega)]
theorem rN_c {r r' : Int → Int} (h : ∀ p, 0 ≤ p → p ≤ 27 → r p = r' p) : ∀ (m : Nat) (p : Int), 0 ≤ p → p ≤ 27 → rN r m p = rN r' m p := by
  intro m
  induction m with
  | zero => exact h
  | succ m ih =>
    intro p h0 h1
    show fset (rN r m) (bstN (rN r m) 27) (-1) p = fset (rN r' m) (bstN (rN r' m) 27) (-1) p
    rw [bstN_c 27 ih]
    unfold fset
    split
    · rfl
    · exact ih p h0 h1
theorem pk_c {r r' : Int → Int} (h : ∀ p, 0 ≤ p → p ≤ 27 → r p = r' p) (m : Nat) : pk r m = pk r' m := bstN_c 27 (rN_c h m)
theorem exN_c {r r' : Int → Int} (h : ∀ p, 0 ≤ p → p ≤ 27 → r p = r' p) (p : Int) : ∀ m : Nat, exN r m p = exN r' m p := by
  intro m
  induction m with
  | zero => rfl
  | succ m ih => unfold exN; rw [ih, pk_c h]
theorem gxN_c {r r' : Int → Int} (h : ∀ p, 0 ≤ p → p ≤ 27 → r p = r' p) : ∀ m : Nat, gxN r m = gxN r' m := by
  intro m
  induction m with
  | zero => rfl
  | succ m ih => unfold gxN; rw [ih, pk_c h]
theorem exN_m (r : Int → Int) (p : Int) : ∀ m : Nat, 0 ≤ exN r m p ∧ exN r m p ≤ m := by
  intro m
  induction m with
  | zero => unfold exN; omega
  | succ m ih => unfold exN; split <;> omega
theorem s2_27 (S : gS) (w p : Int) (h0 : 0 ≤ p) (h1 : p ≤ 27) : s2 S w 28 27 p = r0 S w p := by
  unfold s2
  rw [if_neg (by omega), if_neg (by omega), if_pos (by omega)]
theorem sox_26 (S : gS) (w : Int) {j : Int} (h0 : 0 ≤ j) (h1 : j < 8) : sox S w 26 j = S 26 j + amt S w j := by
  unfold sox s4 amt
  rw [if_pos (by omega), exN_c (s2_27 S w)]
  unfold s2
  by_cases q : isp S j w = 1
  · rw [if_pos ⟨rfl, h0, h1, by omega, q⟩, if_pos q]; omega
  · rw [if_neg (fun e => q e.2.2.2.2), if_neg (by omega), if_neg (by omega), if_neg q]; omega
theorem sox_22 (S : gS) (w : Int) {j : Int} (h0 : 0 ≤ j) (h1 : j < 20) : sox S w 22 j = S 22 j + amt S w (j + 8) := by
  unfold sox s4 amt
  rw [if_neg (by omega), if_pos (by omega), exN_c (s2_27 S w)]
  unfold s2
  by_cases q : isp S (j + 8) w = 1
  · rw [if_neg (by omega), if_pos ⟨rfl, h0, by omega, q⟩, if_pos q]; omega
  · rw [if_neg (by omega), if_neg (fun e => q e.2.2.2), if_neg (by omega), if_neg q]; omega
theorem sEq.trans {S T U : gS} (h : sEq S T) (h' : sEq T U) : sEq S U := fun k a b c => (h' k a b c).trans (h k a b c)
theorem sox_eq (S : gS) (w : Int) : sEq S (sox S w) := (s2_eq S w 28).trans (s4_eq _ _)
theorem sox_R {S : gS} (hI : Inv S) (hB : tB S) {w : Int} (hw : 0 ≤ w) (hw8 : w < 8) : hRp (sox S w) := by
  have hu := hB w hw hw8
  have hl := lef_b hI hw hu.1
  have hcn := cn2_b S w 28
  have h2 := s2_R hI hB hw hw8 (n := 28) (by omega)
  intro k j hk
  unfold sox s4
  split
  · rename_i q
    have he := exN_m (s2 S w 28 27) j (lef S w).toNat
    have hj := hB j q.2.1 q.2.2
    have : s2 S w 28 26 j = S 26 j + (if isp S j w = 1 then its1 S w j else 0) := by
      unfold s2
      by_cases q2 : isp S j w = 1
      · rw [if_pos ⟨rfl, q.2.1, q.2.2, by omega, q2⟩, if_pos q2]
      · rw [if_neg (fun e => q2 e.2.2.2.2), if_neg (by omega), if_neg (by omega), if_neg q2]; omega
    have h3 : 0 ≤ (if isp S j w = 1 then its1 S w j else 0) ∧ (if isp S j w = 1 then its1 S w j else 0) ≤ 10000 := by
      split
      · rename_i q2
        have := its_b hI hw (p := j) q.2.1 (by omega) q2 hu.1
        omega
      · omega
    rw [this]
    unfold R32
    omega
  · split
    · rename_i q; exact absurd q.1 hk
    · split
      · rcases rN_le (s2 S w 28 27) (lef S w).toNat j with q | q
        · rw [q]; exact h2 27 j (by decide)
        · rw [q]; unfold R32; omega
      · exact h2 k j hk
theorem amN_ge {S : gS} (hI : Inv S) {w : Int} (hw : 0 ≤ w) (hu : 0 ≤ S 26 w) {p : Int} (hp : 0 ≤ p) : ∀ n : Nat, n ≤ 28 → 0 ≤ amN S w n ∧ (p < n → amt S w p ≤ amN S w n) := by
  intro n
  induction n with
  | zero => intro _; unfold amN; omega
  | succ n ih =>
    intro hn
    have h := ih (by omega)
    have hb := amt_b hI hw (p := n) (by omega) (by omega) hu
    unfold amN
    refine ⟨by omega, fun q => ?_⟩
    by_cases e : p = n
    · subst e; omega
    · have := h.2 (by omega); omega
def exS (r : Int → Int) (m : Nat) : Nat → Int
  | 0 => 0
  | n + 1 => exS r m n + exN r m n
theorem exS_s (r : Int → Int) (m : Nat) : ∀ n : Nat, exS r (m + 1) n = exS r m n + if pk r m < n then 1 else 0 := by
  have hb := bstN_b (rN r m) 27
  have h0 : 0 ≤ pk r m := hb.1
  intro n
  induction n with
  | zero => unfold exS; rw [if_neg (by omega)]; rfl
  | succ n ih =>
    unfold exS
    rw [ih, show exN r (m + 1) n = exN r m n + (if (n : Int) = pk r m then 1 else 0) from rfl]
    by_cases e : (n : Int) = pk r m
    · rw [if_pos e, if_neg (by omega), if_pos (by omega)]; omega
    · rw [if_neg e]
      by_cases e2 : pk r m < n
      · rw [if_pos e2, if_pos (by omega)]; omega
      · rw [if_neg e2, if_neg (by omega)]; omega
theorem exS_0 (r : Int → Int) : ∀ n : Nat, exS r 0 n = 0 := by
  intro n
  induction n with
  | zero => rfl
  | succ n ih => unfold exS; rw [ih]; rfl
theorem exS_g (r : Int → Int) : ∀ m : Nat, exS r m 8 + gxN r m = m ∧ exS r m 28 = m := by
  intro m
  induction m with
  | zero => rw [exS_0, exS_0]; unfold gxN; omega
  | succ m ih =>
    have hb : 0 ≤ pk r m ∧ pk r m ≤ 27 := bstN_b (rN r m) 27
    rw [exS_s, exS_s]
    unfold gxN
    by_cases e : pk r m < 8
    · rw [if_pos (by omega), if_pos e, if_pos (by omega)]; omega
    · rw [if_neg (by omega), if_neg e, if_pos (by omega)]; omega
theorem amN_e (S : gS) (w : Int) : ∀ n : Nat, amN S w n = si2 S w n + exS (r0 S w) (lef S w).toNat n := by
  intro n
  induction n with
  | zero => rfl
  | succ n ih =>
    show amN S w n + ((if isp S n w = 1 then its1 S w n else 0) + exN (r0 S w) (lef S w).toNat n) = (si2 S w n + if isp S n w = 1 then its1 S w n else 0) + (exS (r0 S w) (lef S w).toNat n + exN (r0 S w) (lef S w).toNat n)
    rw [ih]; omega
theorem gi2_e (S : gS) (w : Int) : ∀ n : Nat, (n ≤ 8 → gi2 S w n = 0) ∧ (8 ≤ n → gi2 S w n = si2 S w n - si2 S w 8) := by
  intro n
  induction n with
  | zero => exact ⟨fun _ => rfl, fun h => by omega⟩
  | succ n ih =>
    have e2 : gi2 S w (n + 1) = gi2 S w n + (if isp S n w = 1 ∧ 8 ≤ (n : Int) then its1 S w n else 0) := rfl
    have e1 : si2 S w (n + 1) = si2 S w n + (if isp S n w = 1 then its1 S w n else 0) := rfl
    constructor
    · intro h
      rw [e2, ih.1 (by omega), if_neg (by omega)]; rfl
    · intro h
      by_cases e : n = 7
      · subst e
        rw [e2, ih.1 (by omega), if_neg (by omega)]; show (0 : Int) + 0 = si2 S w 8 - si2 S w 8; omega
      · have := ih.2 (by omega)
        rw [e2, e1, this]
        by_cases q : isp S n w = 1
        · rw [if_pos ⟨q, by omega⟩, if_pos q]; omega
        · rw [if_neg (fun z => q z.1), if_neg q]; omega
theorem gso_e (S : gS) (w : Int) : gso S w = amN S w 28 - amN S w 8 := by
  have h1 := amN_e S w 28
  have h2 := amN_e S w 8
  have h3 := exS_g (r0 S w) (lef S w).toNat
  have h4 := (gi2_e S w 28).2 (by omega)
  unfold gso
  rw [gxN_c (s2_27 S w), h4, h1, h2]
  omega
theorem runN_ex (S : gS) (p : Int) : ∀ n : Nat, runN S p n = 1 → ∃ c : Nat, c < n ∧ S 19 c = 0 ∧ bel S (S 20 c) p = 1 := by
  intro n
  induction n with
  | zero => intro h; exact absurd h (by unfold runN; omega)
  | succ n ih =>
    intro h
    unfold runN at h
    split at h
    · rename_i q
      rcases q with q | q
      · obtain ⟨c, h1, h2, h3⟩ := ih q
        exact ⟨c, by omega, h2, h3⟩
      · exact ⟨n, by omega, q.1, q.2⟩
    · omega
theorem runN_in (S : gS) (p : Int) {c : Nat} (h1 : S 19 c = 0) (h2 : bel S (S 20 c) p = 1) : ∀ n : Nat, c < n → runN S p n = 1 := by
  intro n
  induction n with
  | zero => intro h; omega
  | succ n ih =>
    intro h
    unfold runN
    by_cases e : c = n
    · subst e
      rw [if_pos (Or.inr ⟨h1, h2⟩)]
    · rw [if_pos (Or.inl (ih (by omega)))]
theorem bel_top {S : gS} (hI : Inv S) {p : Int} (hp : 0 ≤ p) : ∀ (n : Nat) (a : Int), a < n → 0 ≤ a → a < S 6 0 → bel S a p = 1 → a = p ∨ ∃ w, 0 ≤ w ∧ w < S 6 0 ∧ S 7 w = p ∧ bel S a w = 1 := by
  intro n
  induction n with
  | zero => intro a h0 h1; omega
  | succ n ih =>
    intro a h0 h1 h2 h
    by_cases e : a = p
    · exact Or.inl e
    · right
      rw [bel_s hI.2.2.1 hI.2.1 hp h1 h2 e] at h
      by_cases ea : a = 0
      · rw [ea, hI.2.2.1.2.1, bel_m1 hp] at h; omega
      · have hb := hI.2.2.1.2.2 a (by omega) h2
        rcases ih (S 7 a) (by omega) hb.1 (by omega) h with q | ⟨w, w0, w1, w2, w3⟩
        · exact ⟨a, h1, h2, q, bel_eq S a⟩
        · by_cases ew : a = w
          · exact ⟨w, w0, w1, w2, by rw [ew]; exact bel_eq S w⟩
          · exact ⟨w, w0, w1, w2, by rw [bel_s hI.2.2.1 hI.2.1 w0 h1 h2 ew]; exact w3⟩
theorem run_isp {S : gS} (hI : Inv S) {w : Int} (hw : 0 ≤ w) (h : run1 S w = 1) : 1 ≤ shA S w 28 := by
  obtain ⟨c, h1, h2, h3⟩ := runN_ex S w _ h
  have hc := hI.2.1.2.2.1
  have hg := hI.2.1.2.1
  have h4 := (hI.2.2.2.2.1 c (by omega) (by omega)).2.1
  rcases bel_top hI hw (S 20 c + 1).toNat (S 20 c) (by omega) h4.1 h4.2 h3 with q | ⟨v, v0, v1, v2, v3⟩
  · exact shA_pos hI hw (p := (c : Int) + 8) (by omega) (by omega) (by
      unfold isp
      rw [if_pos (by omega), show (c : Int) + 8 - 8 = c by omega, if_pos ⟨by omega, h2, q⟩])
  · exact shA_pos hI hw (p := v) v0 (by omega) (by
      unfold isp
      rw [if_neg (by omega), if_pos ⟨v1, v2, runN_in S v h2 v3 _ h1⟩])
theorem run_root {S : gS} (hI : Inv S) (h : run1 S 0 = 0) {p w : Int} (hp : 0 ≤ p) (hw : 0 ≤ w) : isp S p w = 0 := by
  have no : ∀ c : Nat, (c : Int) < S 11 0 → S 19 c ≠ 0 := by
    intro c hc h0
    have h4 := (hI.2.2.2.2.1 c (by omega) hc).2.1
    have := runN_in S 0 h0 (bel_root hI.2.2.1 hI.2.1 (S 20 c + 1).toNat (S 20 c) (by omega) h4.1 h4.2) (S 11 0).toNat (by omega)
    unfold run1 at h
    omega
  unfold isp
  split
  · rw [if_neg (fun q => no (p - 8).toNat (by omega) (by rw [show (((p - 8).toNat : Nat) : Int) = p - 8 by omega]; exact q.2.1))]
  · refine if_neg (fun q => ?_)
    obtain ⟨c, h1, h2, -⟩ := runN_ex S p _ q.2.2
    exact no c (by omega) h2

/-! pure rows of 28 -/
def sch (S : gS) : Nat → gS
  | 0 => S
  | n + 1 => sox (sch S n) n
def gsc (S : gS) : Nat → Int
  | 0 => 0
  | n + 1 => gsc S n + gso (sch S n) n
/-- what the groups have got while the groups below n have shared -/
def gI (T : gS) (n : Int) : Prop := ∀ j, 0 ≤ j → j < 8 → (0 ≤ T 26 j ∧ T 26 j ≤ 10000) ∧ (1 ≤ j → n ≤ T 7 j → T 26 j = 0) ∧ (T 6 0 ≤ j → T 26 j = 0) ∧ (1 ≤ j → T 26 j ≠ 0 → run1 T j = 1)
theorem gI.tB {T : gS} {n : Int} (h : gI T n) : tB T := fun j h0 h1 => (h j h0 h1).1
theorem gI.s {T : gS} (hI : Inv T) {n : Nat} (h : gI T n) (hn : n < T 6 0) : gI (sox T n) ((n + 1 : Nat) : Int) := by
  have hg := hI.2.1.2.1
  have hE := sox_eq T n
  have e6 : sox T n 6 = T 6 := hE 6 (by decide) (by decide) (by decide)
  have e7 : sox T n 7 = T 7 := hE 7 (by decide) (by decide) (by decide)
  have h7 := hI.2.2.1.2.1
  have hu := (h n (by omega) (by omega)).1
  have hAll := amN_28 hI (g := n) (by omega) hu.1
  have hAb : amN T n 28 ≤ 10000 := by
    rw [hAll]; split <;> omega
  have er : ∀ j, run1 (sox T n) j = run1 T j := by
    intro j
    unfold run1
    rw [hE 11 (by decide) (by decide) (by decide)]
    exact runN_c e7 (hE 19 (by decide) (by decide) (by decide)) (hE 20 (by decide) (by decide) (by decide)) j _
  intro j h0 h1
  have hj := h j h0 h1
  have ha := amt_b hI (g := n) (p := j) (by omega) h0 (by omega) hu.1
  have hge := (amN_ge hI (w := n) (by omega) hu.1 h0 28 (by omega)).2 (by omega)
  rw [e6, e7, sox_26 T n h0 h1, er]
  by_cases q : isp T j n = 1
  · have q' := q
    unfold isp at q'
    rw [if_neg (by omega)] at q'
    split at q'
    · rename_i q2
      have hj1 : 1 ≤ j := by
        rcases (by omega : j = 0 ∨ 1 ≤ j) with e | e
        · rw [e, h7] at q2; omega
        · exact e
      have hz := hj.2.1 hj1 (by omega)
      refine ⟨by omega, fun _ _ => by omega, fun _ => by omega, fun _ _ => q2.2.2⟩
    · omega
  · have hz := ha.2 (by have := isp_01 T j n; omega)
    rw [hz, Int.add_zero]
    exact ⟨hj.1, fun a b => hj.2.1 a (by omega), hj.2.2.1, hj.2.2.2⟩
theorem sch_I {S : gS} (hI : Inv S) (h : gI S 0) : ∀ n : Nat, n ≤ S 6 0 → Inv (sch S n) ∧ gI (sch S n) n ∧ sEq S (sch S n) := by
  intro n
  induction n with
  | zero => intro _; exact ⟨hI, h, fun _ _ _ _ => rfl⟩
  | succ n ih =>
    intro hn
    have hg := hI.2.1.2.1
    obtain ⟨h1, h2, h3⟩ := ih (by omega)
    have e6 : sch S n 6 = S 6 := h3 6 (by decide) (by decide) (by decide)
    exact ⟨Inv_sEq h1 (sox_R h1 h2.tB (by omega) (by omega)) (sox_eq _ _), h2.s h1 (by rw [e6]; omega), h3.trans (sox_eq _ _)⟩
/-- what has been granted and not shared out yet -/
def pnd (T : gS) (n : Nat) : Nat → Int
  | 0 => 0
  | k + 1 => pnd T n k + if n ≤ k then T 26 k else 0
theorem pnd_s {T : gS} (hI : Inv T) {n : Nat} (hn : n < T 6 0) (hu : 0 ≤ T 26 n) : ∀ k : Nat, k ≤ 8 → pnd (sox T n) (n + 1) k = pnd T n k - (if n < k then T 26 n else 0) + amN T n k := by
  intro k
  induction k with
  | zero => intro _; unfold pnd amN; rw [if_neg (by omega)]; rfl
  | succ k ih =>
    intro hk
    have ha := amt_b hI (g := n) (p := k) (by omega) (by omega) (by omega) hu
    have hz : k ≤ n → amt T n k = 0 := by
      intro hkn
      refine ha.2 ?_
      unfold isp
      rw [if_neg (by omega)]
      refine if_neg (fun q => ?_)
      have h7 := hI.2.2.1.2
      rcases (by omega : (k : Int) = 0 ∨ 1 ≤ (k : Int)) with e | e
      · rw [e, h7.1] at q; omega
      · have := h7.2 k e q.1; omega
    unfold pnd amN
    rw [ih (by omega), sox_26 T n (by omega) (by omega)]
    by_cases e : n ≤ k
    · by_cases e2 : n = k
      · subst e2
        rw [if_neg (by omega), if_neg (by omega), if_pos (by omega), if_pos (by omega), hz (by omega)]; omega
      · rw [if_pos (by omega), if_pos (by omega), if_pos (by omega), if_pos (by omega)]; omega
    · rw [if_neg (by omega), if_neg (by omega), if_neg (by omega), if_neg (by omega), hz (by omega)]; omega
/-- nothing is lost: all units end up in containers -/
theorem gsc_p {S : gS} (hI : Inv S) (h : gI S 0) (h0 : run1 S 0 = 1) : ∀ n : Nat, n ≤ S 6 0 → gsc S n + pnd (sch S n) n 8 = pnd S 0 8 := by
  intro n
  induction n with
  | zero => intro _; show (0 : Int) + pnd S 0 8 = pnd S 0 8; omega
  | succ n ih =>
    intro hn
    have hg := hI.2.1.2.1
    obtain ⟨h1, h2, h3⟩ := sch_I hI h n (by omega)
    have e6 : sch S n 6 = S 6 := h3 6 (by decide) (by decide) (by decide)
    have hu := h2 n (by omega) (by omega)
    have e1 := pnd_s h1 (n := n) (by rw [e6]; omega) hu.1.1 8 (by omega)
    have e2 := gso_e (sch S n) n
    have e3 := amN_28 h1 (g := n) (by omega) hu.1.1
    have er : run1 (sch S n) 0 = 1 := by
      refine Eq.trans ?_ h0
      unfold run1
      rw [h3 11 (by decide) (by decide) (by decide)]
      exact runN_c (h3 7 (by decide) (by decide) (by decide)) (h3 19 (by decide) (by decide) (by decide)) (h3 20 (by decide) (by decide) (by decide)) 0 _
    have e4 : amN (sch S n) n 28 = sch S n 26 n := by
      rw [e3]
      split
      · rename_i q
        rcases (by omega : sch S n 26 n = 0 ∨ sch S n 26 n ≠ 0) with z | z
        · exact z.symm
        · have hr : run1 (sch S n) n = 1 := by
            rcases (by omega : (n : Int) = 0 ∨ 1 ≤ (n : Int)) with y | y
            · rw [y]; exact er
            · exact hu.2.2.2 y z
          have := run_isp h1 (w := n) (by omega) hr
          omega
      · rfl
    have h4 := ih (by omega)
    rw [if_pos (by omega)] at e1
    show gsc S n + gso (sch S n) n + pnd (sox (sch S n) n) (n + 1) 8 = _
    rw [e1, e2, e4]
    omega
theorem gsc_0 {S : gS} (hI : Inv S) (h : gI S 0) (h0 : run1 S 0 = 0) : ∀ n : Nat, n ≤ S 6 0 → gsc S n = 0 ∧ ∀ j, 0 ≤ j → j < 20 → sch S n 22 j = S 22 j := by
  intro n
  induction n with
  | zero => intro _; exact ⟨rfl, fun _ _ _ => rfl⟩
  | succ n ih =>
    intro hn
    have hg := hI.2.1.2.1
    obtain ⟨h1, h2, h3⟩ := sch_I hI h n (by omega)
    have hu := h2 n (by omega) (by omega)
    have er : run1 (sch S n) 0 = 0 := by
      refine Eq.trans ?_ h0
      unfold run1
      rw [h3 11 (by decide) (by decide) (by decide)]
      exact runN_c (h3 7 (by decide) (by decide) (by decide)) (h3 19 (by decide) (by decide) (by decide)) (h3 20 (by decide) (by decide) (by decide)) 0 _
    have hz : ∀ p : Int, 0 ≤ p → p < 28 → amt (sch S n) n p = 0 := fun p p0 p1 => (amt_b h1 (g := n) (by omega) p0 p1 hu.1.1).2 (run_root h1 er p0 (by omega))
    have hs : ∀ k : Nat, k ≤ 28 → amN (sch S n) n k = 0 := by
      intro k
      induction k with
      | zero => intro _; rfl
      | succ k ihk =>
        intro hk
        unfold amN
        rw [ihk (by omega), hz k (by omega) (by omega)]; rfl
    refine ⟨?_, fun j j0 j1 => ?_⟩
    · show gsc S n + gso (sch S n) n = 0
      rw [gso_e, hs 28 (by omega), hs 8 (by omega), (ih (by omega)).1]; rfl
    · show sox (sch S n) n 22 j = _
      rw [sox_22 _ _ j0 j1, hz (j + 8) (by omega) (by omega), (ih (by omega)).2 j j0 j1]; omega
def sg (S : gS) (u n : Int) : gS := fun k j => if k = 26 ∧ 0 ≤ j ∧ j < n then (if j = 0 then u else 0) else S k j
theorem sg_eq (S : gS) (u n : Int) : sEq S (sg S u n) := by
  intro k h1 h2 h3
  funext j; unfold sg; rw [if_neg (by omega)]
theorem sg_I {S : gS} (hI : Inv S) {u n : Int} (hu : R32 u) : Inv (sg S u n) := Inv_sEq hI (by
  intro k j hk
  unfold sg
  split
  · split
    · exact hu
    · unfold R32; omega
  · exact hI.1 k j hk) (sg_eq S u n)
theorem sg_g {S : gS} (hI : Inv S) {u : Int} (h1 : 1 ≤ u) (h2 : u ≤ 10000) : gI (sg S u 8) 0 := by
  have hg := hI.2.1.2.1
  intro j j0 j1
  have e : sg S u 8 26 j = if j = 0 then u else 0 := by unfold sg; rw [if_pos (by omega)]
  have e6 : sg S u 8 6 0 = S 6 0 := by rw [sg_eq S u 8 6 (by decide) (by decide) (by decide)]
  rw [e, e6]
  by_cases q : j = 0
  · rw [if_pos q]; refine ⟨by omega, fun _ => by omega, fun _ => by omega, fun _ => by omega⟩
  · rw [if_neg q]; refine ⟨by omega, fun _ _ => rfl, fun _ => rfl, fun _ z => absurd rfl z⟩
/-- what schedule answers: all units, or 0 where nothing runs -/
theorem gsc_v {S : gS} (hI : Inv S) {u : Int} (h1 : 1 ≤ u) (h2 : u ≤ 10000) : gsc (sg S u 8) (S 6 0).toNat = if run1 S 0 = 1 then u else 0 := by
  have hg := hI.2.1.2.1
  have hJ : Inv (sg S u 8) := sg_I hI (by unfold R32; omega)
  have hG := sg_g hI h1 h2
  have hE := sg_eq S u 8
  have e6 : sg S u 8 6 0 = S 6 0 := by rw [hE 6 (by decide) (by decide) (by decide)]
  have er : run1 (sg S u 8) 0 = run1 S 0 := by
    unfold run1
    rw [hE 11 (by decide) (by decide) (by decide)]
    exact runN_c (hE 7 (by decide) (by decide) (by decide)) (hE 19 (by decide) (by decide) (by decide)) (hE 20 (by decide) (by decide) (by decide)) 0 _
  split
  · rename_i q
    have h := gsc_p hJ hG (er.trans q) (S 6 0).toNat (by omega)
    obtain ⟨i1, i2, i3⟩ := sch_I hJ hG (S 6 0).toNat (by omega)
    have hp : ∀ k : Nat, k ≤ 8 → pnd (sch (sg S u 8) (S 6 0).toNat) (S 6 0).toNat k = 0 := by
      intro k
      induction k with
      | zero => intro _; rfl
      | succ k ih =>
        intro hk
        unfold pnd
        rw [ih (by omega)]
        split
        · have := (i2 k (by omega) (by omega)).2.2.1 (by rw [i3 6 (by decide) (by decide) (by decide), e6]; omega)
          rw [this]; rfl
        · rfl
    rw [hp 8 (by omega)] at h
    have h9 : pnd (sg S u 8) 0 8 = u := by
      have : ∀ k : Nat, k ≤ 8 → pnd (sg S u 8) 0 k = if k = 0 then 0 else u := by
        intro k
        induction k with
        | zero => intro _; rfl
        | succ k ih =>
          intro hk
          unfold pnd
          rw [ih (by omega), show sg S u 8 26 k = if (k : Int) = 0 then u else 0 from by unfold sg; rw [if_pos (by omega)]]
          (repeat' split) <;> omega
      exact this 8 (by omega)
    omega
  · rename_i q
    have := run1_01 S 0
    exact (gsc_0 hJ hG (by omega) (S 6 0).toNat (by omega)).1
def cd_schedule (S : gS) (u : Int) : Int := if 1 ≤ u ∧ u ≤ 10000 then 0 else 1
def vl_schedule (S : gS) (u : Int) : Int := gsc (sg S u 8) (S 6 0).toNat
def st_schedule (S : gS) (u : Int) : gS := sch (sg S u 8) (S 6 0).toNat
/-! pure rows of 29 -/
theorem wOI1 : Cond.instanceMethod Lib.objectInit ∈ lw_tbl := mt (i := 30) (by decide +kernel)
theorem wOI2 : Cond.code Lib.objectInit ⟨#[0xb1]⟩ 1 none ∈ lw_tbl := mt (i := 31) (by decide +kernel)
theorem wI : Cond.arrayClass FieldType.int ∈ lw_tbl := mt (i := 104) (by decide +kernel)
def S00 : gS := fun k j => if k = 6 ∧ j = 0 then 1 else 0
def S01 : gS := sset (sset (sset S00 7 0 (-1)) 8 0 10000) 9 0 100
def S0n (n : Int) : gS := fun k j => if k = 24 ∧ 0 ≤ j ∧ j < n then -1 else S01 k j
def S0 : gS := S0n 32
