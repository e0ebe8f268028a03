/-! sharing out processor time: what each part gets, and that nothing is lost -/
def runN (S : gS) (p : Int) : Nat → Int
  | 0 => 0
  | n + 1 => if runN S p n = 1 ∨ (S 19 n = 0 ∧ bel S (S 20 n) p = 1) then 1 else 0
def run1 (S : gS) (p : Int) : Int := runN S p (S 11 0).toNat
def isp (S : gS) (p g : Int) : Int := if 8 ≤ p then (if p - 8 < S 11 0 ∧ S 19 (p - 8) = 0 ∧ S 20 (p - 8) = g then 1 else 0) else (if p < S 6 0 ∧ S 7 p = g ∧ run1 S p = 1 then 1 else 0)
def shp (S : gS) (p : Int) : Int := if p < 8 then S 10 p else S 13 (p - 8)
def shA (S : gS) (g : Int) : Nat → Int
  | 0 => 0
  | n + 1 => shA S g n + if isp S n g = 1 then shp S n else 0
def its1 (S : gS) (g p : Int) : Int := S 26 g * shp S p / shA S g 28
def rem1 (S : gS) (g p : Int) : Int := S 26 g * shp S p % shA S g 28
def r0 (S : gS) (g : Int) : Int → Int := fun p => if isp S p g = 1 then rem1 S g p else -1
def si2 (S : gS) (g : Int) : Nat → Int
  | 0 => 0
  | n + 1 => si2 S g n + if isp S n g = 1 then its1 S g n else 0
def gi2 (S : gS) (g : Int) : Nat → Int
  | 0 => 0
  | n + 1 => gi2 S g n + if isp S n g = 1 ∧ 8 ≤ (n : Int) then its1 S g n else 0
def sr2 (S : gS) (g : Int) : Nat → Int
  | 0 => 0
  | n + 1 => sr2 S g n + if isp S n g = 1 then rem1 S g n else 0
def cn2 (S : gS) (g : Int) : Nat → Nat
  | 0 => 0
  | n + 1 => cn2 S g n + if isp S n g = 1 then 1 else 0
theorem runN_01 (S : gS) (p : Int) (n : Nat) : runN S p n = 0 ∨ runN S p n = 1 := by
  cases n with
  | zero => exact Or.inl rfl
  | succ n => unfold runN; split <;> omega
theorem run1_01 (S : gS) (p : Int) : run1 S p = 0 ∨ run1 S p = 1 := runN_01 S p _
theorem isp_01 (S : gS) (p g : Int) : isp S p g = 0 ∨ isp S p g = 1 := by unfold isp; (repeat' split) <;> omega
/-- a part's shares -/
theorem shp_b {S : gS} (hI : Inv S) {p g : Int} (h0 : 0 ≤ p) (hg : 0 ≤ g) (h : isp S p g = 1) : 1 ≤ shp S p ∧ shp S p ≤ 100 := by
  obtain ⟨hR, hi1, hi2, hi3, hi4, hi5, -⟩ := hI
  unfold isp at h
  unfold shp
  split at h
  · split at h
    · have := hi3 (p - 8) (Or.inl (by omega))
      rw [if_neg (by omega)]
      exact this.2.1
    · omega
  · split at h
    · rename_i q1 q2
      have h7 := hi2.2.1
      have : p ≠ 0 := fun e => by rw [e, h7] at q2; omega
      rw [if_pos (by omega)]
      exact hi5.2 p (by omega) (by omega)
    · omega
theorem shA_b {S : gS} (hI : Inv S) {g : Int} (hg : 0 ≤ g) : ∀ n : Nat, 0 ≤ shA S g n ∧ shA S g n ≤ 100 * n := by
  intro n
  induction n with
  | zero => unfold shA; omega
  | succ n ih =>
    unfold shA
    split
    · rename_i h
      have := shp_b hI (p := n) (by omega) hg h
      omega
    · omega
theorem shA_le {S : gS} (hI : Inv S) {g p : Int} (hg : 0 ≤ g) (h0 : 0 ≤ p) (h : isp S p g = 1) : ∀ n : Nat, p < n → shp S p ≤ shA S g n := by
  intro n
  induction n with
  | zero => intro q; omega
  | succ n ih =>
    intro q
    unfold shA
    by_cases e : p = n
    · subst e
      have := shA_b hI hg n
      rw [if_pos h]
      omega
    · have h1 := ih (by omega)
      split
      · rename_i h2
        have := shp_b hI (p := n) (by omega) hg h2
        omega
      · omega
theorem shA_pos {S : gS} (hI : Inv S) {g p : Int} (hg : 0 ≤ g) (h0 : 0 ≤ p) (hp : p < 28) (h : isp S p g = 1) : 1 ≤ shA S g 28 := by
  have h1 := shA_le hI hg h0 h 28 (by omega)
  have h2 := shp_b hI h0 hg h
  omega
theorem shA_0 {S : gS} (hI : Inv S) {g : Int} (hg : 0 ≤ g) (h : shA S g 28 = 0) {p : Int} (h0 : 0 ≤ p) (hp : p < 28) : isp S p g = 0 := by
  rcases isp_01 S p g with q | q
  · exact q
  · have := shA_pos hI hg h0 hp q
    omega
/-- a share is at most the whole -/
theorem its_b {S : gS} (hI : Inv S) {g p : Int} (hg : 0 ≤ g) (h0 : 0 ≤ p) (hp : p < 28) (h : isp S p g = 1) (hu : 0 ≤ S 26 g) : 0 ≤ its1 S g p ∧ its1 S g p ≤ S 26 g ∧ 0 ≤ rem1 S g p ∧ rem1 S g p < shA S g 28 ∧ shA S g 28 * its1 S g p + rem1 S g p = S 26 g * shp S p := by
  have ha := shA_pos hI hg h0 hp h
  have hl := shA_le hI hg h0 h 28 (by omega)
  have hs := shp_b hI h0 hg h
  unfold its1 rem1
  have hm : 0 ≤ S 26 g * shp S p := Int.mul_nonneg hu (by omega)
  refine ⟨Int.ediv_nonneg hm (by omega), ?_, Int.emod_nonneg _ (by omega), Int.emod_lt_of_pos _ (by omega), Int.mul_ediv_add_emod _ _⟩
  have h1 : S 26 g * shp S p ≤ S 26 g * shA S g 28 := Int.mul_le_mul_of_nonneg_left hl hu
  have h2 := Int.ediv_le_ediv (c := shA S g 28) (by omega) h1
  rwa [Int.mul_ediv_cancel _ (by omega)] at h2
theorem sums {S : gS} (hI : Inv S) {g : Int} (hg : 0 ≤ g) (hu : 0 ≤ S 26 g) : ∀ n : Nat, n ≤ 28 → shA S g 28 * si2 S g n + sr2 S g n = S 26 g * shA S g n ∧ 0 ≤ sr2 S g n ∧ sr2 S g n ≤ cn2 S g n * (shA S g 28 - 1) ∧ 0 ≤ si2 S g n := by
  intro n
  induction n with
  | zero => intro _; unfold si2 sr2 shA cn2; simp
  | succ n ih =>
    intro hn
    have h := ih (by omega)
    unfold si2 sr2 cn2
    have e : shA S g (n + 1) = shA S g n + (if isp S n g = 1 then shp S n else 0) := rfl
    rw [e]
    by_cases q : isp S n g = 1
    · have hb := its_b hI hg (p := n) (by omega) (by omega) q hu
      rw [if_pos q, if_pos q, if_pos q, if_pos q, Int.mul_add, Int.mul_add]
      generalize shA S g 28 * si2 S g n = X1 at h ⊢
      generalize shA S g 28 * its1 S g n = X2 at hb ⊢
      generalize S 26 g * shA S g n = X3 at h ⊢
      generalize S 26 g * shp S n = X4 at hb ⊢
      have ec : ((cn2 S g n + 1 : Nat) : Int) * (shA S g 28 - 1) = (cn2 S g n : Int) * (shA S g 28 - 1) + (shA S g 28 - 1) := by
        rw [Int.natCast_add, Int.add_mul]
        simp
      rw [ec]
      generalize (cn2 S g n : Int) * (shA S g 28 - 1) = X5 at h ⊢
      omega
    · rw [if_neg q, if_neg q, if_neg q, if_neg q]
      simpa using h
/-- how many units the rounding leaves -/
def lef (S : gS) (g : Int) : Int := if shA S g 28 = 0 then 0 else S 26 g - si2 S g 28
theorem lef_b {S : gS} (hI : Inv S) {g : Int} (hg : 0 ≤ g) (hu : 0 ≤ S 26 g) : 0 ≤ lef S g ∧ lef S g ≤ cn2 S g 28 := by
  unfold lef
  split
  · omega
  · rename_i ha
    have hb := shA_b hI hg 28
    have h := sums hI hg hu 28 (Nat.le_refl _)
    generalize hA : shA S g 28 = A at *
    have h1 : 0 < A := by omega
    have e : A * (S 26 g - si2 S g 28) = sr2 S g 28 := by
      rw [Int.mul_sub, Int.mul_comm A (S 26 g)]
      omega
    constructor
    · rcases (by omega : 0 ≤ S 26 g - si2 S g 28 ∨ S 26 g - si2 S g 28 < 0) with q | q
      · exact q
      · have := Int.mul_neg_of_pos_of_neg h1 q
        omega
    · rcases (by omega : S 26 g - si2 S g 28 ≤ cn2 S g 28 ∨ (cn2 S g 28 : Int) + 1 ≤ S 26 g - si2 S g 28) with q | q
      · exact q
      · have h3 := Int.mul_le_mul_of_nonneg_left q (by omega : 0 ≤ A)
        have h4 : A * ((cn2 S g 28 : Int) + 1) = A * cn2 S g 28 + A := by rw [Int.mul_add, Int.mul_one]
        have h5 : (cn2 S g 28 : Int) * (A - 1) = A * cn2 S g 28 - cn2 S g 28 := by rw [Int.mul_sub, Int.mul_one, Int.mul_comm]
        omega
/-- the part with the greatest remainder, the first of several -/
def bstN (r : Int → Int) : Nat → Int
  | 0 => 0
  | n + 1 => if r (bstN r n) < r ((n : Int) + 1) then (n : Int) + 1 else bstN r n
theorem bstN_b (r : Int → Int) : ∀ n : Nat, 0 ≤ bstN r n ∧ bstN r n ≤ n := by
  intro n
  induction n with
  | zero => unfold bstN; omega
  | succ n ih => unfold bstN; split <;> omega
theorem bstN_max (r : Int → Int) : ∀ n : Nat, ∀ p : Int, 0 ≤ p → p ≤ n → r p ≤ r (bstN r n) ∧ (p < bstN r n → r p < r (bstN r n)) := by
  intro n
  induction n with
  | zero =>
    intro p h0 h1
    have : p = 0 := by omega
    subst this
    exact ⟨Int.le_refl _, fun h => by unfold bstN at h; omega⟩
  | succ n ih =>
    intro p h0 h1
    have hb := bstN_b r n
    unfold bstN
    split
    · rename_i q
      by_cases e : p = (n : Int) + 1
      · subst e; exact ⟨Int.le_refl _, fun h => by omega⟩
      · have := ih p h0 (by omega)
        omega
    · rename_i q
      by_cases e : p = (n : Int) + 1
      · subst e; exact ⟨by omega, fun h => by omega⟩
      · exact ih p h0 (by omega)
def rN (r : Int → Int) : Nat → Int → Int
  | 0 => r
  | m + 1 => fset (rN r m) (bstN (rN r m) 27) (-1)
def pk (r : Int → Int) (m : Nat) : Int := bstN (rN r m) 27
def exN (r : Int → Int) : Nat → Int → Int
  | 0, _ => 0
  | m + 1, p => exN r m p + if p = pk r m then 1 else 0
def nnN (r : Int → Int) : Nat → Nat
  | 0 => 0
  | n + 1 => nnN r n + if 0 ≤ r n then 1 else 0
theorem nnN_pos (r : Int → Int) : ∀ n : Nat, 0 < nnN r n → ∃ p : Int, 0 ≤ p ∧ p < n ∧ 0 ≤ r p := by
  intro n
  induction n with
  | zero => intro h; exact absurd h (Nat.lt_irrefl 0)
  | succ n ih =>
    unfold nnN
    intro h
    by_cases q : 0 ≤ r n
    · exact ⟨n, by omega, by omega, q⟩
    · rw [if_neg q] at h
      obtain ⟨p, h1, h2, h3⟩ := ih h
      exact ⟨p, h1, by omega, h3⟩
theorem nnN_set {r : Int → Int} {b : Int} (h0 : 0 ≤ b) (hr : 0 ≤ r b) : ∀ n : Nat, nnN (fset r b (-1)) n + (if b < n then 1 else 0) = nnN r n := by
  intro n
  induction n with
  | zero => rw [if_neg (by omega)]; rfl
  | succ n ih =>
    unfold nnN
    by_cases e : b = n
    · subst e
      rw [if_neg (by omega)] at ih
      rw [show fset r (n : Int) (-1) n = -1 from if_pos rfl]
      (repeat' split) <;> omega
    · have e2 : fset r b (-1) n = r n := by unfold fset; rw [if_neg (by omega)]
      have e3 : (if b < (n : Int) then 1 else 0) = (if b < ((n + 1 : Nat) : Int) then (1 : Nat) else 0) := by
        by_cases q : b < (n : Int)
        · rw [if_pos q, if_pos (by omega)]
        · rw [if_neg q, if_neg (by omega)]
      rw [e3] at ih
      rw [e2]
      omega
/-- while remainders are left, a pick has one -/
theorem pk_ok {r : Int → Int} {c : Nat} (hc : nnN r 28 = c) : ∀ m : Nat, m ≤ c → nnN (rN r m) 28 = c - m ∧ (m < c → 0 ≤ rN r m (pk r m)) := by
  have key : ∀ m : Nat, nnN (rN r m) 28 = c - m → m < c → 0 ≤ rN r m (pk r m) := by
    intro m h hm
    obtain ⟨p, h1, h2, h3⟩ := nnN_pos (rN r m) 28 (by omega)
    have := (bstN_max (rN r m) 27 p h1 (by omega)).1
    unfold pk
    omega
  intro m
  induction m with
  | zero => intro _; exact ⟨by show nnN r 28 = c - 0; omega, fun h => key 0 (by show nnN r 28 = c - 0; omega) h⟩
  | succ m ih =>
    intro hm
    have h := ih (by omega)
    have hb := bstN_b (rN r m) 27
    have hs := nnN_set (r := rN r m) (b := bstN (rN r m) 27) hb.1 (h.2 (by omega)) 28
    rw [if_pos (by omega)] at hs
    have e : nnN (rN r (m + 1)) 28 = c - (m + 1) := by
      show nnN (fset (rN r m) (bstN (rN r m) 27) (-1)) 28 = c - (m + 1)
      omega
    exact ⟨e, fun h9 => key (m + 1) e h9⟩
theorem rN_le (r : Int → Int) : ∀ (m : Nat) (p : Int), rN r m p = r p ∨ rN r m p = -1 := by
  intro m
  induction m with
  | zero => intro p; exact Or.inl rfl
  | succ m ih =>
    intro p
    show fset (rN r m) _ (-1) p = r p ∨ fset (rN r m) _ (-1) p = -1
    unfold fset
    split
    · exact Or.inr rfl
    · exact ih p
theorem nnN_r0 {S : gS} (hI : Inv S) {g : Int} (hg : 0 ≤ g) (hu : 0 ≤ S 26 g) : ∀ n : Nat, n ≤ 28 → nnN (r0 S g) n = cn2 S g n := by
  intro n
  induction n with
  | zero => intro _; rfl
  | succ n ih =>
    intro hn
    unfold nnN cn2
    rw [ih (by omega)]
    congr 1
    unfold r0
    by_cases q : isp S n g = 1
    · have := its_b hI hg (p := n) (by omega) (by omega) q hu
      rw [if_pos q, if_pos q, if_pos (by omega)]
    · rw [if_neg q, if_neg q, if_neg (by omega)]
/-- every pick is a part -/
theorem pk_isp {S : gS} (hI : Inv S) {g : Int} (hg : 0 ≤ g) (hu : 0 ≤ S 26 g) {m : Nat} (hm : m < cn2 S g 28) : isp S (pk (r0 S g) m) g = 1 := by
  have h := (pk_ok (nnN_r0 hI hg hu 28 (Nat.le_refl _)) m (by omega)).2 hm
  rcases rN_le (r0 S g) m (pk (r0 S g) m) with q | q
  · rw [q] at h
    unfold r0 at h
    split at h
    · assumption
    · omega
  · omega
theorem exN_b {S : gS} (hI : Inv S) {g : Int} (hg : 0 ≤ g) (hu : 0 ≤ S 26 g) : ∀ (m : Nat) (p : Int), m ≤ cn2 S g 28 → 0 ≤ exN (r0 S g) m p ∧ exN (r0 S g) m p ≤ m ∧ (isp S p g = 0 → exN (r0 S g) m p = 0) := by
  intro m
  induction m with
  | zero => intro p _; unfold exN; omega
  | succ m ih =>
    intro p hm
    have h := ih p (by omega)
    unfold exN
    split
    · rename_i q
      have := pk_isp hI hg hu (m := m) (by omega)
      rw [← q] at this
      omega
    · omega
/-- what part p gets of the units of group g -/
def amt (S : gS) (g p : Int) : Int := (if isp S p g = 1 then its1 S g p else 0) + exN (r0 S g) (lef S g).toNat p
def amN (S : gS) (g : Int) : Nat → Int
  | 0 => 0
  | n + 1 => amN S g n + amt S g n
theorem exN_sum (r : Int → Int) (m : Nat) : ∀ n : Nat, ∀ s : Nat → Int, (∀ k, s (k + 1) = s k + exN r m k) → s 0 = 0 → 28 ≤ n → n = 28 → s n = m := by
  induction m with
  | zero =>
    intro n s hs h0 _ hn
    have : ∀ k : Nat, s k = 0 := by
      intro k
      induction k with
      | zero => exact h0
      | succ k ih => rw [hs, ih]; rfl
    rw [this]; rfl
  | succ m ih =>
    intro n s hs h0 h28 hn
    subst hn
    have hb := bstN_b (rN r m) 27
    -- the same sum without the last pick
    have : ∀ k : Nat, k ≤ 28 → ∃ q : Nat → Int, (∀ j, q (j + 1) = q j + exN r m j) ∧ q 0 = 0 ∧ s k = q k + (if pk r m < k then 1 else 0) := by
      intro k
      induction k with
      | zero =>
        intro _
        refine ⟨fun j => Nat.rec 0 (fun i x => x + exN r m i) j, fun j => rfl, rfl, ?_⟩
        rw [h0, if_neg (by unfold pk; omega)]
        rfl
      | succ k ihk =>
        intro hk
        obtain ⟨q, h1, h2, h3⟩ := ihk (by omega)
        refine ⟨q, h1, h2, ?_⟩
        rw [hs, h3, h1, show exN r (m + 1) k = exN r m k + (if (k : Int) = pk r m then 1 else 0) from rfl]
        by_cases e : (k : Int) = pk r m
        · rw [← e, if_pos rfl, if_neg (by omega), if_pos (by omega)]
          omega
        · rw [if_neg e]
          by_cases e2 : pk r m < k
          · rw [if_pos e2, if_pos (by omega)]; omega
          · rw [if_neg e2, if_neg (by omega)]; omega
    obtain ⟨q, h1, h2, h3⟩ := this 28 (Nat.le_refl _)
    rw [h3, ih 28 q h1 h2 (Nat.le_refl _) rfl, if_pos (by unfold pk; omega)]
    omega
theorem amN_28 {S : gS} (hI : Inv S) {g : Int} (hg : 0 ≤ g) (hu : 0 ≤ S 26 g) : amN S g 28 = if shA S g 28 = 0 then 0 else S 26 g := by
  have hsum : ∀ n : Nat, amN S g n = si2 S g n + (Nat.rec 0 (fun i x => x + exN (r0 S g) (lef S g).toNat i) n : Int) := by
    intro n
    induction n with
    | zero => rfl
    | succ n ih =>
      show amN S g n + ((if isp S n g = 1 then its1 S g n else 0) + exN (r0 S g) (lef S g).toNat n) = si2 S g n + (if isp S n g = 1 then its1 S g n else 0) + (Nat.rec 0 (fun i x => x + exN (r0 S g) (lef S g).toNat i) n + exN (r0 S g) (lef S g).toNat n : Int)
      rw [ih]
      omega
  have hex := exN_sum (r0 S g) (lef S g).toNat 28 (fun n => (Nat.rec 0 (fun i x => x + exN (r0 S g) (lef S g).toNat i) n : Int)) (fun k => rfl) rfl (Nat.le_refl _) rfl
  have hl := lef_b hI hg hu
  have h1 := hsum 28
  have h2 : amN S g 28 = si2 S g 28 + ((lef S g).toNat : Int) := by
    rw [h1]
    exact congrArg (fun z => si2 S g 28 + z) hex
  rw [h2]
  by_cases ha : shA S g 28 = 0
  · rw [if_pos ha]
    have hz : ∀ n : Nat, n ≤ 28 → si2 S g n = 0 := by
      intro n
      induction n with
      | zero => intro _; rfl
      | succ n ih =>
        intro hn
        unfold si2
        rw [ih (by omega), if_neg (by have := shA_0 hI hg ha (p := n) (by omega) (by omega); omega)]
        rfl
    rw [hz 28 (Nat.le_refl _)]
    unfold lef at hl ⊢
    rw [if_pos ha]
    rfl
  · rw [if_neg ha]
    have : lef S g = S 26 g - si2 S g 28 := if_neg ha
    omega
theorem amt_b {S : gS} (hI : Inv S) {g p : Int} (hg : 0 ≤ g) (h0 : 0 ≤ p) (hp : p < 28) (hu : 0 ≤ S 26 g) : 0 ≤ amt S g p ∧ (isp S p g = 0 → amt S g p = 0) := by
  have hl := lef_b hI hg hu
  have he := exN_b hI hg hu (lef S g).toNat p (by omega)
  unfold amt
  split
  · rename_i q
    have := its_b hI hg h0 hp q hu
    omega
  · omega
