theorem isp_self {S : gS} (hI : Inv S) {g : Int} (h0 : 0 ≤ g) (h8 : g < 8) : isp S g g = 0 := by
  have h2 := hI.2.2.1
  unfold isp
  rw [if_neg (by omega)]
  split
  · rename_i q
    rcases (by omega : g = 0 ∨ 1 ≤ g) with e | e
    · subst e; have := h2.2.1; omega
    · have := h2.2.2 g e q.1; omega
  · rfl
theorem runN_c {S T : gS} (h7 : T 7 = S 7) (h19 : T 19 = S 19) (h20 : T 20 = S 20) (p : Int) : ∀ n : Nat, runN T p n = runN S p n := by
  intro n
  induction n with
  | zero => rfl
  | succ n ih => unfold runN; rw [ih, bel_congr h7, h19, h20]
theorem isp_c {S T : gS} (h6 : T 6 = S 6) (h7 : T 7 = S 7) (h11 : T 11 = S 11) (h19 : T 19 = S 19) (h20 : T 20 = S 20) (p g : Int) : isp T p g = isp S p g := by
  unfold isp run1
  rw [runN_c h7 h19 h20, h6, h7, h11, h19, h20]
theorem shp_c {S T : gS} (h10 : T 10 = S 10) (h13 : T 13 = S 13) (p : Int) : shp T p = shp S p := by
  unfold shp; rw [h10, h13]
/-- rows that scheduling leaves -/
def sEq (S T : gS) : Prop := ∀ k, k ≠ 22 → k ≠ 26 → k ≠ 27 → T k = S k
theorem Inv_sEq {S T : gS} (hI : Inv S) (hR : hRp T) (h : sEq S T) : Inv T := by
  obtain ⟨-, hi1, hi2, hi3, hi4, hi5, hi6, hi7⟩ := hI
  have r : ∀ k, k < 22 → T k = S k := fun k hk => h k (by omega) (by omega) (by omega)
  refine ⟨hR, hi1.c (r 3 (by decide)) (r 6 (by decide)) (r 11 (by decide)) (h 23 (by decide) (by decide) (by decide)), hi2.c (r 3 (by decide)) (r 4 (by decide)) (r 6 (by decide)) (r 7 (by decide)), ?_, ?_, hi5.c (r 6 (by decide)) (r 8 (by decide)) (r 9 (by decide)) (r 10 (by decide)), ?_, ?_⟩
  · intro k hk
    rw [isCK.c (r 11 (by decide)) (h 23 (by decide) (by decide) (by decide))] at hk
    rw [r 3 (by decide), r 12 (by decide), r 13 (by decide), r 14 (by decide), r 15 (by decide), r 16 (by decide), r 17 (by decide), r 18 (by decide)]
    exact hi3 k hk
  · intro k h0 h1
    rw [r 11 (by decide)] at h1
    rw [r 6 (by decide), r 14 (by decide), r 15 (by decide), r 18 (by decide), r 19 (by decide), r 20 (by decide), r 21 (by decide)]
    exact hi4 k h0 h1
  · unfold Inv6
    rw [r 1 (by decide), r 2 (by decide), r 5 (by decide), r 11 (by decide), h 24 (by decide) (by decide) (by decide)]
    exact hi6
  · unfold Inv7
    rw [r 3 (by decide), r 4 (by decide), r 5 (by decide), r 8 (by decide), r 9 (by decide), r 12 (by decide), memI_eq (r 7 (by decide)) (r 11 (by decide)) (r 14 (by decide)) (r 20 (by decide)), prcI_eq (r 7 (by decide)) (r 11 (by decide)) (r 15 (by decide)) (r 20 (by decide))]
    refine ⟨fun k h0 h1 => ?_, fun k hk => ?_, hi7.2.2⟩
    · rw [lay_congr (r 4 (by decide))]; exact hi7.1 k h0 h1
    · rw [isCK.c (r 11 (by decide)) (h 23 (by decide) (by decide) (by decide))] at hk
      exact hi7.2.1 k hk
theorem sEq.isp {S T : gS} (h : sEq S T) (p g : Int) : isp T p g = isp S p g := isp_c (h 6 (by decide) (by decide) (by decide)) (h 7 (by decide) (by decide) (by decide)) (h 11 (by decide) (by decide) (by decide)) (h 19 (by decide) (by decide) (by decide)) (h 20 (by decide) (by decide) (by decide)) p g
theorem sEq.shp {S T : gS} (h : sEq S T) (p : Int) : shp T p = shp S p := shp_c (h 10 (by decide) (by decide) (by decide)) (h 13 (by decide) (by decide) (by decide)) p
theorem sEq.set {S T : gS} (h : sEq S T) {k : Nat} (hk : k = 22 ∨ k = 26 ∨ k = 27) (i v : Int) : sEq S (sset T k i v) := fun a h1 h2 h3 => by rw [sset_n T i v (by omega)]; exact h a h1 h2 h3
def giv (T : gS) (p u : Int) : gS := if p < 8 then sset T 26 p (T 26 p + u) else sset T 22 (p - 8) (T 22 (p - 8) + u)
def s2 (S : gS) (g n : Int) : gS := fun k j => if k = 26 ∧ 0 ≤ j ∧ j < 8 ∧ j < n ∧ isp S j g = 1 then S 26 j + its1 S g j else if k = 22 ∧ 0 ≤ j ∧ j + 8 < n ∧ isp S (j + 8) g = 1 then S 22 j + its1 S g (j + 8) else if k = 27 ∧ 0 ≤ j ∧ j < n then r0 S g j else S k j
theorem s2_0 (S : gS) (g : Int) : s2 S g 0 = S := by
  funext k j; unfold s2; (repeat' split) <;> first | rfl | omega
theorem s2_b (S : gS) {g n : Int} (hn : 0 ≤ n) (h : ¬ isp S n g = 1) : sset (s2 S g n) 27 n (-1) = s2 S g (n + 1) := by
  funext k j; unfold sset s2
  by_cases e : j = n
  · subst e
    (repeat' split) <;> first | rfl | omega | (unfold r0; rw [if_neg h])
  · by_cases e2 : j + 8 = n
    · subst e2
      (repeat' split) <;> first | rfl | omega
    · (repeat' split) <;> first | rfl | omega
theorem s2_a (S : gS) {g n : Int} (hn : 0 ≤ n) (h : isp S n g = 1) : giv (sset (sset (s2 S g n) 27 n (-1)) 27 n (rem1 S g n)) n (its1 S g n) = s2 S g (n + 1) := by
  have e0 : s2 S g n 26 n = S 26 n := by unfold s2; (repeat' split) <;> first | rfl | omega
  have e1 : s2 S g n 22 (n - 8) = S 22 (n - 8) := by unfold s2; (repeat' split) <;> first | rfl | omega
  have er : r0 S g n = rem1 S g n := by unfold r0; rw [if_pos h]
  unfold giv
  split
  · rw [sset_n _ _ _ (by decide), sset_n _ _ _ (by decide), e0]
    funext k j; unfold sset s2
    by_cases e : j = n
    · subst e
      (repeat' split) <;> first | rfl | omega | exact er.symm
    · by_cases e2 : j + 8 = n
      · subst e2
        (repeat' split) <;> first | rfl | omega
      · (repeat' split) <;> first | rfl | omega
  · rw [sset_n _ _ _ (by decide), sset_n _ _ _ (by decide), e1]
    funext k j; unfold sset s2
    by_cases e : j = n
    · subst e
      (repeat' split) <;> first | rfl | omega | exact er.symm
    · by_cases e2 : j + 8 = n
      · subst e2
        rw [show j + 8 - 8 = j by omega]
        (repeat' split) <;> first | rfl | omega
      · (repeat' split) <;> first | rfl | omega
theorem s2_eq (S : gS) (g n : Int) : sEq S (s2 S g n) := by
  intro k h1 h2 h3
  funext j; unfold s2
  (repeat' split) <;> first | rfl | omega
def s4 (B : gS) (m : Nat) : gS := fun k j => if k = 26 ∧ 0 ≤ j ∧ j < 8 then B 26 j + exN (B 27) m j else if k = 22 ∧ 0 ≤ j ∧ j < 20 then B 22 j + exN (B 27) m (j + 8) else if k = 27 then rN (B 27) m j else B k j
theorem s4_0 (B : gS) : s4 B 0 = B := by
  funext k j; unfold s4 exN
  (repeat' split) <;> first | rfl | omega | (rename_i q; rw [q.1]; omega) | (rename_i q; rw [q]; rfl)
theorem s4_27 (B : gS) (m : Nat) : s4 B m 27 = rN (B 27) m := by
  funext j; unfold s4; rw [if_neg (by omega), if_neg (by omega), if_pos rfl]
theorem s4_s (B : gS) (m : Nat) : giv (sset (s4 B m) 27 (pk (B 27) m) (-1)) (pk (B 27) m) 1 = s4 B (m + 1) := by
  have hb := bstN_b (rN (B 27) m) 27
  have hr : rN (B 27) (m + 1) = fset (rN (B 27) m) (pk (B 27) m) (-1) := rfl
  have he : ∀ p, exN (B 27) (m + 1) p = exN (B 27) m p + (if p = pk (B 27) m then 1 else 0) := fun p => rfl
  have hb2 : 0 ≤ pk (B 27) m ∧ pk (B 27) m ≤ 27 := hb
  generalize pk (B 27) m = b at *
  have e0 : 0 ≤ b → b < 8 → s4 B m 26 b = B 26 b + exN (B 27) m b := fun h1 h2 => by unfold s4; rw [if_pos ⟨rfl, h1, h2⟩]
  have e1 : 8 ≤ b → s4 B m 22 (b - 8) = B 22 (b - 8) + exN (B 27) m b := fun h1 => by unfold s4; rw [if_neg (by omega), if_pos ⟨rfl, by omega, by omega⟩, show b - 8 + 8 = b by omega]
  unfold giv
  split
  · rename_i q
    rw [sset_n _ _ _ (by decide), e0 hb2.1 q]
    funext k j; unfold sset s4
    rw [hr, he, he]
    unfold fset
    by_cases e : j = b
    · subst e
      (repeat' split) <;> first | rfl | omega
    · by_cases e2 : j + 8 = b
      · subst e2
        (repeat' split) <;> first | rfl | omega
      · (repeat' split) <;> first | rfl | omega
  · rename_i q
    rw [sset_n _ _ _ (by decide), e1 (by omega)]
    funext k j; unfold sset s4
    rw [hr, he, he]
    unfold fset
    by_cases e : j = b
    · subst e
      (repeat' split) <;> first | rfl | omega
    · by_cases e2 : j + 8 = b
      · subst e2
        rw [show j + 8 - 8 = j by omega]
        (repeat' split) <;> first | rfl | omega
      · (repeat' split) <;> first | rfl | omega
theorem s4_eq (B : gS) (m : Nat) : sEq B (s4 B m) := by
  intro k h1 h2 h3
  funext j; unfold s4
  (repeat' split) <;> first | rfl | omega
