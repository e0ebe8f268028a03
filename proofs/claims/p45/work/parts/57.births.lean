/-! what is read of the grid by what lives; births -/
def dep0 (S : gS) (a : Nat) (j : Int) : Prop := match a with
  | 1 => S 57 (j / 32) = 1
  | 2 => S 56 j = 1
  | 3 => True
  | 4 => j < 10 ∧ S 56 j = 1
  | 5 => S 52 j = 1
  | 6 => True
  | 7 => S 53 j = 1
  | 8 => S 53 j = 1
  | 9 => S 53 j = 1
  | 10 => S 53 j = 1
  | 11 => True
  | 12 => S 56 (j + 10) = 1
  | 13 => S 54 j = 1 ∨ S 55 (j - 20) = 1
  | 14 => S 54 j = 1 ∨ S 55 (j - 20) = 1
  | 15 => S 54 j = 1 ∨ S 55 (j - 20) = 1
  | 16 => S 54 j = 1 ∨ S 55 (j - 20) = 1
  | 17 => S 54 j = 1 ∨ S 55 (j - 20) = 1
  | 18 => S 54 j = 1 ∨ S 55 (j - 20) = 1
  | 19 => S 54 j = 1
  | 20 => S 54 j = 1
  | 22 => S 54 j = 1
  | 23 => True
  | 24 => True
  | 30 => S 53 j = 1
  | 31 => S 53 j = 1
  | 32 => S 53 j = 1
  | 33 => S 54 j = 1
  | 34 => S 54 j = 1
  | 35 => True
  | 36 => S 56 j = 1
  | 41 => True
  | 42 => True
  | 43 => True
  | 44 => True
  | _ => False
def dep (S : gS) (a : Nat) (j : Int) : Prop := 50 ≤ a ∨ dep0 S a j
theorem dep0_lt {S : gS} {a : Nat} {j : Int} (h : dep0 S a j) : a < 50 := by
  apply Nat.lt_of_not_le
  intro h50
  unfold dep0 at h
  split at h <;> omega
section BI
variable {g : xG} {K : hp} {ad : cA} {S S' : gS} {h : hp}
theorem cel_dep (hd : ∀ a j, dep0 S a j → S' a j = S a j) {k : Nat} {i : Int} (hk : k ≤ 10) (hl : S (50 + k) i = 1) : cel g ad S' k i = cel g ad S k i := by
  have ec : ∀ n, cnt S' n = cnt S n := fun n => by
    unfold cnt
    rw [hd 3 0 trivial, hd 6 0 trivial, hd 11 0 trivial, hd 23 0 trivial, hd 43 0 trivial]
  rcases k11 hk with rfl | rfl | rfl | rfl | rfl | rfl | rfl | rfl | rfl | rfl | rfl
  · rfl
  · simp only [cel, fl1, hd 42 i trivial, ec]
  · simp only [cel, fl2, hd 5 i hl]
  · simp only [cel, fl3, hd 10 i hl, hd 7 i hl, hd 8 i hl, hd 9 i hl, hd 30 i hl, hd 31 i hl, hd 32 i hl]
  · simp only [cel, fl4, hd 13 i (Or.inl hl), hd 20 i hl, hd 19 i hl, hd 14 i (Or.inl hl), hd 15 i (Or.inl hl), hd 22 i hl, hd 16 i (Or.inl hl), hd 17 i (Or.inl hl), hd 18 i (Or.inl hl), hd 33 i hl, hd 34 i hl]
  · have hl' : S 55 (20 + i - 20) = 1 := by rw [show 20 + i - 20 = i by omega]; exact hl
    simp only [cel, fl5, hd 13 (20 + i) (Or.inr hl'), hd 14 (20 + i) (Or.inr hl'), hd 15 (20 + i) (Or.inr hl'), hd 16 (20 + i) (Or.inr hl'), hd 17 (20 + i) (Or.inr hl'), hd 18 (20 + i) (Or.inr hl')]
  · have eb : blw S' i = blw S i := by
      unfold blw
      by_cases q : i < 10
      · rw [if_pos q, if_pos q, hd 4 i ⟨q, hl⟩]
      · have hl2 : S 56 (i - 10 + 10) = 1 := by rw [show i - 10 + 10 = i by omega]; exact hl
        rw [if_neg q, if_neg q, hd 12 (i - 10) hl2]
    simp only [cel, fl6, hd 36 i hl, hd 2 i hl, eb]
  · have e : flF S' i = flF S i := by
      funext f
      unfold flF
      split
      · rename_i q
        have hl' : S 57 ((32 * i + f) / 32) = 1 := by rw [show (32 * i + f) / 32 = i by omega]; exact hl
        exact hd 1 (32 * i + f) hl'
      · rfl
    simp only [cel, e]
  · have e : elF S' ad i = elF S ad i := by
      funext j
      unfold elF elK elI
      rw [ec, hd 44 j trivial]
    simp only [cel, e, hd 41 i trivial]
  · have e : pbF S' ad = pbF S ad := by
      funext j
      unfold pbF
      rw [hd 24 j trivial]
    simp only [cel, e]
  · have e : S' 35 = S 35 := funext (fun j => hd 35 j trivial)
    simp only [cel, e]
theorem cls.gst (hc : cls g K ad S h) (hd : ∀ a j, dep S a j → S' a j = S a j) : cls g K ad S' h := by
  have D5 : ∀ k j, S' (50 + k) j = S (50 + k) j := fun k j => hd _ _ (Or.inl (by omega))
  have ec : ∀ n, cnt S' n = cnt S n := fun n => by
    unfold cnt
    rw [hd 3 0 (Or.inr trivial), hd 6 0 (Or.inr trivial), hd 11 0 (Or.inr trivial), hd 23 0 (Or.inr trivial), hd 43 0 (Or.inr trivial)]
  refine ⟨fun k' i' hk' hl' => ?_, fun k1 i1 k2 i2 h1 h2 l1 l2 => hc.2.1 k1 i1 k2 i2 h1 h2 (by rw [← D5]; exact l1) (by rw [← D5]; exact l2), hc.2.2.1, fun n hn => ?_, hc.2.2.2.2⟩
  · rw [D5] at hl'
    have q := hc.1 k' i' hk' hl'
    exact ⟨by rw [q.1, cel_dep (fun a j z => hd a j (Or.inr z)) hk' hl'], q.2⟩
  · have e51 : S' 51 n = S 51 n := D5 1 n
    have e58 : S' 58 n = S 58 n := D5 8 n
    rw [e51] at hn
    rw [hd 41 n (Or.inr trivial), e58, ec]
    exact hc.2.2.2.1 n hn
theorem cls.gs1 (hc : cls g K ad S h) {r : Nat} {i : Int} (v : Int) (hn : ¬ dep S r i) : cls g K ad (sset S r i v) h := hc.gst (fun a j hd => by
  unfold sset
  rw [if_neg (fun z => hn (by rw [← z.1, ← z.2]; exact hd))])
/-- references of what lives lead to what lives -/
def Wf (S : gS) : Prop := (∀ i, S 52 i = 1 → S 56 i = 1) ∧ (∀ c, S 54 c = 1 → S 56 (10 + c) = 1 ∧ S 53 (S 20 c) = 1) ∧ (∀ k, S 55 k = 1 → S 56 (30 + k) = 1) ∧ (∀ l, S 56 l = 1 → S 57 l = 1 ∧ (blw S l = -1 ∨ S 56 (blw S l) = 1)) ∧ (∀ p, S 53 p = 1 → S 7 p = -1 ∨ S 53 (S 7 p) = 1) ∧ (∀ n j, S 51 n = 1 → 0 ≤ j → j < cnt S n → S (50 + elK S n j) (elI S n j) = 1) ∧ ∀ j, 0 ≤ j → j < 32 → S 24 j = -1 ∨ S 54 (S 24 j) = 1
theorem rfo_cup (ad : cA) {k a : Nat} {i j : Int} (q : Nat) (hn : j = -1 ∨ ¬ (a = k ∧ j = i)) : rfo (cup ad k i q) a j = rfo ad a j := by
  unfold rfo
  by_cases z : j = -1
  · rw [if_pos z, if_pos z]
  · rw [if_neg z, if_neg z, cup_n _ _ (hn.resolve_left z)]
theorem elK_b (S : gS) (n j : Int) : 2 ≤ elK S n j ∧ elK S n j ≤ 5 := by
  unfold elK
  (repeat' split) <;> omega
theorem cel_cup (hW : Wf S) {k : Nat} {i : Int} {q : Nat} (h2 : 2 ≤ k) (h7 : k ≤ 7) (hd : S (50 + k) i ≠ 1) {k' : Nat} {i' : Int} (hk : k' ≤ 10) (hl : S (50 + k') i' = 1) (hn51 : k' = 8 → S 51 i' = 1) : cel g (cup ad k i q) S k' i' = cel g ad S k' i' := by
  have N : ∀ a j, S (50 + a) j = 1 → ¬ (a = k ∧ j = i) := fun a j hj z => hd (by rw [← z.1, ← z.2]; exact hj)
  have C : ∀ a j, S (50 + a) j = 1 → cup ad k i q a j = ad a j := fun a j hj => cup_n _ _ (N a j hj)
  have C2 : ∀ a j, (Nat.ble a 1 || Nat.ble 8 a) = true → cup ad k i q a j = ad a j := fun a j ha => cup_n _ _ (fun z => by
    simp only [Bool.or_eq_true] at ha
    rcases ha with e | e
    · have := Nat.le_of_ble_eq_true e; omega
    · have := Nat.le_of_ble_eq_true e; omega)
  rcases k11 hk with rfl | rfl | rfl | rfl | rfl | rfl | rfl | rfl | rfl | rfl | rfl
  · simp only [cel, fl0, C2 1 _ rfl, C2 9 _ rfl, C2 10 _ rfl]
  · simp only [cel, fl1, C2 8 _ rfl]
  · simp only [cel, fl2, C 6 _ (hW.1 i' hl)]
  · have e := hW.2.2.2.2.1 i' hl
    simp only [cel, fl3, rfo_cup ad q (e.imp_right (fun z => N 3 _ z))]
  · have e := hW.2.1 i' hl
    simp only [cel, fl4, C 6 _ e.1, C 3 _ e.2]
  · simp only [cel, fl5, C 6 _ (hW.2.2.1 i' hl)]
  · have e := hW.2.2.2.1 i' hl
    simp only [cel, fl6, C 7 _ e.1, rfo_cup ad q (e.2.imp_right (fun z => N 6 _ z))]
  · rfl
  · have e : elF S (cup ad k i q) i' = elF S ad i' := by
      funext j
      unfold elF
      split
      · rename_i z
        rw [C _ _ (hW.2.2.2.2.2.1 i' j (hn51 rfl) (by omega) z)]
      · rfl
    simp only [cel, e]
  · have e : pbF S (cup ad k i q) = pbF S ad := by
      funext j
      unfold pbF
      split
      · rename_i z
        rw [C 4 _ ((hW.2.2.2.2.2.2 j (by omega) z.1).resolve_left z.2)]
      · rfl
    simp only [cel, e]
  · rfl
theorem cel_50 {k : Nat} (i : Int) {k' : Nat} {i' : Int} (hk : k' ≤ 10) (hl : S (50 + k') i' = 1) : cel g ad (sset S (50 + k) i 1) k' i' = cel g ad S k' i' :=
  cel_dep (fun a j hd => by rw [sset_n _ _ _ (by have := dep0_lt hd; omega)]) hk hl
theorem cls.brn {k : Nat} {i : Int} {q : Nat} {e : va_E} (hc : cls g K ad S h) (hq : h q = none) (h2 : 2 ≤ k) (h7 : k ≤ 7) (hd : S (50 + k) i ≠ 1) (hi0 : 0 ≤ i) (hi1 : i < bnd k) (hW : Wf S) (h58 : ∀ n, S 58 n = 1 → S 51 n = 1) (he : cel g (cup ad k i q) (sset S (50 + k) i 1) k i = e) : cls g K (cup ad k i q) (sset S (50 + k) i 1) (hset h q e) := by
  refine hc.born hq (by omega) (by omega) hd hi0 hi1 (fun k' i' hk' hl' => ?_) (fun n hn => ?_) he (fun k' i' hk' hl' _ _ => ?_)
  · unfold sset at hl'
    split at hl'
    · rename_i z
      exact Or.inr ⟨by omega, z.2⟩
    · exact Or.inl hl'
  · have e51 : sset S (50 + k) i 1 51 = S 51 := sset_n _ _ _ (by omega)
    have e41 : sset S (50 + k) i 1 41 = S 41 := sset_n _ _ _ (by omega)
    have e58 : sset S (50 + k) i 1 58 = S 58 := sset_n _ _ _ (by omega)
    have ec : cnt (sset S (50 + k) i 1) n = cnt S n := by
      unfold cnt
      rw [sset_n S i 1 (show 3 ≠ 50 + k by omega), sset_n S i 1 (show 6 ≠ 50 + k by omega), sset_n S i 1 (show 11 ≠ 50 + k by omega), sset_n S i 1 (show 23 ≠ 50 + k by omega), sset_n S i 1 (show 43 ≠ 50 + k by omega)]
    rw [e51] at hn
    rw [e41, e58, ec, cup_n ad q (show ¬ (8 = k ∧ n = i) by omega), cup_n ad q (show ¬ (1 = k ∧ n = i) by omega)]
    exact hc.2.2.2.1 n hn
  · rw [cel_50 _ hk' hl']
    exact cel_cup hW h2 h7 hd hk' hl' (fun e8 => h58 i' (by rw [e8] at hl'; exact hl'))
end BI
