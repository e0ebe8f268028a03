/-! what is read of the grid by what lives; births -/
def dep0 (S : gS) (a : Nat) (j : Int) : Prop := a = 3 ∨ a = 6 ∨ a = 11 ∨ a = 23 ∨ a = 43 ∨ a = 42 ∨ a = 41 ∨ a = 44 ∨ a = 24 ∨ a = 35 ∨ (a = 5 ∧ S 52 j = 1) ∨ ((a = 10 ∨ a = 7 ∨ a = 8 ∨ a = 9 ∨ a = 30 ∨ a = 31 ∨ a = 32) ∧ S 53 j = 1) ∨ ((a = 13 ∨ a = 20 ∨ a = 19 ∨ a = 14 ∨ a = 15 ∨ a = 22 ∨ a = 16 ∨ a = 17 ∨ a = 18 ∨ a = 33 ∨ a = 34) ∧ S 54 j = 1) ∨ ((a = 13 ∨ a = 14 ∨ a = 15 ∨ a = 16 ∨ a = 17 ∨ a = 18) ∧ S 55 (j - 20) = 1) ∨ (a = 4 ∧ j < 10 ∧ S 56 j = 1) ∨ (a = 12 ∧ S 56 (j + 10) = 1) ∨ ((a = 36 ∨ a = 2) ∧ S 56 j = 1) ∨ (a = 1 ∧ S 57 (j / 32) = 1)
def dep (S : gS) (a : Nat) (j : Int) : Prop := 50 ≤ a ∨ dep0 S a j
theorem dep0_lt {S : gS} {a : Nat} {j : Int} (h : dep0 S a j) : a < 50 := by
  unfold dep0 at h
  omega
section BI
variable {g : xG} {K : hp} {ad : cA} {S S' : gS} {h : hp}
theorem cel_dep (hd : ∀ a j, dep0 S a j → S' a j = S a j) {k : Nat} {i : Int} (hk : k ≤ 10) (hl : S (50 + k) i = 1) : cel g ad S' k i = cel g ad S k i := by
  have D : ∀ a, (a == 3 || a == 6 || a == 11 || a == 23 || a == 43 || a == 42 || a == 41 || a == 44 || a == 24 || a == 35) = true → ∀ j, S' a j = S a j := fun a ha j => hd a j (by
    simp only [Bool.or_eq_true, beq_iff_eq] at ha
    unfold dep0
    omega)
  have ec : ∀ n, cnt S' n = cnt S n := fun n => by
    unfold cnt
    rw [D 3 rfl, D 6 rfl, D 11 rfl, D 23 rfl, D 43 rfl]
  rcases k11 hk with rfl | rfl | rfl | rfl | rfl | rfl | rfl | rfl | rfl | rfl | rfl
  · rfl
  · simp only [cel, fl1, D 42 rfl, ec]
  · have e : ∀ a, (a == 5) = true → S' a i = S a i := fun a ha => hd a i (by
      simp only [beq_iff_eq] at ha
      have hl' : S 52 i = 1 := hl
      unfold dep0
      omega)
    simp only [cel, fl2, e 5 rfl]
  · have e : ∀ a, (a == 10 || a == 7 || a == 8 || a == 9 || a == 30 || a == 31 || a == 32) = true → S' a i = S a i := fun a ha => hd a i (by
      simp only [Bool.or_eq_true, beq_iff_eq] at ha
      have hl' : S 53 i = 1 := hl
      unfold dep0
      omega)
    simp only [cel, fl3, e 10 rfl, e 7 rfl, e 8 rfl, e 9 rfl, e 30 rfl, e 31 rfl, e 32 rfl]
  · have e : ∀ a, (a == 13 || a == 20 || a == 19 || a == 14 || a == 15 || a == 22 || a == 16 || a == 17 || a == 18 || a == 33 || a == 34) = true → S' a i = S a i := fun a ha => hd a i (by
      simp only [Bool.or_eq_true, beq_iff_eq] at ha
      have hl' : S 54 i = 1 := hl
      unfold dep0
      omega)
    simp only [cel, fl4, e 13 rfl, e 20 rfl, e 19 rfl, e 14 rfl, e 15 rfl, e 22 rfl, e 16 rfl, e 17 rfl, e 18 rfl, e 33 rfl, e 34 rfl]
  · have e : ∀ a, (a == 13 || a == 14 || a == 15 || a == 16 || a == 17 || a == 18) = true → S' a (20 + i) = S a (20 + i) := fun a ha => hd a (20 + i) (by
      simp only [Bool.or_eq_true, beq_iff_eq] at ha
      have hl' : S 55 (20 + i - 20) = 1 := by rw [show 20 + i - 20 = i by omega]; exact hl
      unfold dep0
      omega)
    simp only [cel, fl5, e 13 rfl, e 14 rfl, e 15 rfl, e 16 rfl, e 17 rfl, e 18 rfl]
  · have e : ∀ a, (a == 36 || a == 2) = true → S' a i = S a i := fun a ha => hd a i (by
      simp only [Bool.or_eq_true, beq_iff_eq] at ha
      have hl' : S 56 i = 1 := hl
      unfold dep0
      omega)
    have eb : blw S' i = blw S i := by
      have hl' : S 56 i = 1 := hl
      unfold blw
      by_cases q : i < 10
      · rw [if_pos q, if_pos q, hd 4 i (by unfold dep0; omega)]
      · rw [if_neg q, if_neg q, hd 12 (i - 10) (by
          have hl2 : S 56 (i - 10 + 10) = 1 := by rw [show i - 10 + 10 = i by omega]; exact hl'
          unfold dep0
          omega)]
    simp only [cel, fl6, e 36 rfl, e 2 rfl, eb]
  · have e : flF S' i = flF S i := by
      funext f
      unfold flF
      split
      · rename_i q
        refine hd 1 (32 * i + f) ?_
        have hl' : S 57 ((32 * i + f) / 32) = 1 := by rw [show (32 * i + f) / 32 = i by omega]; exact hl
        unfold dep0
        omega
      · rfl
    simp only [cel, e]
  · have e : elF S' ad i = elF S ad i := by
      funext j
      unfold elF elK elI
      rw [ec]
      simp only [D 44 rfl]
    simp only [cel, e, D 41 rfl]
  · have e : pbF S' ad = pbF S ad := by
      funext j
      unfold pbF
      rw [D 24 rfl]
    simp only [cel, e]
  · have e : S' 35 = S 35 := funext (fun j => D 35 rfl j)
    simp only [cel, e]
theorem cls.gst (hc : cls g K ad S h) (hd : ∀ a j, dep S a j → S' a j = S a j) : cls g K ad S' h := by
  have D : ∀ a, (a == 3 || a == 6 || a == 11 || a == 23 || a == 43 || a == 41 || Nat.ble 50 a) = true → ∀ j, S' a j = S a j := fun a ha j => hd a j (by
    simp only [Bool.or_eq_true, beq_iff_eq] at ha
    have hb : a = 3 ∨ a = 6 ∨ a = 11 ∨ a = 23 ∨ a = 43 ∨ a = 41 ∨ 50 ≤ a := by
      rcases ha with ((((((e | e) | e) | e) | e) | e) | e)
      · omega
      · omega
      · omega
      · omega
      · omega
      · omega
      · have := Nat.le_of_ble_eq_true e; omega
    unfold dep dep0
    omega)
  have D5 : ∀ k j, S' (50 + k) j = S (50 + k) j := fun k j => hd _ _ (by unfold dep; omega)
  have ec : ∀ n, cnt S' n = cnt S n := fun n => by
    unfold cnt
    rw [D 3 rfl, D 6 rfl, D 11 rfl, D 23 rfl, D 43 rfl]
  refine ⟨fun k' i' hk' hl' => ?_, fun k1 i1 k2 i2 h1 h2 l1 l2 => hc.2.1 k1 i1 k2 i2 h1 h2 (by rw [← D5]; exact l1) (by rw [← D5]; exact l2), hc.2.2.1, fun n hn => ?_, hc.2.2.2.2⟩
  · rw [D5] at hl'
    have q := hc.1 k' i' hk' hl'
    exact ⟨by rw [q.1, cel_dep (fun a j z => hd a j (Or.inr z)) hk' hl'], q.2⟩
  · rw [D 51 rfl] at hn
    rw [D 41 rfl, D 58 rfl, ec]
    exact hc.2.2.2.1 n hn
theorem cls.gs1 (hc : cls g K ad S h) {r : Nat} {i : Int} (v : Int) (hn : ¬ dep S r i) : cls g K ad (sset S r i v) h := hc.gst (fun a j hd => by
  unfold sset
  rw [if_neg (fun z => hn (by rw [← z.1, ← z.2]; exact hd))])
/-- references of what lives lead to what lives -/
def Wf (S : gS) : Prop := (∀ i, S 52 i = 1 → S 56 i = 1) ∧ (∀ c, S 54 c = 1 → S 56 (10 + c) = 1 ∧ S 53 (S 20 c) = 1) ∧ (∀ k, S 55 k = 1 → S 56 (30 + k) = 1) ∧ (∀ l, S 56 l = 1 → S 57 l = 1 ∧ (blw S l = -1 ∨ S 56 (blw S l) = 1)) ∧ (∀ p, S 53 p = 1 → S 7 p = -1 ∨ S 53 (S 7 p) = 1) ∧ (∀ n j, S 51 n = 1 → 0 ≤ j → j < cnt S n → S (50 + elK S n j) (elI S n j) = 1) ∧ ∀ j, 0 ≤ j → j < 32 → S 24 j = -1 ∨ S 54 (S 24 j) = 1
theorem rfo_cup (ad : cA) {k a : Nat} {i j : Int} (q : Nat) (hn : j = -1 ∨ ¬ (a = k ∧ j = i)) : rfo (cup ad k i q) a j = rfo ad a j := by
  unfold rfo
  by_cases z : j = -1
  · rw [if_pos z, if_pos z]
  · rw [if_neg z, if_neg z, cup_n _ _ (hn.resolve_left z)]
theorem elK_b (S : gS) (n j : Int) : 2 ≤ elK S n j ∧ elK S n j ≤ 5 := by
  unfold elK
  (repeat' split) <;> omega
theorem cel_cup (hW : Wf S) {k : Nat} {i : Int} {q : Nat} (h2 : 2 ≤ k) (h7 : k ≤ 7) (hd : S (50 + k) i ≠ 1) {k' : Nat} {i' : Int} (hk : k' ≤ 10) (hl : S (50 + k') i' = 1) (hn51 : k' = 8 → S 51 i' = 1) : cel g (cup ad k i q) S k' i' = cel g ad S k' i' := by
  have N : ∀ a j, S (50 + a) j = 1 → ¬ (a = k ∧ j = i) := fun a j hj z => hd (by rw [← z.1, ← z.2]; exact hj)
  have C : ∀ a j, S (50 + a) j = 1 → cup ad k i q a j = ad a j := fun a j hj => cup_n _ _ (N a j hj)
  have C2 : ∀ a j, (Nat.ble a 1 || Nat.ble 8 a) = true → cup ad k i q a j = ad a j := fun a j ha => cup_n _ _ (fun z => by
    simp only [Bool.or_eq_true] at ha
    rcases ha with e | e
    · have := Nat.le_of_ble_eq_true e; omega
    · have := Nat.le_of_ble_eq_true e; omega)
  rcases k11 hk with rfl | rfl | rfl | rfl | rfl | rfl | rfl | rfl | rfl | rfl | rfl
  · simp only [cel, fl0, C2 1 _ rfl, C2 9 _ rfl, C2 10 _ rfl]
  · simp only [cel, fl1, C2 8 _ rfl]
  · simp only [cel, fl2, C 6 _ (hW.1 i' hl)]
  · have e := hW.2.2.2.2.1 i' hl
    simp only [cel, fl3, rfo_cup ad q (e.imp_right (fun z => N 3 _ z))]
  · have e := hW.2.1 i' hl
    simp only [cel, fl4, C 6 _ e.1, C 3 _ e.2]
  · simp only [cel, fl5, C 6 _ (hW.2.2.1 i' hl)]
  · have e := hW.2.2.2.1 i' hl
    simp only [cel, fl6, C 7 _ e.1, rfo_cup ad q (e.2.imp_right (fun z => N 6 _ z))]
  · rfl
  · have e : elF S (cup ad k i q) i' = elF S ad i' := by
      funext j
      unfold elF
      split
      · rename_i z
        rw [C _ _ (hW.2.2.2.2.2.1 i' j (hn51 rfl) (by omega) z)]
      · rfl
    simp only [cel, e]
  · have e : pbF S (cup ad k i q) = pbF S ad := by
      funext j
      unfold pbF
      split
      · rename_i z
        rw [C 4 _ ((hW.2.2.2.2.2.2 j (by omega) z.1).resolve_left z.2)]
      · rfl
    simp only [cel, e]
  · rfl
theorem cel_50 {k : Nat} (i : Int) {k' : Nat} {i' : Int} (hk : k' ≤ 10) (hl : S (50 + k') i' = 1) : cel g ad (sset S (50 + k) i 1) k' i' = cel g ad S k' i' :=
  cel_dep (fun a j hd => by rw [sset_n _ _ _ (by have := dep0_lt hd; omega)]) hk hl
theorem cls.brn {k : Nat} {i : Int} {q : Nat} {e : va_E} (hc : cls g K ad S h) (hq : h q = none) (h2 : 2 ≤ k) (h7 : k ≤ 7) (hd : S (50 + k) i ≠ 1) (hi0 : 0 ≤ i) (hi1 : i < bnd k) (hW : Wf S) (h58 : ∀ n, S 58 n = 1 → S 51 n = 1) (he : cel g (cup ad k i q) (sset S (50 + k) i 1) k i = e) : cls g K (cup ad k i q) (sset S (50 + k) i 1) (hset h q e) := by
  refine hc.born hq (by omega) hd hi0 hi1 (fun k' i' hk' hl' => ?_) (fun n hn => ?_) he (fun k' i' hk' hl' _ _ => ?_)
  · unfold sset at hl'
    split at hl'
    · rename_i z
      exact Or.inr ⟨by omega, z.2⟩
    · exact Or.inl hl'
  · have e51 : sset S (50 + k) i 1 51 = S 51 := sset_n _ _ _ (by omega)
    have e41 : sset S (50 + k) i 1 41 = S 41 := sset_n _ _ _ (by omega)
    have e58 : sset S (50 + k) i 1 58 = S 58 := sset_n _ _ _ (by omega)
    have ec : cnt (sset S (50 + k) i 1) n = cnt S n := by
      unfold cnt
      rw [sset_n S i 1 (show 3 ≠ 50 + k by omega), sset_n S i 1 (show 6 ≠ 50 + k by omega), sset_n S i 1 (show 11 ≠ 50 + k by omega), sset_n S i 1 (show 23 ≠ 50 + k by omega), sset_n S i 1 (show 43 ≠ 50 + k by omega)]
    rw [e51] at hn
    rw [e41, e58, ec, cup_n ad q (show ¬ (8 = k ∧ n = i) by omega), cup_n ad q (show ¬ (1 = k ∧ n = i) by omega)]
    exact hc.2.2.2.1 n hn
  · rw [cel_50 _ hk' hl']
    exact cel_cup hW h2 h7 hd hk' hl' (fun e8 => h58 i' (by rw [e8] at hl'; exact hl'))
end BI
