/-! the class's objects over the same grid S (rows below 28 as the reference's; 30 31 32 a group's memory, processes, granted; 33 34 bridge, address; 35 remainders; 36 height; 41 42 a list's capacity, modCount; 43 44 the parts; 50 + kind: which live) -/
abbrev cA : Type := Nat → Int → Nat
def rfo (ad : cA) (k : Nat) (i : Int) : Value := va_rf (if i = -1 then none else some (ad k i))
def blw (S : gS) (l : Int) : Int := if l < 10 then S 4 l else S 12 (l - 10)
def cnt (S : gS) (n : Int) : Int := if n = 1 then S 3 0 else if n = 2 then S 6 0 else if n = 3 then S 11 0 else if n = 4 then S 23 0 else S 43 0
def elK (S : gS) (n j : Int) : Nat := if n = 1 then 2 else if n = 2 then 3 else if n = 3 then 4 else if n = 4 then 5 else if S 44 j < 8 then 3 else 4
def elI (S : gS) (n j : Int) : Int := if n = 5 then (if S 44 j < 8 then S 44 j else S 44 j - 8) else j
def elF (S : gS) (ad : cA) (n : Int) : Nat → Option Nat := fun j => if (j : Int) < cnt S n then some (ad (elK S n j) (elI S n j)) else none
def flF (S : gS) (l : Int) : Int → Int := fun f => if 0 ≤ f ∧ f < 32 then S 1 (32 * l + f) else 0
def pbF (S : gS) (ad : cA) : Nat → Option Nat := fun j => if (j : Int) < 32 ∧ S 24 j ≠ -1 then some (ad 4 (S 24 j)) else none
abbrev fl0 (ad : cA) : List Value := [.ref (ad 1 1), .ref (ad 1 2), .ref (ad 1 3), .ref (ad 1 4), .ref (ad 9 0), .ref (ad 1 5), .ref (ad 10 0)]
abbrev fl1 (S : gS) (ad : cA) (n : Int) : List Value := [.int (iI (S 42 n)), .ref (ad 8 n), .int (iI (cnt S n))]
abbrev fl2 (S : gS) (ad : cA) (i : Int) : List Value := [.ref (ad 6 i), .int (iI (S 5 i))]
abbrev fl3 (S : gS) (ad : cA) (p : Int) : List Value := [.int (iI (if p = 0 then 1 else S 10 p)), rfo ad 3 (S 7 p), .int (iI (S 8 p)), .int (iI (S 9 p)), .int (iI (S 30 p)), .int (iI (S 31 p)), .int (iI (S 32 p))]
abbrev fl4 (S : gS) (ad : cA) (c : Int) : List Value := [.int (iI (S 13 c)), .int (iI c), .ref (ad 3 (S 20 c)), .ref (ad 6 (10 + c)), .int (iI (S 19 c)), .int (iI (S 14 c)), .int (iI (S 15 c)), .int (iI (S 22 c)), .int (iI (S 16 c)), .int (iI (S 17 c)), .int (iI (S 18 c)), .int (iI (S 33 c)), .int (iI (S 34 c))]
abbrev fl5 (S : gS) (ad : cA) (k : Int) : List Value := [.ref (ad 6 (30 + k)), .int (iI (S 13 (20 + k))), .int (iI (S 14 (20 + k))), .int (iI (S 15 (20 + k))), .int (iI (S 16 (20 + k))), .int (iI (S 17 (20 + k))), .int (iI (S 18 (20 + k)))]
abbrev fl6 (S : gS) (ad : cA) (l : Int) : List Value := [rfo ad 6 (blw S l), .int (iI (S 36 l)), .ref (ad 7 l), .int (iI (S 2 l))]
def cel (g : xG) (ad : cA) (S : gS) : Nat → Int → va_E
  | 0, _ => .inr (6, fl0 ad)
  | 1, n => .inr (0, fl1 S ad n)
  | 2, i => .inr (4, fl2 S ad i)
  | 3, p => .inr (3, fl3 S ad p)
  | 4, c => .inr (2, fl4 S ad c)
  | 5, k => .inr (1, fl5 S ad k)
  | 6, l => .inr (5, fl6 S ad l)
  | 7, l => iarr g 32 (flF S l)
  | 8, n => oarr g (S 41 n).toNat (elF S ad n)
  | 9, _ => carr g 32 (pbF S ad)
  | 10, _ => iarr g 28 (S 35)
  | _, _ => .inr (0, [])
def bnd (k : Nat) : Int := if k = 0 then 1 else if k = 1 then 6 else if k = 2 then 10 else if k = 3 then 8 else if k = 4 then 20 else if k = 5 then 5 else if k ≤ 7 then 35 else if k = 8 then 6 else 1
def clsD (g : xG) (ad : cA) (S : gS) : Prop := ∀ n, S 51 n = 1 → (S 41 n = 0 ∧ isD g (ad 8 n) ∧ ad 8 n ≠ ad 1 n ∧ cnt S n = 0) ∨ (capOk (S 41 n).toNat ∧ S 58 n = 1 ∧ 0 ≤ S 41 n ∧ 0 ≤ cnt S n ∧ cnt S n ≤ S 41 n)
def cls (g : xG) (K : hp) (ad : cA) (S : gS) (h : hp) : Prop :=
  (∀ k i, k ≤ 10 → S (50 + k) i = 1 → h (ad k i) = some (cel g ad S k i) ∧ K (ad k i) = none ∧ 0 ≤ i ∧ i < bnd k) ∧
  (∀ k i k' i', k ≤ 10 → k' ≤ 10 → S (50 + k) i = 1 → S (50 + k') i' = 1 → ad k i = ad k' i' → k = k' ∧ i = i') ∧
  (∀ a e, K a = some e → h a = some e) ∧ clsD g ad S ∧ (∃ mi, va_Mi "[Ljava/lang/Object;" mi g.2.1) ∧ ad 0 0 = g.2.2.2.2 5
theorem sset_o (S : gS) (r : Nat) {i j : Int} (v : Int) (a : Nat) (h : j ≠ i) : sset S r i v a j = S a j := by
  unfold sset
  rw [if_neg (fun q => h q.2)]
theorem k11 {k : Nat} (h : k ≤ 10) : k = 0 ∨ k = 1 ∨ k = 2 ∨ k = 3 ∨ k = 4 ∨ k = 5 ∨ k = 6 ∨ k = 7 ∨ k = 8 ∨ k = 9 ∨ k = 10 := by omega
section CL
variable {g : xG} {K : hp} {ad : cA} {S S' : gS} {h : hp}
theorem cls.at (hc : cls g K ad S h) (k : Nat) {i : Int} (hk : k ≤ 10) (hl : S (50 + k) i = 1) : h (ad k i) = some (cel g ad S k i) := (hc.1 k i hk hl).1
theorem cls.bd (hc : cls g K ad S h) (k : Nat) {i : Int} (hk : k ≤ 10) (hl : S (50 + k) i = 1) : 0 ≤ i ∧ i < bnd k := (hc.1 k i hk hl).2.2
theorem cls.put {k : Nat} {i : Int} {e : va_E} (hc : cls g K ad S h) (hk : k ≤ 10) (hl : S (50 + k) i = 1) (hL : ∀ q, 40 ≤ q → q ≠ 42 → S' q = S q) (hcnt : ∀ n, cnt S' n = cnt S n) (he : cel g ad S' k i = e) (ho : ∀ k' i', k' ≤ 10 → S (50 + k') i' = 1 → ¬ (k' = k ∧ i' = i) → 0 ≤ i' → i' < bnd k' → cel g ad S' k' i' = cel g ad S k' i') : cls g K ad S' (hset h (ad k i) e) := by
  have hL' : ∀ k', S' (50 + k') = S (50 + k') := fun k' => hL _ (by omega) (by omega)
  refine ⟨fun k' i' hk' hl' => ?_, fun k1 i1 k2 i2 h1 h2 l1 l2 => hc.2.1 k1 i1 k2 i2 h1 h2 (by rw [← hL']; exact l1) (by rw [← hL']; exact l2), fun a x ha => ?_, fun n hn => ?_, hc.2.2.2.2⟩
  · rw [hL'] at hl'
    have q := hc.1 k' i' hk' hl'
    refine ⟨?_, q.2⟩
    by_cases hki : k' = k ∧ i' = i
    · obtain ⟨rfl, rfl⟩ := hki
      rw [hset_s, he]
    · rw [hset_n _ _ (fun e9 => hki (hc.2.1 k' i' k i hk' hk hl' hl e9)), q.1, ho k' i' hk' hl' hki q.2.2.1 q.2.2.2]
  · have q := hc.1 k i hk hl
    rw [hset_n _ _ (fun e9 => by rw [e9, q.2.1] at ha; cases ha)]
    exact hc.2.2.1 a x ha
  · rw [hL 51 (by omega) (by omega)] at hn
    rw [hL 41 (by omega) (by omega), hL 58 (by omega) (by omega), hcnt]
    exact hc.2.2.2.1 n hn
theorem cls.ghost (hc : cls g K ad S h) (hL : ∀ q, 40 ≤ q → q ≠ 42 → S' q = S q) (hcnt : ∀ n, cnt S' n = cnt S n) (ho : ∀ k i, k ≤ 10 → S (50 + k) i = 1 → 0 ≤ i → i < bnd k → cel g ad S' k i = cel g ad S k i) : cls g K ad S' h := by
  have hL' : ∀ k', S' (50 + k') = S (50 + k') := fun k' => hL _ (by omega) (by omega)
  refine ⟨fun k' i' hk' hl' => ?_, fun k1 i1 k2 i2 h1 h2 l1 l2 => hc.2.1 k1 i1 k2 i2 h1 h2 (by rw [← hL']; exact l1) (by rw [← hL']; exact l2), hc.2.2.1, fun n hn => ?_, hc.2.2.2.2⟩
  · rw [hL'] at hl'
    have q := hc.1 k' i' hk' hl'
    exact ⟨by rw [q.1, ho k' i' hk' hl' q.2.2.1 q.2.2.2], q.2⟩
  · rw [hL 51 (by omega) (by omega)] at hn
    rw [hL 41 (by omega) (by omega), hL 58 (by omega) (by omega), hcnt]
    exact hc.2.2.2.1 n hn
def cup (ad : cA) (k : Nat) (i : Int) (q : Nat) : cA := fun a j => if a = k ∧ j = i then q else ad a j
theorem cup_s (ad : cA) (k : Nat) (i : Int) (q : Nat) : cup ad k i q k i = q := if_pos ⟨rfl, rfl⟩
theorem cup_n (ad : cA) {k a : Nat} {i j : Int} (q : Nat) (hn : ¬ (a = k ∧ j = i)) : cup ad k i q a j = ad a j := if_neg hn
theorem cls.born {k : Nat} {i : Int} {q : Nat} {e : va_E} (hc : cls g K ad S h) (hq : h q = none) (hk : k ≤ 10) (hk0 : k ≠ 0) (hd : S (50 + k) i ≠ 1) (hi0 : 0 ≤ i) (hi1 : i < bnd k) (hL : ∀ k' i', k' ≤ 10 → S' (50 + k') i' = 1 → S (50 + k') i' = 1 ∨ (k' = k ∧ i' = i)) (hD : clsD g (cup ad k i q) S') (he : cel g (cup ad k i q) S' k i = e) (ho : ∀ k' i', k' ≤ 10 → S (50 + k') i' = 1 → 0 ≤ i' → i' < bnd k' → cel g (cup ad k i q) S' k' i' = cel g ad S k' i') : cls g K (cup ad k i q) S' (hset h q e) := by
  have hne : ∀ k' i', k' ≤ 10 → S (50 + k') i' = 1 → ad k' i' ≠ q := fun k' i' hk' hl' e9 => by
    have z := (hc.1 k' i' hk' hl').1
    rw [e9, hq] at z
    cases z
  have hki : ∀ k' i', S (50 + k') i' = 1 → ¬ (k' = k ∧ i' = i) := fun k' i' hl' z => hd (by rw [← z.1, ← z.2]; exact hl')
  refine ⟨fun k' i' hk' hl' => ?_, fun k1 i1 k2 i2 h1 h2 l1 l2 e9 => ?_, fun a x ha => ?_, hD, hc.2.2.2.2.1, (cup_n ad q (fun z => hk0 z.1.symm)).trans hc.2.2.2.2.2⟩
  · rcases hL k' i' hk' hl' with z | ⟨rfl, rfl⟩
    · have w := hc.1 k' i' hk' z
      rw [cup_n _ _ (hki _ _ z), hset_n _ _ (hne _ _ hk' z), ho k' i' hk' z w.2.2.1 w.2.2.2]
      exact w
    · rw [cup_s, hset_s, he]
      refine ⟨rfl, ?_, hi0, hi1⟩
      cases hK : K q with
      | none => rfl
      | some x => rw [hc.2.2.1 q x hK] at hq; cases hq
  · rcases hL k1 i1 h1 l1 with z1 | ⟨rfl, rfl⟩
    · rcases hL k2 i2 h2 l2 with z2 | ⟨rfl, rfl⟩
      · rw [cup_n _ _ (hki _ _ z1), cup_n _ _ (hki _ _ z2)] at e9
        exact hc.2.1 _ _ _ _ h1 h2 z1 z2 e9
      · rw [cup_n _ _ (hki _ _ z1), cup_s] at e9
        exact absurd e9 (hne _ _ h1 z1)
    · rcases hL k2 i2 h2 l2 with z2 | ⟨rfl, rfl⟩
      · rw [cup_n _ _ (hki _ _ z2), cup_s] at e9
        exact absurd e9.symm (hne _ _ h2 z2)
      · exact ⟨rfl, rfl⟩
  · rw [hset_n _ _ (fun e9 => by rw [e9] at ha; rw [hc.2.2.1 q x ha] at hq; cases hq)]
    exact hc.2.2.1 a x ha
theorem cls.w19 {i : Int} (hc : cls g K ad S h) (hl : S 54 i = 1) (v : Int) : cls g K ad (sset S 19 i v) (hset h (ad 4 i) (.inr (2, (fl4 S ad i).set 4 (.int (iI v))))) := by
  refine hc.put (k := 4) (by decide) hl (fun q hq _ => sset_n S i v (by omega)) (fun n => rfl) (by have e9 := sset_e S 19 i v; simp only [cel, fl4, e9]; rfl) (fun k' i' hk' _ hne h0 h1 => ?_)
  rcases k11 hk' with rfl | rfl | rfl | rfl | rfl | rfl | rfl | rfl | rfl | rfl | rfl
  · rfl
  · rfl
  · rfl
  · rfl
  · have hn : i' ≠ i := fun e9 => hne ⟨rfl, e9⟩
    have hs := fun a => sset_o S 19 v a hn
    simp only [cel, fl4, hs]
  · rfl
  · rfl
  · rfl
  · rfl
  · rfl
  · rfl
theorem cls.w14 {i : Int} (hc : cls g K ad S h) (hl : S 54 i = 1) (v : Int) : cls g K ad (sset S 14 i v) (hset h (ad 4 i) (.inr (2, (fl4 S ad i).set 5 (.int (iI v))))) := by
  refine hc.put (k := 4) (by decide) hl (fun q hq _ => sset_n S i v (by omega)) (fun n => rfl) (by have e9 := sset_e S 14 i v; simp only [cel, fl4, e9]; rfl) (fun k' i' hk' _ hne h0 h1 => ?_)
  rcases k11 hk' with rfl | rfl | rfl | rfl | rfl | rfl | rfl | rfl | rfl | rfl | rfl
  · rfl
  · rfl
  · rfl
  · rfl
  · have hn : i' ≠ i := fun e9 => hne ⟨rfl, e9⟩
    have hs := fun a => sset_o S 14 v a hn
    simp only [cel, fl4, hs]
  · have hb := hc.bd 4 (by decide) hl
    have hb2 : i < 20 := hb.2
    have hn : 20 + i' ≠ i := by omega
    have hs := fun a => sset_o S 14 v a hn
    simp only [cel, fl5, hs]
  · rfl
  · rfl
  · rfl
  · rfl
  · rfl
theorem cls.w15 {i : Int} (hc : cls g K ad S h) (hl : S 54 i = 1) (v : Int) : cls g K ad (sset S 15 i v) (hset h (ad 4 i) (.inr (2, (fl4 S ad i).set 6 (.int (iI v))))) := by
  refine hc.put (k := 4) (by decide) hl (fun q hq _ => sset_n S i v (by omega)) (fun n => rfl) (by have e9 := sset_e S 15 i v; simp only [cel, fl4, e9]; rfl) (fun k' i' hk' _ hne h0 h1 => ?_)
  rcases k11 hk' with rfl | rfl | rfl | rfl | rfl | rfl | rfl | rfl | rfl | rfl | rfl
  · rfl
  · rfl
  · rfl
  · rfl
  · have hn : i' ≠ i := fun e9 => hne ⟨rfl, e9⟩
    have hs := fun a => sset_o S 15 v a hn
    simp only [cel, fl4, hs]
  · have hb := hc.bd 4 (by decide) hl
    have hb2 : i < 20 := hb.2
    have hn : 20 + i' ≠ i := by omega
    have hs := fun a => sset_o S 15 v a hn
    simp only [cel, fl5, hs]
  · rfl
  · rfl
  · rfl
  · rfl
  · rfl
theorem cls.w22 {i : Int} (hc : cls g K ad S h) (hl : S 54 i = 1) (v : Int) : cls g K ad (sset S 22 i v) (hset h (ad 4 i) (.inr (2, (fl4 S ad i).set 7 (.int (iI v))))) := by
  refine hc.put (k := 4) (by decide) hl (fun q hq _ => sset_n S i v (by omega)) (fun n => rfl) (by have e9 := sset_e S 22 i v; simp only [cel, fl4, e9]; rfl) (fun k' i' hk' _ hne h0 h1 => ?_)
  rcases k11 hk' with rfl | rfl | rfl | rfl | rfl | rfl | rfl | rfl | rfl | rfl | rfl
  · rfl
  · rfl
  · rfl
  · rfl
  · have hn : i' ≠ i := fun e9 => hne ⟨rfl, e9⟩
    have hs := fun a => sset_o S 22 v a hn
    simp only [cel, fl4, hs]
  · rfl
  · rfl
  · rfl
  · rfl
  · rfl
  · rfl
theorem cls.w16 {i : Int} (hc : cls g K ad S h) (hl : S 54 i = 1) (v : Int) : cls g K ad (sset S 16 i v) (hset h (ad 4 i) (.inr (2, (fl4 S ad i).set 8 (.int (iI v))))) := by
  refine hc.put (k := 4) (by decide) hl (fun q hq _ => sset_n S i v (by omega)) (fun n => rfl) (by have e9 := sset_e S 16 i v; simp only [cel, fl4, e9]; rfl) (fun k' i' hk' _ hne h0 h1 => ?_)
  rcases k11 hk' with rfl | rfl | rfl | rfl | rfl | rfl | rfl | rfl | rfl | rfl | rfl
  · rfl
  · rfl
  · rfl
  · rfl
  · have hn : i' ≠ i := fun e9 => hne ⟨rfl, e9⟩
    have hs := fun a => sset_o S 16 v a hn
    simp only [cel, fl4, hs]
  · have hb := hc.bd 4 (by decide) hl
    have hb2 : i < 20 := hb.2
    have hn : 20 + i' ≠ i := by omega
    have hs := fun a => sset_o S 16 v a hn
    simp only [cel, fl5, hs]
  · rfl
  · rfl
  · rfl
  · rfl
  · rfl
theorem cls.w17 {i : Int} (hc : cls g K ad S h) (hl : S 54 i = 1) (v : Int) : cls g K ad (sset S 17 i v) (hset h (ad 4 i) (.inr (2, (fl4 S ad i).set 9 (.int (iI v))))) := by
  refine hc.put (k := 4) (by decide) hl (fun q hq _ => sset_n S i v (by omega)) (fun n => rfl) (by have e9 := sset_e S 17 i v; simp only [cel, fl4, e9]; rfl) (fun k' i' hk' _ hne h0 h1 => ?_)
  rcases k11 hk' with rfl | rfl | rfl | rfl | rfl | rfl | rfl | rfl | rfl | rfl | rfl
  · rfl
  · rfl
  · rfl
  · rfl
  · have hn : i' ≠ i := fun e9 => hne ⟨rfl, e9⟩
    have hs := fun a => sset_o S 17 v a hn
    simp only [cel, fl4, hs]
  · have hb := hc.bd 4 (by decide) hl
    have hb2 : i < 20 := hb.2
    have hn : 20 + i' ≠ i := by omega
    have hs := fun a => sset_o S 17 v a hn
    simp only [cel, fl5, hs]
  · rfl
  · rfl
  · rfl
  · rfl
  · rfl
theorem cls.w18 {i : Int} (hc : cls g K ad S h) (hl : S 54 i = 1) (v : Int) : cls g K ad (sset S 18 i v) (hset h (ad 4 i) (.inr (2, (fl4 S ad i).set 10 (.int (iI v))))) := by
  refine hc.put (k := 4) (by decide) hl (fun q hq _ => sset_n S i v (by omega)) (fun n => rfl) (by have e9 := sset_e S 18 i v; simp only [cel, fl4, e9]; rfl) (fun k' i' hk' _ hne h0 h1 => ?_)
  rcases k11 hk' with rfl | rfl | rfl | rfl | rfl | rfl | rfl | rfl | rfl | rfl | rfl
  · rfl
  · rfl
  · rfl
  · rfl
  · have hn : i' ≠ i := fun e9 => hne ⟨rfl, e9⟩
    have hs := fun a => sset_o S 18 v a hn
    simp only [cel, fl4, hs]
  · have hb := hc.bd 4 (by decide) hl
    have hb2 : i < 20 := hb.2
    have hn : 20 + i' ≠ i := by omega
    have hs := fun a => sset_o S 18 v a hn
    simp only [cel, fl5, hs]
  · rfl
  · rfl
  · rfl
  · rfl
  · rfl
theorem cls.w33 {i : Int} (hc : cls g K ad S h) (hl : S 54 i = 1) (v : Int) : cls g K ad (sset S 33 i v) (hset h (ad 4 i) (.inr (2, (fl4 S ad i).set 11 (.int (iI v))))) := by
  refine hc.put (k := 4) (by decide) hl (fun q hq _ => sset_n S i v (by omega)) (fun n => rfl) (by have e9 := sset_e S 33 i v; simp only [cel, fl4, e9]; rfl) (fun k' i' hk' _ hne h0 h1 => ?_)
  rcases k11 hk' with rfl | rfl | rfl | rfl | rfl | rfl | rfl | rfl | rfl | rfl | rfl
  · rfl
  · rfl
  · rfl
  · rfl
  · have hn : i' ≠ i := fun e9 => hne ⟨rfl, e9⟩
    have hs := fun a => sset_o S 33 v a hn
    simp only [cel, fl4, hs]
  · rfl
  · rfl
  · rfl
  · rfl
  · rfl
  · rfl
theorem cls.w34 {i : Int} (hc : cls g K ad S h) (hl : S 54 i = 1) (v : Int) : cls g K ad (sset S 34 i v) (hset h (ad 4 i) (.inr (2, (fl4 S ad i).set 12 (.int (iI v))))) := by
  refine hc.put (k := 4) (by decide) hl (fun q hq _ => sset_n S i v (by omega)) (fun n => rfl) (by have e9 := sset_e S 34 i v; simp only [cel, fl4, e9]; rfl) (fun k' i' hk' _ hne h0 h1 => ?_)
  rcases k11 hk' with rfl | rfl | rfl | rfl | rfl | rfl | rfl | rfl | rfl | rfl | rfl
  · rfl
  · rfl
  · rfl
  · rfl
  · have hn : i' ≠ i := fun e9 => hne ⟨rfl, e9⟩
    have hs := fun a => sset_o S 34 v a hn
    simp only [cel, fl4, hs]
  · rfl
  · rfl
  · rfl
  · rfl
  · rfl
  · rfl
theorem cls.w30 {i : Int} (hc : cls g K ad S h) (hl : S 53 i = 1) (v : Int) : cls g K ad (sset S 30 i v) (hset h (ad 3 i) (.inr (3, (fl3 S ad i).set 4 (.int (iI v))))) := by
  refine hc.put (k := 3) (by decide) hl (fun q hq _ => sset_n S i v (by omega)) (fun n => rfl) (by have e9 := sset_e S 30 i v; simp only [cel, fl3, e9]; rfl) (fun k' i' hk' _ hne h0 h1 => ?_)
  rcases k11 hk' with rfl | rfl | rfl | rfl | rfl | rfl | rfl | rfl | rfl | rfl | rfl
  · rfl
  · rfl
  · rfl
  · have hn : i' ≠ i := fun e9 => hne ⟨rfl, e9⟩
    have hs := fun a => sset_o S 30 v a hn
    simp only [cel, fl3, hs]
  · rfl
  · rfl
  · rfl
  · rfl
  · rfl
  · rfl
  · rfl
theorem cls.w31 {i : Int} (hc : cls g K ad S h) (hl : S 53 i = 1) (v : Int) : cls g K ad (sset S 31 i v) (hset h (ad 3 i) (.inr (3, (fl3 S ad i).set 5 (.int (iI v))))) := by
  refine hc.put (k := 3) (by decide) hl (fun q hq _ => sset_n S i v (by omega)) (fun n => rfl) (by have e9 := sset_e S 31 i v; simp only [cel, fl3, e9]; rfl) (fun k' i' hk' _ hne h0 h1 => ?_)
  rcases k11 hk' with rfl | rfl | rfl | rfl | rfl | rfl | rfl | rfl | rfl | rfl | rfl
  · rfl
  · rfl
  · rfl
  · have hn : i' ≠ i := fun e9 => hne ⟨rfl, e9⟩
    have hs := fun a => sset_o S 31 v a hn
    simp only [cel, fl3, hs]
  · rfl
  · rfl
  · rfl
  · rfl
  · rfl
  · rfl
  · rfl
theorem cls.w32 {i : Int} (hc : cls g K ad S h) (hl : S 53 i = 1) (v : Int) : cls g K ad (sset S 32 i v) (hset h (ad 3 i) (.inr (3, (fl3 S ad i).set 6 (.int (iI v))))) := by
  refine hc.put (k := 3) (by decide) hl (fun q hq _ => sset_n S i v (by omega)) (fun n => rfl) (by have e9 := sset_e S 32 i v; simp only [cel, fl3, e9]; rfl) (fun k' i' hk' _ hne h0 h1 => ?_)
  rcases k11 hk' with rfl | rfl | rfl | rfl | rfl | rfl | rfl | rfl | rfl | rfl | rfl
  · rfl
  · rfl
  · rfl
  · have hn : i' ≠ i := fun e9 => hne ⟨rfl, e9⟩
    have hs := fun a => sset_o S 32 v a hn
    simp only [cel, fl3, hs]
  · rfl
  · rfl
  · rfl
  · rfl
  · rfl
  · rfl
  · rfl
theorem cls.w5 {i : Int} (hc : cls g K ad S h) (hl : S 52 i = 1) (v : Int) : cls g K ad (sset S 5 i v) (hset h (ad 2 i) (.inr (4, (fl2 S ad i).set 1 (.int (iI v))))) := by
  refine hc.put (k := 2) (by decide) hl (fun q hq _ => sset_n S i v (by omega)) (fun n => rfl) (by have e9 := sset_e S 5 i v; simp only [cel, fl2, e9]; rfl) (fun k' i' hk' _ hne h0 h1 => ?_)
  rcases k11 hk' with rfl | rfl | rfl | rfl | rfl | rfl | rfl | rfl | rfl | rfl | rfl
  · rfl
  · rfl
  · have hn : i' ≠ i := fun e9 => hne ⟨rfl, e9⟩
    have hs := fun a => sset_o S 5 v a hn
    simp only [cel, fl2, hs]
  · rfl
  · rfl
  · rfl
  · rfl
  · rfl
  · rfl
  · rfl
  · rfl
theorem cls.w2 {i : Int} (hc : cls g K ad S h) (hl : S 56 i = 1) (v : Int) : cls g K ad (sset S 2 i v) (hset h (ad 6 i) (.inr (5, (fl6 S ad i).set 3 (.int (iI v))))) := by
  refine hc.put (k := 6) (by decide) hl (fun q hq _ => sset_n S i v (by omega)) (fun n => rfl) (by have e9 := sset_e S 2 i v; simp only [cel, fl6, e9]; rfl) (fun k' i' hk' _ hne h0 h1 => ?_)
  rcases k11 hk' with rfl | rfl | rfl | rfl | rfl | rfl | rfl | rfl | rfl | rfl | rfl
  · rfl
  · rfl
  · rfl
  · rfl
  · rfl
  · rfl
  · have hn : i' ≠ i := fun e9 => hne ⟨rfl, e9⟩
    have hs := fun a => sset_o S 2 v a hn
    simp only [cel, fl6, hs, blw, sset_n S (k := 2) i v (by decide : (4 : Nat) ≠ 2), sset_n S (k := 2) i v (by decide : (12 : Nat) ≠ 2)]
  · rfl
  · rfl
  · rfl
  · rfl
theorem flF_set (S : gS) (l : Int) {f : Int} (v : Int) (h0 : 0 ≤ f) (h1 : f < 32) : flF (sset S 1 (32 * l + f) v) l = fset (flF S l) f v := by
  funext j
  show (if 0 ≤ j ∧ j < 32 then (if 1 = 1 ∧ 32 * l + j = 32 * l + f then v else S 1 (32 * l + j)) else 0) = (if j = f then v else (if 0 ≤ j ∧ j < 32 then S 1 (32 * l + j) else 0))
  by_cases q : j = f
  · subst q
    rw [if_pos ⟨h0, h1⟩, if_pos ⟨rfl, rfl⟩, if_pos rfl]
  · rw [if_neg q, if_neg (fun z : 1 = 1 ∧ 32 * l + j = 32 * l + f => q (by omega))]
theorem flF_o (S : gS) {l l' f : Int} (v : Int) (hn : l' ≠ l) (h0 : 0 ≤ f) (h1 : f < 32) : flF (sset S 1 (32 * l + f) v) l' = flF S l' := by
  funext j
  unfold flF sset
  split
  · rw [if_neg (fun z => hn (by omega))]
  · rfl
theorem cls.w1 {l f : Int} (hc : cls g K ad S h) (hl : S 57 l = 1) (v : Int) (h0 : 0 ≤ f) (h1 : f < 32) : cls g K ad (sset S 1 (32 * l + f) v) (hset h (ad 7 l) (iarr g 32 (fset (flF S l) f v))) := by
  refine hc.put (k := 7) (by decide) hl (fun q hq _ => sset_n S _ v (by omega)) (fun n => rfl) (by rw [← flF_set S l v h0 h1]; rfl) (fun k' i' hk' _ hne _ _ => ?_)
  rcases k11 hk' with rfl | rfl | rfl | rfl | rfl | rfl | rfl | rfl | rfl | rfl | rfl
  all_goals first | rfl | skip
  have hn : i' ≠ l := fun e9 => hne ⟨rfl, e9⟩
  simp only [cel, flF_o S v hn h0 h1]
theorem cls.w35 {i : Int} (hc : cls g K ad S h) (hl : S 60 0 = 1) (v : Int) : cls g K ad (sset S 35 i v) (hset h (ad 10 0) (iarr g 28 (fset (S 35) i v))) := by
  refine hc.put (k := 10) (by decide) hl (fun q hq _ => sset_n S _ v (by omega)) (fun n => rfl) (by rw [← sset_s S 35 i v]; rfl) (fun k' i' hk' _ hne h0 h1 => ?_)
  rcases k11 hk' with rfl | rfl | rfl | rfl | rfl | rfl | rfl | rfl | rfl | rfl | rfl
  all_goals first | rfl | skip
  have hb2 : i' < 1 := h1
  exact absurd ⟨rfl, by omega⟩ hne
theorem pbF_set (S : gS) (ad : cA) {j : Int} (v : Int) (h0 : 0 ≤ j) (h1 : j < 32) : pbF (sset S 24 j v) ad = va_up (pbF S ad) j.toNat (if v = -1 then none else some (ad 4 v)) := by
  funext q
  show (if (q : Int) < 32 ∧ (if 24 = 24 ∧ (q : Int) = j then v else S 24 q) ≠ -1 then some (ad 4 (if 24 = 24 ∧ (q : Int) = j then v else S 24 q)) else none) = va_up (pbF S ad) j.toNat (if v = -1 then none else some (ad 4 v)) q
  unfold va_up
  by_cases e : q = j.toNat
  · have e2 : (q : Int) = j := by omega
    rw [if_pos e, if_pos (⟨rfl, e2⟩ : 24 = 24 ∧ (q : Int) = j)]
    by_cases hv : v = -1
    · rw [if_neg (fun z => z.2 hv), if_pos hv]
    · rw [if_pos ⟨by omega, hv⟩, if_neg hv]
  · rw [if_neg e, if_neg (fun z : 24 = 24 ∧ (q : Int) = j => e (by omega))]
    rfl
theorem cls.w24 {j : Int} (hc : cls g K ad S h) (hl : S 59 0 = 1) (v : Int) (h0 : 0 ≤ j) (h1 : j < 32) : cls g K ad (sset S 24 j v) (hset h (ad 9 0) (carr g 32 (va_up (pbF S ad) j.toNat (if v = -1 then none else some (ad 4 v))))) := by
  refine hc.put (k := 9) (by decide) hl (fun q hq _ => sset_n S _ v (by omega)) (fun n => rfl) (by rw [← pbF_set S ad v h0 h1]; rfl) (fun k' i' hk' _ hne z0 z1 => ?_)
  rcases k11 hk' with rfl | rfl | rfl | rfl | rfl | rfl | rfl | rfl | rfl | rfl | rfl
  all_goals first | rfl | skip
  have hb2 : i' < 1 := z1
  exact absurd ⟨rfl, by omega⟩ hne
end CL
