/-! what the answers are, behind an operation -/
theorem bit_bset (a k : Int) : bit (bset a k) k = 1 := by
  unfold bset bit
  have hP : (0 : Int) < 2 ^ k.toNat := Int.pow_pos (by omega)
  generalize (2 : Int) ^ k.toNat = P at *
  have e : a - a / P % 2 * P + P = a + (1 - a / P % 2) * P := by rw [Int.sub_mul]; omega
  rw [e, Int.add_mul_ediv_right _ _ (by omega : P ≠ 0)]
  omega
theorem lyr_put {S : gS} {a f r v : Int} (h : S 1 (32 * a + f) = v) (hv : 0 < v) : lyr S a f r = v := by
  unfold lyr
  rw [h, if_neg (by omega), if_pos hv]
theorem lyr_neg {S : gS} {a f r : Int} (h : S 1 (32 * a + f) = -1) : lyr S a f r = 0 := by
  unfold lyr
  rw [h, if_neg (by omega), if_neg (by omega)]
theorem lyr_opq {S : gS} {a f r : Int} (h : S 1 (32 * a + f) = 0) (hb : obit S a f = 1) : lyr S a f r = 0 := by
  unfold lyr
  rw [if_pos h, if_pos hb]
theorem lyr_thru {S : gS} {a f r : Int} (h : S 1 (32 * a + f) = 0) (h2 : S 2 a = 0) : lyr S a f r = r := by
  unfold lyr obit
  rw [if_pos h, h2, if_neg (by unfold bit; rw [Int.zero_ediv]; decide)]
theorem lyr_same {S : gS} {a b f r : Int} (h : S 1 (32 * a + f) = S 1 (32 * b + f)) (h2 : S 2 a = S 2 b) : lyr S a f r = lyr S b f r := by
  unfold lyr obit
  rw [h, h2]
section AN
variable {S S9 : gS}
theorem a_write {i f c : Int} (ha : agr S9 (st_write S i f c)) (hI : Inv S9) (i0 : 0 ≤ i) (i1 : i < S9 3 0) (hc : 1 ≤ c) : see S9 i f = c := by
  rw [see_s hI.2.2.1 f i0 i1]
  exact lyr_put (by rw [ha 1 (by decide)]; exact sset_e S 1 _ _) (by omega)
theorem a_remove {i f : Int} (ha : agr S9 (st_remove S i f)) (hI : Inv S9) (i0 : 0 ≤ i) (i1 : i < S9 3 0) : see S9 i f = 0 := by
  rw [see_s hI.2.2.1 f i0 i1]
  exact lyr_neg (by rw [ha 1 (by decide)]; exact sset_e S 1 _ _)
theorem a_clear {i f : Int} (ha : agr S9 (st_clear S i (f / 4))) (hI : Inv S9) (i0 : 0 ≤ i) (i1 : i < S9 3 0) (f0 : 0 ≤ f) : see S9 i f = 0 := by
  rw [see_s hI.2.2.1 f i0 i1]
  refine lyr_opq ?_ ?_
  · rw [ha 1 (by decide)]
    unfold st_clear
    rw [sset_n _ _ _ (by decide)]
    unfold zz
    rw [if_pos ⟨rfl, by omega, by omega⟩]
  · unfold obit
    rw [ha 2 (by decide)]
    unfold st_clear
    rw [sset_e]
    exact bit_bset _ _
theorem a_writeFile {c f v : Int} (ha : agr S9 (st_writeFile S c f v)) (hv : 1 ≤ v) : csee S9 c f = v := lyr_put (by rw [ha 1 (by decide)]; exact sset_e S 1 _ _) (by omega)
theorem a_removeFile {c f : Int} (ha : agr S9 (st_removeFile S c f)) : csee S9 c f = 0 := lyr_neg (by rw [ha 1 (by decide)]; exact sset_e S 1 _ _)
/-- the layer of a new image is empty -/
theorem newImage_layer {p : Int} (h3 : S 3 0 ≤ 10) {f : Int} (f0 : 0 ≤ f) (f1 : f < 32) : st_newImage S p 1 (32 * S 3 0 + f) = 0 ∧ st_newImage S p 2 (S 3 0) = 0 := by
  unfold st_newImage
  rw [sset_n _ _ _ (by decide), sset_n _ _ _ (by decide)]
  unfold ez
  rw [if_neg (fun z => absurd z.1 (by decide)), if_pos ⟨rfl, by omega, by omega⟩, if_pos ⟨rfl, rfl⟩]
  exact ⟨rfl, rfl⟩
theorem enC_0 {a : Int} (h : ∀ f : Int, 0 ≤ f → f < 32 → S 1 (32 * a + f) = 0) : ∀ n : Nat, n ≤ 32 → enC S a n = 0 := by
  intro n
  induction n with
  | zero => intro _; rfl
  | succ n ih =>
    intro hn
    unfold enC
    rw [ih (by omega), h n (by omega) (by omega)]
    rfl
theorem enO_0 {a : Int} (h : S 2 a = 0) : ∀ n : Nat, enO S a n = 0 := by
  intro n
  induction n with
  | zero => rfl
  | succ n ih =>
    unfold enO
    rw [ih, h]
    unfold bit
    rw [Int.zero_ediv]
    rfl
theorem a_newImage_en {p l : Int} (ha : agr S9 (st_newImage S p)) (h3 : S 3 0 ≤ 10) (hl : l = lay S9 (S 3 0) - 1) : vl_entries S9 (S 3 0) l = 0 := by
  unfold vl_entries enA
  rw [show (lay S9 (S 3 0) - 1 - l).toNat = 0 by omega]
  show enC S9 (S 3 0) 32 + enO S9 (S 3 0) 8 = 0
  rw [enC_0 (fun f f0 f1 => by rw [ha 1 (by decide)]; exact (newImage_layer h3 f0 f1).1) 32 (by decide), enO_0 (by rw [ha 2 (by decide)]; exact (newImage_layer (S := S) (p := p) h3 (f := 0) (by decide) (by decide)).2) 8]
  rfl
theorem a_newImage_sh {p f : Int} (ha : agr S9 (st_newImage S p)) (hI : Inv S9) (h3 : 0 ≤ S 3 0 ∧ S 3 0 ≤ 10) (f0 : 0 ≤ f) (f1 : f < 32) : see S9 (S 3 0) f = see S9 p f := by
  have r := newImage_rows (S := S) (p := p)
  have e3 : S9 3 0 = S 3 0 + 1 := by rw [ha 3 (by decide), r.2.1, fset_e]
  have e4 : S9 4 (S 3 0) = p := by rw [ha 4 (by decide), r.2.2.1, fset_e]
  rw [see_s hI.2.2.1 f h3.1 (by omega), e4]
  exact lyr_thru (by rw [ha 1 (by decide)]; exact (newImage_layer h3.2 f0 f1).1) (by rw [ha 2 (by decide)]; exact (newImage_layer (S := S) (p := p) h3.2 f0 f1).2)
theorem bgn0_12 {i w p s : Int} {k : Nat} (hk : k = 1 ∨ k = 2) : bgn0 S i w p s k = S k := by
  unfold bgn0
  rw [sset_n _ _ _ (by omega), sset_n _ _ _ (by omega), sset_n _ _ _ (by omega), sset_n _ _ _ (by omega), sset_n _ _ _ (by omega), sset_n _ _ _ (by omega), sset_n _ _ _ (by omega), sset_n _ _ _ (by omega), sset_n _ _ _ (by omega), sset_n _ _ _ (by omega), sset_n _ _ _ (by omega)]
theorem bgn_1 {i w p s j : Int} : bgn S i w p s 1 j = if 32 * (10 + S 11 0) ≤ j ∧ j < 32 * (10 + S 11 0) + 32 then 0 else S 1 j := by
  unfold bgn
  rw [sset_n _ _ _ (by decide)]
  unfold ez
  rw [if_neg (fun z => absurd z.1 (by decide)), bgn0_12 (Or.inl rfl)]
  by_cases z : 32 * (10 + S 11 0) ≤ j ∧ j < 32 * (10 + S 11 0) + 32
  · rw [if_pos ⟨rfl, z⟩, if_pos z]
  · rw [if_neg (fun y => z y.2), if_neg z]
theorem bgn_2 {i w p s j : Int} : bgn S i w p s 2 j = if j = 10 + S 11 0 then 0 else S 2 j := by
  unfold bgn
  rw [sset_n _ _ _ (by decide)]
  unfold ez
  rw [bgn0_12 (Or.inr rfl)]
  by_cases z : j = 10 + S 11 0
  · rw [if_pos ⟨rfl, z⟩, if_pos z]
  · rw [if_neg (fun y => z y.2), if_neg (fun y => absurd y.1 (by decide)), if_neg z]
theorem a_run_f {i w p s f : Int} (ha : agr S9 (st_run S i w p s)) (f0 : 0 ≤ f) (f1 : f < 32) : csee S9 (S 11 0) f = see S9 i f := by
  have e12 : S9 12 (S 11 0) = i := by
    rw [ha 12 (by decide)]
    unfold st_run
    rw [bgn_row (v := i) (by omega), fset_e]
  unfold csee
  rw [e12]
  refine lyr_thru ?_ ?_
  · rw [ha 1 (by decide)]
    unfold st_run
    rw [bgn_1, if_pos (by omega)]
  · rw [ha 2 (by decide)]
    unfold st_run
    rw [bgn_2, if_pos rfl]
theorem a_run {i w p s : Int} (ha : agr S9 (st_run S i w p s)) : S9 11 0 = S 11 0 + 1 ∧ S9 19 (S 11 0) = 0 ∧ S9 14 (S 11 0) = 0 ∧ S9 22 (S 11 0) = 0 ∧ S9 21 (S 11 0) = -1 ∧ S9 16 (S 11 0) = p ∧ S9 17 (S 11 0) = p ∧ S9 3 0 = S 3 0 := by
  rw [ha 11 (by decide), ha 19 (by decide), ha 14 (by decide), ha 22 (by decide), ha 21 (by decide), ha 16 (by decide), ha 17 (by decide), ha 3 (by decide)]
  unfold st_run
  rw [bgn_11, bgn_row (r := 19) (v := 0) (by omega), bgn_row (r := 14) (v := 0) (by omega), bgn_row (r := 22) (v := 0) (by omega), bgn_row (r := 21) (v := -1) (by omega), bgn_row (r := 16) (v := p) (by omega), bgn_row (r := 17) (v := p) (by omega), bgn_e (k := 3) rfl, fset_e, fset_e, fset_e, fset_e, fset_e, fset_e, fset_e]
  exact ⟨rfl, rfl, rfl, rfl, rfl, rfl, rfl, rfl⟩
theorem a_commit_f {c f : Int} (ha : agr S9 (st_commit S c)) (hI : Inv S9) (h3 : 0 ≤ S 3 0 ∧ S 3 0 < 10) (c0 : 0 ≤ c) (f0 : 0 ≤ f) (f1 : f < 32) : see S9 (S 3 0) f = csee S9 c f := by
  have r := commit_rows (S := S) (c := c)
  have e3 : S9 3 0 = S 3 0 + 1 := by rw [ha 3 (by decide), r.2.1, fset_e]
  have e4 : S9 4 (S 3 0) = S9 12 c := by rw [ha 4 (by decide), ha 12 (by decide), r.2.2.1, fset_e, r.1 12 rfl]
  rw [see_s hI.2.2.1 f h3.1 (by omega), e4]
  unfold csee
  refine lyr_same ?_ ?_
  · rw [ha 1 (by decide)]
    unfold st_commit
    rw [sset_n _ _ _ (by decide)]
    unfold cz
    rw [if_neg (fun z => absurd z.1 (by decide)), if_pos ⟨rfl, by omega, by omega⟩, if_neg (fun z => absurd z.1 (by decide)), if_neg (by omega), sset_n _ _ _ (by decide), sset_n _ _ _ (by decide)]
    congr 1
    omega
  · rw [ha 2 (by decide)]
    unfold st_commit
    rw [sset_n _ _ _ (by decide)]
    unfold cz
    rw [if_pos ⟨rfl, rfl⟩, if_neg (by omega), if_neg (fun z => absurd z.1 (by decide))]
theorem a_commit {c : Int} (ha : agr S9 (st_commit S c)) : S9 3 0 = S 3 0 + 1 ∧ S9 11 0 = S 11 0 ∧ lay S9 (S 3 0) = lay S9 (S 3 0) := by
  have r := commit_rows (S := S) (c := c)
  rw [ha 3 (by decide), ha 11 (by decide), r.2.1, fset_e, r.1 11 rfl]
  exact ⟨rfl, rfl, rfl⟩
theorem enC_nn {a : Int} : ∀ n : Nat, 0 ≤ enC S a n ∧ enC S a n ≤ n := by
  intro n
  induction n with
  | zero => exact ⟨Int.le_refl 0, Int.le_refl 0⟩
  | succ n ih =>
    unfold enC
    split <;> omega
theorem enO_nn {a : Int} : ∀ n : Nat, 0 ≤ enO S a n ∧ enO S a n ≤ n := by
  intro n
  induction n with
  | zero => exact ⟨Int.le_refl 0, Int.le_refl 0⟩
  | succ n ih =>
    unfold enO
    have := bit_01 (S 2 a) n
    omega
theorem entries_nn {i l : Int} : 0 ≤ vl_entries S i l ∧ vl_entries S i l ≤ 40 := by
  unfold vl_entries
  have a := enC_nn (S := S) (a := enA S i l) 32
  have b := enO_nn (S := S) (a := enA S i l) 8
  omega
/-! saved, stopped, restored -/
theorem save_files {c : Int} (h23 : 0 ≤ S 23 0 ∧ S 23 0 < 5) (c0 : 0 ≤ c) (c1 : c < 20) {f : Int} (f0 : 0 ≤ f) (f1 : f < 32) : st_save S c 1 (32 * (30 + S 23 0) + f) = S 1 (32 * (10 + c) + f) ∧ st_save S c 1 (32 * (10 + c) + f) = S 1 (32 * (10 + c) + f) ∧ st_save S c 2 (30 + S 23 0) = S 2 (10 + c) ∧ st_save S c 2 (10 + c) = S 2 (10 + c) := by
  unfold st_save kps
  rw [sset_n _ _ _ (by decide), sset_n _ _ _ (by decide)]
  unfold cz
  rw [if_neg (fun z => absurd z.1 (by decide)), if_pos ⟨rfl, by omega, by omega⟩, if_neg (fun z => absurd z.1 (by decide)), if_neg (by omega), if_pos ⟨rfl, by omega⟩, if_neg (by omega), if_neg (fun z => absurd z.1 (by decide)), kps0_r (Or.inl (by decide)), kps0_r (Or.inl (by decide))]
  refine ⟨?_, rfl, rfl, rfl⟩
  congr 1
  omega
theorem restore_files {k w : Int} (h11 : 0 ≤ S 11 0 ∧ S 11 0 < 20) (k0 : 0 ≤ k) {f : Int} (f0 : 0 ≤ f) (f1 : f < 32) : st_restore S k w 1 (32 * (10 + S 11 0) + f) = S 1 (32 * (30 + k) + f) ∧ st_restore S k w 2 (10 + S 11 0) = S 2 (30 + k) ∧ ∀ c, 0 ≤ c → c < S 11 0 → st_restore S k w 1 (32 * (10 + c) + f) = S 1 (32 * (10 + c) + f) ∧ st_restore S k w 2 (10 + c) = S 2 (10 + c) := by
  unfold st_restore kps cz
  refine ⟨?_, ?_, fun c c0 c1 => ⟨?_, ?_⟩⟩
  · rw [if_neg (fun z => absurd z.1 (by decide)), if_pos ⟨rfl, by omega, by omega⟩, kps0_r (Or.inl (by decide)), bgn_1, if_neg (by omega)]
    congr 1
    omega
  · rw [if_pos ⟨rfl, rfl⟩, kps0_r (Or.inl (by decide)), bgn_2, if_neg (by omega)]
    congr 1
    omega
  · rw [if_neg (fun z => absurd z.1 (by decide)), if_neg (by omega), kps0_r (Or.inl (by decide)), bgn_1, if_neg (by omega)]
  · rw [if_neg (by omega), if_neg (fun z => absurd z.1 (by decide)), kps0_r (Or.inl (by decide)), bgn_2, if_neg (by omega)]
end AN
/-- what a save, a stop and a restore into the same group leave -/
theorem a_saves {S S1 S2 : gS} {c : Int} (hI : Inv S) (hX : InvX S) (hM : LM S) (hcd : cd_save S c = 0) (h1 : agr S1 (st_save S c)) (hI1 : Inv S1) (h2 : agr S2 (st_stop S1 c)) (hI2 : Inv S2) (hn : S 11 0 < 20) : cd_restore S2 (S 23 0) (S 20 c) = 0 := by
  have q := save_b hcd
  have h11 := hI.2.1.2.2.1
  have h23 := hI.2.1.2.2.2
  have q4 := (hI.2.2.2.2.1 c q.1 q.2.1).2.1
  obtain ⟨e, e23, es⟩ := save_rows (S := S) (c := c)
  have f11 : S1 11 0 = S 11 0 := by rw [h1 11 (by decide), e 11 rfl]
  have g11 : S2 11 0 = S 11 0 := by rw [h2 11 (by decide), show st_stop S1 c 11 = S1 11 from stp_k rfl, f11]
  have g23 : S2 23 0 = S 23 0 + 1 := by rw [h2 23 (by decide), show st_stop S1 c 23 = S1 23 from stp_k rfl, h1 23 (by decide), e23, fset_e]
  have f6 : S1 6 = S 6 := by rw [h1 6 (by decide), e 6 rfl]
  have g6 : S2 6 = S 6 := by rw [h2 6 (by decide), show st_stop S1 c 6 = S1 6 from stp_k rfl, f6]
  have f7 : S1 7 = S 7 := by rw [h1 7 (by decide), e 7 rfl]
  have g7 : S2 7 = S 7 := by rw [h2 7 (by decide), show st_stop S1 c 7 = S1 7 from stp_k rfl, f7]
  have g8 : S2 8 = S 8 := by rw [h2 8 (by decide), show st_stop S1 c 8 = S1 8 from stp_k rfl, h1 8 (by decide), e 8 rfl]
  have g9 : S2 9 = S 9 := by rw [h2 9 (by decide), show st_stop S1 c 9 = S1 9 from stp_k rfl, h1 9 (by decide), e 9 rfl]
  have f20 : S1 20 = S 20 := by rw [h1 20 (by decide), e 20 rfl]
  have f14 : ∀ a, a = 14 ∨ a = 15 → S1 a c = S a c ∧ S1 a (20 + S 23 0) = S a c := fun a ha => by
    rw [h1 a (by omega), es a (by omega) (by omega), fset_e, fset_o (S a) _ (by omega)]
    exact ⟨rfl, rfl⟩
  have g14 : S2 14 (20 + S 23 0) = S 14 c ∧ S2 15 (20 + S 23 0) = S 15 c := by
    rw [h2 14 (by decide), h2 15 (by decide)]
    have z := stp_n S1 (c := c) (j := 20 + S 23 0) (by omega)
    exact ⟨z.1.trans (f14 14 (Or.inl rfl)).2, z.2.1.trans (f14 15 (Or.inr rfl)).2⟩
  have hm1 : ∀ p, memI S1 p = memI S p ∧ prcI S1 p = prcI S p := fun p => by
    rw [memI_eq (h1 7 (by decide)) (h1 11 (by decide)) (h1 14 (by decide)) (h1 20 (by decide)), prcI_eq (h1 7 (by decide)) (h1 11 (by decide)) (h1 15 (by decide)) (h1 20 (by decide))]
    exact save_mem hI p
  have hm2 : ∀ p, memI S2 p = memI S p - (if bel S (S 20 c) p = 1 then S 14 c else 0) ∧ prcI S2 p = prcI S p - (if bel S (S 20 c) p = 1 then S 15 c else 0) := fun p => by
    have x := memI_eq (h2 7 (by decide)) (h2 11 (by decide)) (h2 14 (by decide)) (h2 20 (by decide)) p
    have y := prcI_eq (h2 7 (by decide)) (h2 11 (by decide)) (h2 15 (by decide)) (h2 20 (by decide)) p
    rw [x, y]
    show memI (stp S1 c) p = _ ∧ prcI (stp S1 c) p = _
    rw [memI_stp hI1 q.1 (by omega), prcI_stp hI1 q.1 (by omega), (hm1 p).1, (hm1 p).2, bel_congr f7, f20, (f14 14 (Or.inl rfl)).1, (f14 15 (Or.inr rfl)).1]
    exact ⟨rfl, rfl⟩
  have ht : tm S2 (S 20 c) (S2 14 (20 + S 23 0)) (S2 15 (20 + S 23 0)) = -1 := by
    rcases (by omega : tm S2 (S 20 c) (S2 14 (20 + S 23 0)) (S2 15 (20 + S 23 0)) = -1 ∨ tm S2 (S 20 c) (S2 14 (20 + S 23 0)) (S2 15 (20 + S 23 0)) ≠ -1) with z | z
    · exact z
    · exfalso
      have b := tm_bel hI2.2.2.1 hI2.2.1 (S2 14 (20 + S 23 0)) (S2 15 (20 + S 23 0)) (S 20 c + 1).toNat (S 20 c) (by omega) (by omega) (by rw [g6]; exact q4.2) z
      have r := tm_r hI2.2.2.1 hI2.2.1 (k := S 20 c) (S2 14 (20 + S 23 0)) (S2 15 (20 + S 23 0)) (by omega) (by rw [g6]; exact q4.2)
      generalize tm S2 (S 20 c) (S2 14 (20 + S 23 0)) (S2 15 (20 + S 23 0)) = p at *
      have x := hM p (by omega) (by omega)
      have y := hX.1 p (by omega) (by omega)
      have m := hm2 p
      rw [bel_congr g7] at b
      rw [if_pos b.1, if_pos b.1] at m
      rw [g8, g9, g14.1, g14.2] at b
      omega
  unfold cd_restore
  rw [g23, g6, g11]
  rw [if_neg (by omega), if_neg (by omega)]
theorem a_lay {S S1 S2 : gS} {c : Int} (hI : Inv S) (hcd : cd_save S c = 0) (h1 : agr S1 (st_save S c)) (h2 : agr S2 (st_stop S1 c)) : lay S (S 12 c) = lay S2 (S2 12 (20 + S 23 0)) := by
  obtain ⟨e, e23, es⟩ := save_rows (S := S) (c := c)
  have f4 : S1 4 = S 4 := by rw [h1 4 (by decide), e 4 rfl]
  have g4 : S2 4 = S 4 := by rw [h2 4 (by decide), show st_stop S1 c 4 = S1 4 from stp_k rfl, f4]
  have g12 : S2 12 = S1 12 := by rw [h2 12 (by decide), show st_stop S1 c 12 = S1 12 from stp_k rfl]
  rw [g12, h1 12 (by decide), es 12 (by decide) (by decide), fset_e, lay_congr g4]
theorem a_restored {S S1 S2 S3 : gS} {c : Int} (hI : Inv S) (hcd : cd_save S c = 0) (h1 : agr S1 (st_save S c)) (hI1 : Inv S1) (h2 : agr S2 (st_stop S1 c)) (hI2 : Inv S2) (h3 : agr S3 (st_restore S2 (S 23 0) (S 20 c))) (hI3 : Inv S3) (hn : S 11 0 < 20) : S3 11 0 = S 11 0 + 1 ∧ S3 6 0 = S 6 0 ∧ S3 19 (S 11 0) = 0 ∧ S3 14 (S 11 0) = S 14 c ∧ prcI S3 (S 20 c) = prcI S (S 20 c) ∧ S3 21 (S 11 0) = -1 ∧ (S3 16 (S 11 0) = S3 16 c ∧ S3 17 (S 11 0) = S3 17 c) ∧ (∀ f, 0 ≤ f → f < 32 → csee S3 (S 11 0) f = csee S3 c f) ∧ lay S (S 12 c) = lay S2 (S2 12 (20 + S 23 0)) ∧ S2 11 0 = S 11 0 ∧ S1 11 0 = S 11 0 ∧ S1 14 c = S 14 c ∧ S1 19 c = 1 ∧ S1 20 c = S 20 c ∧ S2 20 c = S 20 c := by
  have q := save_b hcd
  have h11 := hI.2.1.2.2.1
  have h23 := hI.2.1.2.2.2
  have q4 := (hI.2.2.2.2.1 c q.1 q.2.1).2.1
  obtain ⟨e, e23, es⟩ := save_rows (S := S) (c := c)
  have f11 : S1 11 0 = S 11 0 := by rw [h1 11 (by decide), e 11 rfl]
  have g11 : S2 11 0 = S 11 0 := by rw [h2 11 (by decide), show st_stop S1 c 11 = S1 11 from stp_k rfl, f11]
  have f7 : S1 7 = S 7 := by rw [h1 7 (by decide), e 7 rfl]
  have g7 : S2 7 = S 7 := by rw [h2 7 (by decide), show st_stop S1 c 7 = S1 7 from stp_k rfl, f7]
  have f20 : S1 20 = S 20 := by rw [h1 20 (by decide), e 20 rfl]
  have g20 : S2 20 = S 20 := by rw [h2 20 (by decide), show st_stop S1 c 20 = S1 20 from stp_k rfl, f20]
  have f4 : S1 4 = S 4 := by rw [h1 4 (by decide), e 4 rfl]
  have g4 : S2 4 = S 4 := by rw [h2 4 (by decide), show st_stop S1 c 4 = S1 4 from stp_k rfl, f4]
  have fa : ∀ a, 12 ≤ a → a ≤ 18 → S1 a c = S a c ∧ S1 a (20 + S 23 0) = S a c := fun a a0 a1 => by
    rw [h1 a (by omega), es a a0 a1, fset_e, fset_o (S a) _ (by omega)]
    exact ⟨rfl, rfl⟩
  have z := stp_n S1 (c := c) (j := 20 + S 23 0) (by omega)
  have g14 : S2 14 (20 + S 23 0) = S 14 c ∧ S2 15 (20 + S 23 0) = S 15 c := by
    rw [h2 14 (by decide), h2 15 (by decide)]
    exact ⟨z.1.trans (fa 14 (by decide) (by decide)).2, z.2.1.trans (fa 15 (by decide) (by decide)).2⟩
  have gk : ∀ a, a = 12 ∨ a = 16 ∨ a = 17 → S2 a = S1 a := fun a ha => by
    rw [h2 a (by omega)]
    exact stp_row (by omega) (by omega) (by omega) (by omega) (by omega) (by omega)
  obtain ⟨r, r11, rs, r19, r20, r21⟩ := restore_rows (S := S2) (k := S 23 0) (w := S 20 c) (by omega) h23.1
  have i7 : S3 7 = S 7 := by rw [h3 7 (by decide), r 7 rfl, g7]
  have i11 : S3 11 0 = S2 11 0 + 1 := by rw [h3 11 (by decide), r11, fset_e]
  have i14 : ∀ a, 12 ≤ a → a ≤ 18 → S3 a = fset (S2 a) (S2 11 0) (S2 a (20 + S 23 0)) := fun a a0 a1 => by rw [h3 a (by omega), rs a a0 a1]
  have i20 : S3 20 = fset (S2 20) (S2 11 0) (S 20 c) := by rw [h3 20 (by decide), r20]
  have hmc := mem_cont (S := S2) (T := S3) (n := S2 11 0) (w := S 20 c) rfl (by omega) (by rw [i7, g7]) i11 i20 (i14 14 (by decide) (by decide)) (i14 15 (by decide) (by decide)) (S 20 c)
  have hm2 : prcI S2 (S 20 c) = prcI S (S 20 c) - S 15 c := by
    have y := prcI_eq (h2 7 (by decide)) (h2 11 (by decide)) (h2 15 (by decide)) (h2 20 (by decide)) (S 20 c)
    have x : prcI S1 (S 20 c) = prcI S (S 20 c) := (prcI_eq (h1 7 (by decide)) (h1 11 (by decide)) (h1 15 (by decide)) (h1 20 (by decide)) (S 20 c)).trans (save_mem hI (S 20 c)).2
    rw [y]
    show prcI (stp S1 c) (S 20 c) = _
    rw [prcI_stp hI1 q.1 (by omega), x, f20, bel_eq, if_pos rfl, (fa 15 (by decide) (by decide)).1]
  rw [bel_eq, if_pos rfl, g14.2] at hmc
  refine ⟨by rw [i11, g11], ?_, ?_, ?_, by rw [hmc.2, hm2]; omega, ?_, ⟨?_, ?_⟩, fun f f0 f1 => ?_, ?_, g11, f11, (fa 14 (by decide) (by decide)).1, ?_, congrFun f20 c, congrFun g20 c⟩
  · rw [h3 6 (by decide), r 6 rfl, h2 6 (by decide), show st_stop S1 c 6 = S1 6 from stp_k rfl, h1 6 (by decide), e 6 rfl]
  · rw [h3 19 (by decide), r19, g11, fset_e]
  · rw [i14 14 (by decide) (by decide), g11, fset_e, g14.1]
  · rw [h3 21 (by decide), r21, g11, fset_e]
  · rw [i14 16 (by decide) (by decide), g11, fset_e, fset_o _ _ (by omega), gk 16 (by omega), (fa 16 (by decide) (by decide)).1, (fa 16 (by decide) (by decide)).2]
  · rw [i14 17 (by decide) (by decide), g11, fset_e, fset_o _ _ (by omega), gk 17 (by omega), (fa 17 (by decide) (by decide)).1, (fa 17 (by decide) (by decide)).2]
  · have w := restore_files (S := S2) (k := S 23 0) (w := S 20 c) (by omega) h23.1 f0 f1
    have y := save_files (S := S) (c := c) (by omega) q.1 (by omega) f0 f1
    have k1 : S2 1 = S1 1 := by rw [h2 1 (by decide)]; exact stp_row (by decide) (by decide) (by decide) (by decide) (by decide) (by decide)
    have k2 : S2 2 = S1 2 := by rw [h2 2 (by decide)]; exact stp_row (by decide) (by decide) (by decide) (by decide) (by decide) (by decide)
    have wc := w.2.2 c q.1 (by omega)
    have e12 : S3 12 (S 11 0) = S3 12 c := by rw [i14 12 (by decide) (by decide), g11, fset_e, fset_o _ _ (by omega), gk 12 (by omega), (fa 12 (by decide) (by decide)).1, (fa 12 (by decide) (by decide)).2]
    unfold csee
    rw [e12]
    refine lyr_same ?_ ?_
    · rw [h3 1 (by decide), ← g11, w.1, wc.1, k1, h1 1 (by decide), y.1, y.2.1]
    · rw [h3 2 (by decide), ← g11, w.2.1, wc.2, k2, h1 2 (by decide), y.2.2.1, y.2.2.2]
  · rw [gk 12 (by omega), (fa 12 (by decide) (by decide)).2, lay_congr g4]
  · rw [h1 19 (by decide), e 19 rfl]
    exact q.2.2.1
/-! addresses -/
theorem aaN_u {S : gS} {x : Int} {c : Int} (c0 : 0 ≤ c) (hc : S 21 c = x) : ∀ n : Nat, (∀ d : Int, 0 ≤ d → d < (n : Int) → d ≠ c → S 21 d ≠ x) → aaN S x n = if c < n then c else -1 := by
  intro n
  induction n with
  | zero => intro _; rw [if_neg (by omega)]; rfl
  | succ n ih =>
    intro h
    unfold aaN
    by_cases z : (n : Int) = c
    · rw [z, if_pos hc, if_pos (by omega)]
    · rw [if_neg (h n (by omega) (by omega) z), ih (fun d d0 d1 => h d d0 (by omega))]
      by_cases y : c < n
      · rw [if_pos y, if_pos (by omega)]
      · rw [if_neg y, if_neg (by omega)]
theorem cnr_own {S : gS} (hX : InvX S) (hI : Inv S) {c : Int} (c0 : 0 ≤ c) (c1 : c < S 11 0) (h : S 21 c ≠ -1) : cnr S c (S 21 c % 10) = c := by
  have h11 := hI.2.1.2.2.1
  have q := (hI.2.2.2.2.1 c c0 c1).2.2.1
  unfold cnr aat
  rw [show 10 * (S 21 c / 10) + S 21 c % 10 = S 21 c by omega, aaN_u c0 rfl (S 11 0).toNat (fun d d0 d1 d2 => fun z => hX.2.1 c d c0 c1 d0 (by omega) (Ne.symm d2) h z.symm), if_pos (by omega)]
/-! bits of a container's capabilities as the law reads them -/
theorem cap15_d : ∀ a, a < 16 → ∀ b, b < 16 → iI (16 * ((a : Nat) : Int) + ((b : Nat) : Int)) &&& iI 15 = iI ((b : Nat) : Int) := by decide +kernel
theorem capD_d : ∀ a, a < 16 → ∀ b, b < 16 → ∀ k, k < 4 → iI (16 * ((a : Nat) : Int) + ((b : Nat) : Int)) &&& (iI 17 <<< (iI ((k : Nat) : Int) &&& 31) ^^^ iI (-1)) = iI (16 * bclr ((a : Nat) : Int) ((k : Nat) : Int) + bclr ((b : Nat) : Int) ((k : Nat) : Int)) := by decide +kernel
theorem capS_d : ∀ a, a < 16 → ∀ b, b < 16 → ((b % 2 = 1 → a % 2 = 1) ∧ (b / 2 % 2 = 1 → a / 2 % 2 = 1) ∧ (b / 4 % 2 = 1 → a / 4 % 2 = 1) ∧ (b / 8 % 2 = 1 → a / 8 % 2 = 1)) → iI ((b : Nat) : Int) &&& iI (-1 - ((a : Nat) : Int)) = iI 0 := by decide +kernel
section CA
variable {a b k : Int}
theorem cap15 (a0 : 0 ≤ a) (a1 : a ≤ 15) (b0 : 0 ≤ b) (b1 : b ≤ 15) : iI (16 * a + b) &&& iI 15 = iI b := by
  have h := cap15_d a.toNat (by omega) b.toNat (by omega)
  rw [Int.toNat_of_nonneg a0, Int.toNat_of_nonneg b0] at h
  exact h
theorem capD (a0 : 0 ≤ a) (a1 : a ≤ 15) (b0 : 0 ≤ b) (b1 : b ≤ 15) (k0 : 0 ≤ k) (k1 : k < 4) : iI (16 * a + b) &&& (iI 17 <<< (iI k &&& 31) ^^^ iI (-1)) = iI (16 * bclr a k + bclr b k) := by
  have h := capD_d a.toNat (by omega) b.toNat (by omega) k.toNat (by omega)
  rw [Int.toNat_of_nonneg a0, Int.toNat_of_nonneg b0, Int.toNat_of_nonneg k0] at h
  exact h
theorem capS (a0 : 0 ≤ a) (a1 : a ≤ 15) (b0 : 0 ≤ b) (b1 : b ≤ 15) (hs : subC a b) : iI b &&& iI (-1 - a) = iI 0 := by
  unfold subC at hs
  have h := capS_d a.toNat (by omega) b.toNat (by omega) (by omega)
  rw [Int.toNat_of_nonneg a0, Int.toNat_of_nonneg b0] at h
  exact h
/-- one bit of the 8 is lowered, one asked for -/
theorem capL (a0 : 0 ≤ a) (a1 : a ≤ 15) (b0 : 0 ≤ b) (b1 : b ≤ 15) (k0 : 0 ≤ k) (k1 : k < 4) : bclr (16 * a + b) k = 16 * a + bclr b k := by
  rcases j4 k0 k1 with e | e | e | e
  · rw [e, bclrk0, bclrk0]; omega
  · rw [e, bclrk1, bclrk1]; omega
  · rw [e, bclrk2, bclrk2]; omega
  · rw [e, bclrk3, bclrk3]; omega
theorem capP (a0 : 0 ≤ a) (a1 : a ≤ 15) (b0 : 0 ≤ b) (b1 : b ≤ 15) (k0 : 0 ≤ k) (k1 : k < 4) : (16 * a + b) / 2 ^ (4 + k).toNat % 2 = bit a k := by
  rcases j4 k0 k1 with e | e | e | e
  · rw [e, bitk0, show (2 : Int) ^ (4 + 0 : Int).toNat = 16 from by decide]; omega
  · rw [e, bitk1, show (2 : Int) ^ (4 + 1 : Int).toNat = 32 from by decide]; omega
  · rw [e, bitk2, show (2 : Int) ^ (4 + 2 : Int).toNat = 64 from by decide]; omega
  · rw [e, bitk3, show (2 : Int) ^ (4 + 3 : Int).toNat = 128 from by decide]; omega
theorem capH (a0 : 0 ≤ a) (b0 : 0 ≤ b) (b1 : b ≤ 15) : (16 * a + b) / 2 ^ (4 : Int).toNat = a := by
  rw [show (2 : Int) ^ (4 : Int).toNat = 16 from by decide]; omega
end CA
