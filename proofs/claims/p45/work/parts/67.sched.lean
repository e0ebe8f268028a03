/-- the class's grid with row 32 as the reference's row 26 -/
def rg (T : gS) : gS := fun k j => if k = 26 then T 32 j else T k j
theorem rg_r (T : gS) {k : Nat} (h : k ≠ 26) : rg T k = T k := by
  funext j
  exact if_neg h
theorem rg_26 (T : gS) (j : Int) : rg T 26 j = T 32 j := if_pos rfl
theorem rg_I {T : gS} (hI : Inv T) (hR : ExR T) : Inv (rg T) := Inv_sEq hI (fun k j hk => by
  by_cases z : k = 26
  · subst z; rw [rg_26]; exact hR 32 j (by omega)
  · rw [rg_r T z]; exact hI.1 k j hk) (fun k a b c => rg_r T b)
/-- the state of sharing out: after i parts -/
def pS (B R : gS) (g i : Int) : gS := fun k j => if k = 22 ∧ 0 ≤ j ∧ j < 20 ∧ isp R (j + 8) g = 1 ∧ (cn2 R g (j + 8).toNat : Int) < i then B 22 j + its1 R g (j + 8) else if k = 32 ∧ 0 ≤ j ∧ j < 8 ∧ isp R j g = 1 ∧ (cn2 R g j.toNat : Int) < i then B 32 j + its1 R g j else if k = 35 ∧ 0 ≤ j ∧ j < i then r0 R g (B 44 j) else B k j
theorem pS_0 (B R : gS) (g : Int) : pS B R g 0 = B := by
  funext k j
  unfold pS
  rw [if_neg (by omega), if_neg (by omega), if_neg (by omega)]
theorem pS_r {B R : gS} {g i : Int} {k : Nat} (h : k ≠ 22) (h2 : k ≠ 32) (h3 : k ≠ 35) : pS B R g i k = B k := by
  funext j
  unfold pS
  rw [if_neg (fun z => h z.1), if_neg (fun z => h2 z.1), if_neg (fun z => h3 z.1)]
theorem ite_iff {c d : Prop} [Decidable c] [Decidable d] {a b : Int} (h : c ↔ d) : (if c then a else b) = if d then a else b := by
  by_cases hc : c
  · rw [if_pos hc, if_pos (h.mp hc)]
  · rw [if_neg hc, if_neg (fun z => hc (h.mpr z))]
theorem pS_22 (B R : gS) (g i j : Int) : pS B R g i 22 j = if 0 ≤ j ∧ j < 20 ∧ isp R (j + 8) g = 1 ∧ (cn2 R g (j + 8).toNat : Int) < i then B 22 j + its1 R g (j + 8) else B 22 j := by
  unfold pS
  by_cases h : 0 ≤ j ∧ j < 20 ∧ isp R (j + 8) g = 1 ∧ (cn2 R g (j + 8).toNat : Int) < i <;> simp [h]
theorem pS_32 (B R : gS) (g i j : Int) : pS B R g i 32 j = if 0 ≤ j ∧ j < 8 ∧ isp R j g = 1 ∧ (cn2 R g j.toNat : Int) < i then B 32 j + its1 R g j else B 32 j := by
  unfold pS
  by_cases h : 0 ≤ j ∧ j < 8 ∧ isp R j g = 1 ∧ (cn2 R g j.toNat : Int) < i <;> simp [h]
theorem pS_35 (B R : gS) (g i j : Int) : pS B R g i 35 j = if 0 ≤ j ∧ j < i then r0 R g (B 44 j) else B 35 j := by
  unfold pS
  by_cases h : 0 ≤ j ∧ j < i <;> simp [h]
theorem pS_s {B R : gS} {g i p : Int} (h0 : 0 ≤ i) (hp : B 44 i = p) (hi : isp R p g = 1) (p0 : 0 ≤ p) (p1 : p < 28) (hc : (cn2 R g p.toNat : Int) = i) : gvS (sset (pS B R g i) 35 i (rem1 R g p)) p (its1 R g p) = pS B R g (i + 1) := by
  have hr : r0 R g p = rem1 R g p := if_pos hi
  have inj : ∀ q : Int, 0 ≤ q → isp R q g = 1 → (cn2 R g q.toNat : Int) = i → q = p := fun q q0 qi qc => by
    have := cn2_inj R g (a := q.toNat) (b := p.toNat) (by rw [Int.toNat_of_nonneg q0]; exact qi) (by rw [Int.toNat_of_nonneg p0]; exact hi) (by omega)
    omega
  have o : ∀ k, k ≠ 35 → sset (pS B R g i) 35 i (rem1 R g p) k = pS B R g i k := fun k hk => sset_n _ _ _ hk
  have e32 : p < 8 → gvS (sset (pS B R g i) 35 i (rem1 R g p)) p (its1 R g p) = sset (sset (pS B R g i) 35 i (rem1 R g p)) 32 p (pS B R g i 32 p + its1 R g p) := fun h => by
    unfold gvS
    rw [if_pos h, o 32 (by decide)]
  have e22 : ¬ p < 8 → gvS (sset (pS B R g i) 35 i (rem1 R g p)) p (its1 R g p) = sset (sset (pS B R g i) 35 i (rem1 R g p)) 22 (p - 8) (pS B R g i 22 (p - 8) + its1 R g p) := fun h => by
    unfold gvS
    rw [if_neg h, o 22 (by decide)]
  funext k j
  by_cases k35 : k = 35
  · subst k35
    have e : gvS (sset (pS B R g i) 35 i (rem1 R g p)) p (its1 R g p) 35 j = sset (pS B R g i) 35 i (rem1 R g p) 35 j := by
      by_cases h : p < 8
      · rw [e32 h, sset_n _ _ _ (by decide)]
      · rw [e22 h, sset_n _ _ _ (by decide)]
    rw [e, pS_35]
    show (if 35 = 35 ∧ j = i then rem1 R g p else pS B R g i 35 j) = _
    by_cases z : j = i
    · have y : 0 ≤ j ∧ j < i + 1 := by omega
      rw [if_pos ⟨rfl, z⟩, if_pos y, z, hp, hr]
    · rw [if_neg (fun w => z w.2), pS_35]
      exact ite_iff ⟨fun w => ⟨w.1, by omega⟩, fun w => ⟨w.1, by omega⟩⟩
  · by_cases k22 : k = 22
    · subst k22
      rw [pS_22]
      by_cases h : p < 8
      · rw [e32 h, sset_n _ _ _ (by decide), o 22 (by decide), pS_22]
        exact ite_iff ⟨fun w => ⟨w.1, w.2.1, w.2.2.1, by omega⟩, fun w => ⟨w.1, w.2.1, w.2.2.1, by
          have := inj (j + 8) (by omega) w.2.2.1
          omega⟩⟩
      · rw [e22 h]
        show (if 22 = 22 ∧ j = p - 8 then pS B R g i 22 (p - 8) + its1 R g p else sset (pS B R g i) 35 i (rem1 R g p) 22 j) = _
        by_cases z : j = p - 8
        · subst z
          have y : 0 ≤ p - 8 ∧ p - 8 < 20 ∧ isp R (p - 8 + 8) g = 1 ∧ (cn2 R g (p - 8 + 8).toNat : Int) < i + 1 := by
            rw [show p - 8 + 8 = p by omega]
            exact ⟨by omega, by omega, hi, by omega⟩
          have n : ¬ (0 ≤ p - 8 ∧ p - 8 < 20 ∧ isp R (p - 8 + 8) g = 1 ∧ (cn2 R g (p - 8 + 8).toNat : Int) < i) := fun w => by
            rw [show p - 8 + 8 = p by omega] at w
            omega
          rw [if_pos ⟨rfl, rfl⟩, if_pos y, pS_22, if_neg n, show p - 8 + 8 = p by omega]
        · rw [if_neg (fun w => z w.2), o 22 (by decide), pS_22]
          exact ite_iff ⟨fun w => ⟨w.1, w.2.1, w.2.2.1, by omega⟩, fun w => ⟨w.1, w.2.1, w.2.2.1, by
            have := inj (j + 8) (by omega) w.2.2.1
            omega⟩⟩
    · by_cases k32 : k = 32
      · subst k32
        rw [pS_32]
        by_cases h : p < 8
        · rw [e32 h]
          show (if 32 = 32 ∧ j = p then pS B R g i 32 p + its1 R g p else sset (pS B R g i) 35 i (rem1 R g p) 32 j) = _
          by_cases z : j = p
          · subst z
            have y : 0 ≤ j ∧ j < 8 ∧ isp R j g = 1 ∧ (cn2 R g j.toNat : Int) < i + 1 := ⟨p0, h, hi, by omega⟩
            have n : ¬ (0 ≤ j ∧ j < 8 ∧ isp R j g = 1 ∧ (cn2 R g j.toNat : Int) < i) := fun w => by omega
            rw [if_pos ⟨rfl, rfl⟩, if_pos y, pS_32, if_neg n]
          · rw [if_neg (fun w => z w.2), o 32 (by decide), pS_32]
            exact ite_iff ⟨fun w => ⟨w.1, w.2.1, w.2.2.1, by omega⟩, fun w => ⟨w.1, w.2.1, w.2.2.1, by
              have := inj j w.1 w.2.2.1
              omega⟩⟩
        · rw [e22 h, sset_n _ _ _ (by decide), o 32 (by decide), pS_32]
          exact ite_iff ⟨fun w => ⟨w.1, w.2.1, w.2.2.1, by omega⟩, fun w => ⟨w.1, w.2.1, w.2.2.1, by
            have := inj j w.1 w.2.2.1
            omega⟩⟩
      · rw [pS_r k22 k32 k35]
        by_cases h : p < 8
        · rw [e32 h, sset_n _ _ _ k32, o k k35, pS_r k22 k32 k35]
        · rw [e22 h, sset_n _ _ _ k22, o k k35, pS_r k22 k32 k35]
/-- the state of granting what is left: after m rounds; np parts -/
def xS (C : gS) (r : Int → Int) (np : Int) (m : Nat) : gS := fun k j => if k = 22 ∧ 0 ≤ j ∧ j < 20 then C 22 j + exN r m (j + 8) else if k = 32 ∧ 0 ≤ j ∧ j < 8 then C 32 j + exN r m j else if k = 35 ∧ 0 ≤ j ∧ j < np then rN r m (C 44 j) else C k j
theorem xS_r {C : gS} {r : Int → Int} {np : Int} {m k : Nat} (h : k ≠ 22) (h2 : k ≠ 32) (h3 : k ≠ 35) : xS C r np m k = C k := by
  funext j
  unfold xS
  rw [if_neg (fun z => h z.1), if_neg (fun z => h2 z.1), if_neg (fun z => h3 z.1)]
theorem xS_0 {C : gS} {r : Int → Int} {np : Int} (h : ∀ j, 0 ≤ j → j < np → C 35 j = r (C 44 j)) : xS C r np 0 = C := by
  funext k j
  unfold xS
  by_cases a : k = 22 ∧ 0 ≤ j ∧ j < 20
  · rw [if_pos a, a.1]; unfold exN; omega
  · rw [if_neg a]
    by_cases b : k = 32 ∧ 0 ≤ j ∧ j < 8
    · rw [if_pos b, b.1]; unfold exN; omega
    · rw [if_neg b]
      by_cases c : k = 35 ∧ 0 ≤ j ∧ j < np
      · rw [if_pos c, c.1, h j c.2.1 c.2.2]; rfl
      · rw [if_neg c]
theorem xS_22 (C : gS) (r : Int → Int) (np : Int) (m : Nat) (j : Int) : xS C r np m 22 j = if 0 ≤ j ∧ j < 20 then C 22 j + exN r m (j + 8) else C 22 j := by
  unfold xS
  by_cases h : 0 ≤ j ∧ j < 20 <;> simp [h]
theorem xS_32 (C : gS) (r : Int → Int) (np : Int) (m : Nat) (j : Int) : xS C r np m 32 j = if 0 ≤ j ∧ j < 8 then C 32 j + exN r m j else C 32 j := by
  unfold xS
  by_cases h : 0 ≤ j ∧ j < 8 <;> simp [h]
theorem xS_35 (C : gS) (r : Int → Int) (np : Int) (m : Nat) (j : Int) : xS C r np m 35 j = if 0 ≤ j ∧ j < np then rN r m (C 44 j) else C 35 j := by
  unfold xS
  by_cases h : 0 ≤ j ∧ j < np <;> simp [h]
theorem xS_s {C : gS} {r : Int → Int} {np i : Int} {m : Nat} (h0 : 0 ≤ i) (h1 : i < np) (hp : C 44 i = pk r m) (p0 : 0 ≤ pk r m) (p1 : pk r m < 28) (inj : ∀ j, 0 ≤ j → j < np → C 44 j = pk r m → j = i) : sset (gvS (xS C r np m) (pk r m) 1) 35 i (-1) = xS C r np (m + 1) := by
  have hx : ∀ p, exN r (m + 1) p = exN r m p + if p = pk r m then 1 else 0 := fun p => rfl
  have hrn : ∀ p, rN r (m + 1) p = if p = pk r m then -1 else rN r m p := fun p => rfl
  have e32 : pk r m < 8 → gvS (xS C r np m) (pk r m) 1 = sset (xS C r np m) 32 (pk r m) (xS C r np m 32 (pk r m) + 1) := fun h => if_pos h
  have e22 : ¬ pk r m < 8 → gvS (xS C r np m) (pk r m) 1 = sset (xS C r np m) 22 (pk r m - 8) (xS C r np m 22 (pk r m - 8) + 1) := fun h => if_neg h
  funext k j
  by_cases k35 : k = 35
  · subst k35
    show (if 35 = 35 ∧ j = i then (-1 : Int) else gvS (xS C r np m) (pk r m) 1 35 j) = _
    have e : gvS (xS C r np m) (pk r m) 1 35 j = xS C r np m 35 j := by
      by_cases h : pk r m < 8
      · rw [e32 h, sset_n _ _ _ (by decide)]
      · rw [e22 h, sset_n _ _ _ (by decide)]
    rw [e, xS_35, xS_35]
    by_cases z : j = i
    · have y : 0 ≤ j ∧ j < np := by omega
      rw [if_pos ⟨rfl, z⟩, if_pos y, hrn, z, hp, if_pos rfl]
    · rw [if_neg (fun w => z w.2)]
      by_cases y : 0 ≤ j ∧ j < np
      · have n : ¬ C 44 j = pk r m := fun w => z (inj j y.1 y.2 w)
        rw [if_pos y, if_pos y, hrn, if_neg n]
      · rw [if_neg y, if_neg y]
  · rw [sset_n _ _ _ k35]
    by_cases k22 : k = 22
    · subst k22
      rw [xS_22]
      by_cases h : pk r m < 8
      · rw [e32 h, sset_n _ _ _ (by decide), xS_22]
        by_cases y : 0 ≤ j ∧ j < 20
        · have n : ¬ j + 8 = pk r m := by omega
          rw [if_pos y, if_pos y, hx, if_neg n, Int.add_zero]
        · rw [if_neg y, if_neg y]
      · rw [e22 h]
        show (if 22 = 22 ∧ j = pk r m - 8 then xS C r np m 22 (pk r m - 8) + 1 else xS C r np m 22 j) = _
        by_cases z : j = pk r m - 8
        · have y : 0 ≤ j ∧ j < 20 := by omega
          have n : j + 8 = pk r m := by omega
          rw [if_pos ⟨rfl, z⟩, ← z, xS_22, if_pos y, if_pos y, hx, if_pos n]
          omega
        · rw [if_neg (fun w => z w.2), xS_22]
          by_cases y : 0 ≤ j ∧ j < 20
          · have n : ¬ j + 8 = pk r m := by omega
            rw [if_pos y, if_pos y, hx, if_neg n, Int.add_zero]
          · rw [if_neg y, if_neg y]
    · by_cases k32 : k = 32
      · subst k32
        rw [xS_32]
        by_cases h : pk r m < 8
        · rw [e32 h]
          show (if 32 = 32 ∧ j = pk r m then xS C r np m 32 (pk r m) + 1 else xS C r np m 32 j) = _
          by_cases z : j = pk r m
          · have y : 0 ≤ j ∧ j < 8 := by omega
            rw [if_pos ⟨rfl, z⟩, ← z, xS_32, if_pos y, if_pos y, hx, if_pos z]
            omega
          · rw [if_neg (fun w => z w.2), xS_32]
            by_cases y : 0 ≤ j ∧ j < 8
            · rw [if_pos y, if_pos y, hx, if_neg z, Int.add_zero]
            · rw [if_neg y, if_neg y]
        · rw [e22 h, sset_n _ _ _ (by decide), xS_32]
          by_cases y : 0 ≤ j ∧ j < 8
          · have n : ¬ j = pk r m := by omega
            rw [if_pos y, if_pos y, hx, if_neg n, Int.add_zero]
          · rw [if_neg y, if_neg y]
      · rw [xS_r k22 k32 k35]
        by_cases h : pk r m < 8
        · rw [e32 h, sset_n _ _ _ k32, xS_r k22 k32 k35]
        · rw [e22 h, sset_n _ _ _ k22, xS_r k22 k32 k35]
/-- the parts' list over R: what stands in row 44 -/
def ptO (R U : gS) (g : Int) : Prop := U 43 0 = cn2 R g 28 ∧ ∀ p : Nat, p < 28 → isp R p g = 1 → U 44 (cn2 R g p) = p
theorem ptO.at {R U : gS} {g : Int} (h : ptO R U g) {j : Int} (h0 : 0 ≤ j) (h1 : j < U 43 0) : 0 ≤ U 44 j ∧ U 44 j < 28 ∧ isp R (U 44 j) g = 1 ∧ (cn2 R g (U 44 j).toNat : Int) = j := by
  rw [h.1] at h1
  obtain ⟨p, p1, p2, p3⟩ := cn2_inv R g (j := j.toNat) 28 (by omega)
  have e := h.2 p p1 p2
  rw [p3, Int.toNat_of_nonneg h0] at e
  rw [e]
  exact ⟨by omega, by omega, p2, by rw [Int.toNat_natCast]; omega⟩
/-- the class picks the same part as the reference -/
theorem pick {R U : gS} {g : Int} (hI : Inv R) (hg : 0 ≤ g) (hu : 0 ≤ R 26 g) (hO : ptO R U g) {m : Nat} (hm : m < cn2 R g 28) (h35 : ∀ j, 0 ≤ j → j < U 43 0 → U 35 j = rN (r0 R g) m (U 44 j)) : 0 ≤ cgN (U 35) (U 43 0).toNat ∧ cgN (U 35) (U 43 0).toNat < U 43 0 ∧ U 44 (cgN (U 35) (U 43 0).toNat) = pk (r0 R g) m := by
  have hnp : (U 43 0).toNat = cn2 R g 28 := by have := hO.1; omega
  have hb := bstN_b (rN (r0 R g) m) 27
  have hpi := pk_isp hI hg hu hm
  have hpv := (pk_ok (nnN_r0 hI hg hu 28 (Nat.le_refl _)) m (by omega)).2 hm
  have p0 : 0 ≤ pk (r0 R g) m := hb.1
  have p27 : pk (r0 R g) m ≤ 27 := hb.2
  have hmx := cgN_max (U 35) (U 43 0).toNat
  have hcb := cgN_b (U 35) (U 43 0).toNat
  -- the place of the reference's pick
  have hst : U 44 (cn2 R g (pk (r0 R g) m).toNat) = pk (r0 R g) m := by
    have := hO.2 (pk (r0 R g) m).toNat (by omega) (by rw [Int.toNat_of_nonneg p0]; exact hpi)
    rw [this, Int.toNat_of_nonneg p0]
  have hlt : cn2 R g (pk (r0 R g) m).toNat < cn2 R g 28 := cn2_lt R g (by omega) (by rw [Int.toNat_of_nonneg p0]; exact hpi)
  have hv : U 35 (cn2 R g (pk (r0 R g) m).toNat) = rN (r0 R g) m (pk (r0 R g) m) := by
    rw [h35 _ (by omega) (by omega), hst]
  have hne : cgN (U 35) (U 43 0).toNat ≠ -1 := fun z => by
    have := hmx.1 z (cn2 R g (pk (r0 R g) m).toNat) (by omega)
    omega
  have hy := hmx.2 hne
  have hq := hO.at (j := cgN (U 35) (U 43 0).toNat) (by omega) (by omega)
  have hvq := h35 (cgN (U 35) (U 43 0).toNat) (by omega) (by omega)
  have hbm := bstN_max (rN (r0 R g) m) 27 (U 44 (cgN (U 35) (U 43 0).toNat)) hq.1 (by omega)
  have hz := hy.2 (cn2 R g (pk (r0 R g) m).toNat) (by omega)
  refine ⟨by omega, by omega, ?_⟩
  rcases (by omega : (cn2 R g (pk (r0 R g) m).toNat : Int) < cgN (U 35) (U 43 0).toNat ∨ (cn2 R g (pk (r0 R g) m).toNat : Int) = cgN (U 35) (U 43 0).toNat ∨ cgN (U 35) (U 43 0).toNat < (cn2 R g (pk (r0 R g) m).toNat : Int)) with c | c | c
  · have h1 := hz.2 c
    have h2 : rN (r0 R g) m (U 44 (cgN (U 35) (U 43 0).toNat)) ≤ rN (r0 R g) m (pk (r0 R g) m) := hbm.1
    omega
  · rw [← c]; exact hst
  · have hlt2 : U 44 (cgN (U 35) (U 43 0).toNat) < pk (r0 R g) m := by
      rcases (by omega : U 44 (cgN (U 35) (U 43 0).toNat) < pk (r0 R g) m ∨ U 44 (cgN (U 35) (U 43 0).toNat) = pk (r0 R g) m ∨ pk (r0 R g) m < U 44 (cgN (U 35) (U 43 0).toNat)) with y | y | y
      · exact y
      · rw [y] at hq; omega
      · have := cn2_lt R g (a := (pk (r0 R g) m).toNat) (b := (U 44 (cgN (U 35) (U 43 0).toNat)).toNat) (by omega) (by rw [Int.toNat_of_nonneg p0]; exact hpi)
        omega
    have h2 : rN (r0 R g) m (U 44 (cgN (U 35) (U 43 0).toNat)) < rN (r0 R g) m (pk (r0 R g) m) := hbm.2 hlt2
    have h3 := hz.1
    omega
theorem L_h_grantLeft {g : xG} {K : hp} {ad : cA} {C R : gS} {QX : qKE} {rc rs : Nat} {g9 l : Int} (hI : Inv R) (hg : 0 ≤ g9) (hu : 0 ≤ R 26 g9) (hX : Ex0 C) (hO : ptO R C g9) (hR : ExR C) (hRx : ∀ m j, m ≤ 28 → R32 (xS C (r0 R g9) (C 43 0) m 32 j) ∧ R32 (xS C (r0 R g9) (C 43 0) m 35 j)) (hl0 : 0 ≤ l) (hl1 : l ≤ cn2 R g9 28) : ∀ (f9 m : Nat) (v3 : Option Value), (m : Int) ≤ l → l < (m : Int) + f9 → cW g M_h_grantLeft K (fun v9 ad9 S9 => v9 = none ∧ ad = ad9 ∧ S9 = xS C (r0 R g9) (C 43 0) l.toNat) QX rc rs ad (xS C (r0 R g9) (C 43 0) m) 2 [some (.ref (ad 0 0)), some (.int (iI l)), some (.int (iI (m : Int))), v3] [] := by
  intro f9
  induction f9 with
  | zero => intros; omega
  | succ f9 ih =>
    intro m v3 q1 q2
    have hcl := cn2_le R g9 28
    have hr : ∀ k, k ≠ 22 → k ≠ 32 → k ≠ 35 → xS C (r0 R g9) (C 43 0) m k = C k := fun k a b c => xS_r a b c
    have h0 : xS C (r0 R g9) (C 43 0) m 50 0 = 1 := hX.h
    have hL5 : xS C (r0 R g9) (C 43 0) m 51 5 = 1 := hX.l (by decide) (by decide)
    have hRm : xS C (r0 R g9) (C 43 0) m 60 0 = 1 := hX.r
    have hRU : ExR (xS C (r0 R g9) (C 43 0) m) := fun k j hk => by
      by_cases a : k = 32
      · subst a; exact (hRx m j (by omega)).1
      · by_cases b : k = 35
        · subst b; exact (hRx m j (by omega)).2
        · rw [hr k (by omega) a b]; exact hR k j hk
    have e43 : xS C (r0 R g9) (C 43 0) m 43 0 = C 43 0 := rfl
    have hO' : ptO R (xS C (r0 R g9) (C 43 0) m) g9 := hO
    have h35 : ∀ j, 0 ≤ j → j < xS C (r0 R g9) (C 43 0) m 43 0 → xS C (r0 R g9) (C 43 0) m 35 j = rN (r0 R g9) m (xS C (r0 R g9) (C 43 0) m 44 j) := fun j a b => by
      have e44 : xS C (r0 R g9) (C 43 0) m 44 j = C 44 j := rfl
      rw [e44, xS_35]
      exact if_pos ⟨a, b⟩
    have h43 := hO.1
    have hcb := cgN_b (xS C (r0 R g9) (C 43 0) m 35) (xS C (r0 R g9) (C 43 0) m 43 0).toNat
    refine c_iload_n d_h_grantLeft_2 rfl ?_
    refine c_iload_n d_h_grantLeft_3 rfl ?_
    refine c_icmp_ge (tgt := 46) d_h_grantLeft_4 (by decide) (by first | assumption | (unfold R32; omega)) (by first | assumption | (unfold R32; omega)) (fun z4 => ?_) (fun z4 => ?_)
    · exact c_vret rfl d_h_grantLeft_46 (⟨rfl, rfl, by rw [show l.toNat = m by omega]⟩)
    · refine c_aload_n d_h_grantLeft_7 rfl ?_
      refine c_callV (r := (RX6, TX6, 7)) d_h_grantLeft_8 q_h_grantLeft_399 s_h_greatestRemainder v_h_greatestRemainder (t_h_greatestRemainder h0 hL5 hRm hRU (by rw [e43]; omega) (by rw [e43]; omega)) (fun _ z => ⟨_, z.at 0 (by decide) h0⟩) rfl rfl rfl rfl (Nat.le_of_ble_eq_true rfl) rfl rfl rfl (fun _ _ _ z => z) ?_
      rintro _ _ _ ⟨rfl, rfl, rfl⟩
      have hpk := pick hI hg hu hO' (m := m) (by omega) h35
      refine c_istore_n d_h_grantLeft_11 (by decide) ?_
      refine c_iload_n d_h_grantLeft_12 rfl ?_
      refine c_iconst d_h_grantLeft_13 ?_
      refine c_icmp_ne (tgt := 18) d_h_grantLeft_14 (by decide) (by first | assumption | (unfold R32; omega)) (by first | assumption | (unfold R32; omega)) (fun z14 => ?_) (fun z14 => ?_)
      · refine c_aload_n d_h_grantLeft_18 rfl ?_
        refine cg_h_31_6 h0 d_h_grantLeft_19 rfl ?_
        refine c_iload_n d_h_grantLeft_22 rfl ?_
        have hpt : ptL (xS C (r0 R g9) (C 43 0) m) (xS C (r0 R g9) (C 43 0) m 44 (cgN (xS C (r0 R g9) (C 43 0) m 35) (xS C (r0 R g9) (C 43 0) m 43 0).toNat)) := hX.pt hpk.1 hpk.2.1
        refine c_lget5 hL5 hpt hpk.1 hpk.2.1 d_h_grantLeft_23 d_h_grantLeft_26 q_h_grantLeft_226 (Nat.le_of_ble_eq_true rfl) rfl rfl ?_
        refine c_iconst d_h_grantLeft_29 ?_
        refine c_grantP hpt d_h_grantLeft_30 rfl (by decide) (by decide) (Nat.le_of_ble_eq_true rfl) rfl ?_
        rw [hpk.2.2]
        have p0 : 0 ≤ pk (r0 R g9) m := (bstN_b _ _).1
        have p27 : pk (r0 R g9) m ≤ 27 := (bstN_b _ _).2
        have gr : ∀ k, k ≠ 22 → k ≠ 32 → gvS (xS C (r0 R g9) (C 43 0) m) (pk (r0 R g9) m) 1 k = xS C (r0 R g9) (C 43 0) m k := fun k a b => by
          unfold gvS
          split <;> rw [sset_n _ _ _ (by assumption)]
        have h0' : gvS (xS C (r0 R g9) (C 43 0) m) (pk (r0 R g9) m) 1 50 0 = 1 := by rw [gr 50 (by decide) (by decide)]; exact h0
        have hRm' : gvS (xS C (r0 R g9) (C 43 0) m) (pk (r0 R g9) m) 1 60 0 = 1 := by rw [gr 60 (by decide) (by decide)]; exact hRm
        refine c_aload_n d_h_grantLeft_33 rfl ?_
        refine cg_h_34_6 h0' d_h_grantLeft_34 rfl ?_
        refine c_iload_n d_h_grantLeft_37 rfl ?_
        refine c_iconst d_h_grantLeft_38 ?_
        refine c_rast hRm' d_h_grantLeft_39 hpk.1 (by rw [e43] at hpk ⊢; omega) ?_
        rw [xS_s (C := C) (r := r0 R g9) (np := C 43 0) (m := m) hpk.1 hpk.2.1 hpk.2.2 p0 (by omega) (fun j a b c => by
          have h1 := hO'.at a b
          have h2 := hO'.at hpk.1 hpk.2.1
          rw [show xS C (r0 R g9) (C 43 0) m 44 j = pk (r0 R g9) m from c] at h1
          rw [hpk.2.2] at h2
          omega)]
        refine c_iinc d_h_grantLeft_40 rfl (by decide) ?_
        refine c_goto (tgt := 2) d_h_grantLeft_43 (by decide) ?_
        exact ih (m + 1) _ (by omega) (by omega)
      · exfalso; omega
theorem t_h_grantLeft {g : xG} {K : hp} {ad : cA} {C R : gS} {QX : qKE} {g9 l : Int} (hI : Inv R) (hg : 0 ≤ g9) (hu : 0 ≤ R 26 g9) (hX : Ex0 C) (hO : ptO R C g9) (hR : ExR C) (hRx : ∀ m j, m ≤ 28 → R32 (xS C (r0 R g9) (C 43 0) m 32 j) ∧ R32 (xS C (r0 R g9) (C 43 0) m 35 j)) (h35 : ∀ j, 0 ≤ j → j < C 43 0 → C 35 j = r0 R g9 (C 44 j)) (hl0 : 0 ≤ l) (hl1 : l ≤ cn2 R g9 28) : cM g y_h_grantLeft k_h_grantLeft M_h_grantLeft K [.ref (ad 0 0), .int (iI l)] ad C (fun v9 ad9 S9 => v9 = none ∧ ad = ad9 ∧ S9 = xS C (r0 R g9) (C 43 0) l.toNat) QX := by
  refine cM.of rfl (by decide) rfl rfl rfl (by simp [Value.category]) (Nat.le_of_ble_eq_true rfl) rfl ?_
  refine c_iconst d_h_grantLeft_0 ?_
  refine c_istore_n d_h_grantLeft_1 (by decide) ?_
  have e := L_h_grantLeft (g := g) (K := K) (ad := ad) (QX := QX) (rc := M_h_grantLeft.2.2.2.2.2.2.cells) (rs := M_h_grantLeft.2.2.2.2.2.2.slots) hI hg hu hX hO hR hRx hl0 hl1 (l.toNat + 1) 0 none (by omega) (by omega)
  rw [xS_0 h35] at e
  exact e
theorem cn2_c {S T : gS} {g : Int} (h : ∀ p, isp T p g = isp S p g) : ∀ n : Nat, cn2 T g n = cn2 S g n := by
  intro n
  induction n with
  | zero => rfl
  | succ n ih => unfold cn2; rw [ih, h]
theorem shA_c {S T : gS} {g : Int} (h : ∀ p, isp T p g = isp S p g) (h2 : ∀ p, shp T p = shp S p) : ∀ n : Nat, shA T g n = shA S g n := by
  intro n
  induction n with
  | zero => rfl
  | succ n ih => unfold shA; rw [ih, h, h2]
theorem amt_c {S T : gS} {g : Int} (h : ∀ p, isp T p g = isp S p g) (h2 : ∀ p, shp T p = shp S p) (h26 : T 26 g = S 26 g) (p : Int) : amt T g p = amt S g p := by
  have e1 : ∀ p, its1 T g p = its1 S g p := fun p => by unfold its1; rw [h26, h2, shA_c h h2]
  have e2 : ∀ p, rem1 T g p = rem1 S g p := fun p => by unfold rem1; rw [h26, h2, shA_c h h2]
  have e3 : r0 T g = r0 S g := funext (fun p => by unfold r0; rw [h, e2])
  have e4 : ∀ n : Nat, si2 T g n = si2 S g n := by
    intro n
    induction n with
    | zero => rfl
    | succ n ih => unfold si2; rw [ih, h, e1]
  have e5 : lef T g = lef S g := by unfold lef; rw [shA_c h h2, h26, e4]
  unfold amt
  rw [h, e1, e3, e5]
theorem rg_isp (T : gS) (p g : Int) : isp (rg T) p g = isp T p g := isp_c (rg_r T (by decide)) (rg_r T (by decide)) (rg_r T (by decide)) (rg_r T (by decide)) (rg_r T (by decide)) p g
theorem rg_shp (T : gS) (p : Int) : shp (rg T) p = shp T p := shp_c (rg_r T (by decide)) (rg_r T (by decide)) p
def lfN (R U : gS) (g : Int) : Nat → Int
  | 0 => 0
  | n + 1 => lfN R U g n + its1 R g (U 44 (n : Int))
theorem lfN_si {R U : gS} {g : Int} (h : ∀ p : Nat, p < 28 → isp R p g = 1 → U 44 (cn2 R g p) = p) : ∀ n : Nat, n ≤ 28 → lfN R U g (cn2 R g n) = si2 R g n := by
  intro n
  induction n with
  | zero => intro _; rfl
  | succ n ih =>
    intro hn
    by_cases z : isp R n g = 1
    · have e : cn2 R g (n + 1) = cn2 R g n + 1 := by
        show cn2 R g n + (if isp R n g = 1 then 1 else 0) = _
        rw [if_pos z]
      rw [e]
      show lfN R U g (cn2 R g n) + its1 R g (U 44 (cn2 R g n : Int)) = si2 R g n + (if isp R n g = 1 then its1 R g n else 0)
      rw [ih (by omega), h n (by omega) z, if_pos z]
    · have e : cn2 R g (n + 1) = cn2 R g n := by
        show cn2 R g n + (if isp R n g = 1 then 1 else 0) = _
        rw [if_neg z, Nat.add_zero]
      rw [e, ih (by omega)]
      show _ = si2 R g n + (if isp R n g = 1 then its1 R g n else 0)
      rw [if_neg z, Int.add_zero]
theorem c_shareP {g : xG} {M : xMeth} {K : hp} {Q : qK} {QX : qKE} {rc rs : Nat} {ad : cA} {S : gS} {pc : Nat} {ls : List (Option Value)} {st : List Value} {p v : Int} (hk : ptL S p) (hv : (p < 8 → v = if p = 0 then 1 else S 10 p) ∧ (8 ≤ p → v = S 13 (p - 8))) (d : decode M.2.1 pc = .ok (.getfield 384, 3)) (hM : M.1 = "ContainerHost") (kk : cW g M K Q QX rc rs ad S (pc + 3) ls (.int (iI v) :: st)) : cW g M K Q QX rc rs ad S pc ls (.ref (ptA ad p) :: st) := by
  unfold ptA
  rcases hk with ⟨a, b⟩ | ⟨a, b⟩
  · rw [if_pos a]
    rw [hv.1 a] at kk
    exact cg_h_384_3 b d hM kk
  · rw [if_neg (by omega)]
    rw [hv.2 a] at kk
    exact cg_h_384_2 b d hM kk
/-- what sharing out leaves -/
def SO (T : gS) (g : Int) (S9 : gS) : Prop := (∀ k, k ≠ 22 → k ≠ 32 → k ≠ 35 → k ≠ 41 → k ≠ 42 → k ≠ 43 → k ≠ 44 → k ≠ 58 → S9 k = T k) ∧ (∀ j, S9 22 j = if 0 ≤ j ∧ j < 20 then T 22 j + amt (rg T) g (j + 8) else T 22 j) ∧ (∀ j, S9 32 j = if 0 ≤ j ∧ j < 8 then (if j = g then 0 else T 32 j) + amt (rg T) g j else T 32 j) ∧ Ex0 S9 ∧ ExR S9
theorem Ex0.c {S T : gS} (hX : Ex0 S) (h3 : T 3 = S 3) (h6 : T 6 = S 6) (h11 : T 11 = S 11) (h23 : T 23 = S 23) (hL : ∀ q, 43 ≤ q → q ≤ 60 → T q = S q) : Ex0 T := ExL.c h3 h6 h11 h23 hL hX
theorem L_h_shareOut {g : xG} {K : hp} {ad : cA} {B R : gS} {Q : qK} {QX : qKE} {rc rs : Nat} {g9 u sh : Int} (hI : Inv R) (hg : 0 ≤ g9) (hu0 : 0 ≤ u) (hu1 : u ≤ 10000) (hu : R 26 g9 = u) (hsh : shA R g9 28 = sh) (hs0 : sh ≠ 0) (hX : Ex0 B) (hO : ptO R B g9) (h10 : B 10 = R 10) (h13 : B 13 = R 13)
    (kend : ∀ v6 v7, cW g M_h_shareOut K Q QX rc rs ad (pS B R g9 (B 43 0)) 107 [some (.ref (ad 0 0)), some (.ref (ad 3 g9)), some (.int (iI u)), some (.int (iI sh)), some (.int (iI (u - lfN R B g9 (B 43 0).toNat))), some (.int (iI (B 43 0))), v6, v7] []) : ∀ (f9 i : Nat) (v6 v7 : Option Value), (i : Int) ≤ B 43 0 → B 43 0 < (i : Int) + f9 → cW g M_h_shareOut K Q QX rc rs ad (pS B R g9 i) 27 [some (.ref (ad 0 0)), some (.ref (ad 3 g9)), some (.int (iI u)), some (.int (iI sh)), some (.int (iI (u - lfN R B g9 i))), some (.int (iI (i : Int))), v6, v7] [] := by
  intro f9
  induction f9 with
  | zero => intros; omega
  | succ f9 ih =>
    intro i v6 v7 q1 q2
    have h0 : pS B R g9 i 50 0 = 1 := hX.h
    have hL5 : pS B R g9 i 51 5 = 1 := hX.l (by decide) (by decide)
    have hRm : pS B R g9 i 60 0 = 1 := hX.r
    have hnp : B 43 0 ≤ 28 := by have := hO.1; have := cn2_le R g9 28; omega
    have e43 : pS B R g9 i 43 0 = B 43 0 := rfl
    have hR5 := hI.2.2.2.2.2.1
    have shb := shA_b hI hg 28
    refine c_iload d_h_shareOut_27 rfl ?_
    refine c_aload_n d_h_shareOut_29 rfl ?_
    refine cg_h_31_6 h0 d_h_shareOut_30 rfl ?_
    refine c_lsize5 hL5 d_h_shareOut_33 q_h_shareOut_147 (Nat.le_of_ble_eq_true rfl) rfl ?_
    refine c_icmp_ge (tgt := 107) d_h_shareOut_36 (by decide) (by first | assumption | (unfold R32; omega)) (by first | assumption | (unfold R32; omega)) (fun z36 => ?_) (fun z36 => ?_)
    · first
      | (have e := kend v6 v7
         rw [show B 43 0 = (i : Int) by omega, show ((i : Int)).toNat = i from Int.toNat_natCast i] at e
         exact e)
      | (exfalso; omega)
    · refine c_iload d_h_shareOut_39 rfl ?_
      refine c_aload_n d_h_shareOut_41 rfl ?_
      refine cg_h_34_6 h0 d_h_shareOut_42 rfl ?_
      refine c_ralen hRm d_h_shareOut_45 ?_
      refine c_icmp_ge (tgt := 107) d_h_shareOut_46 (by decide) (by first | assumption | (unfold R32; omega)) (by first | assumption | (unfold R32; omega)) (fun z46 => ?_) (fun z46 => ?_)
      · first
        | (have e := kend v6 v7
           rw [show B 43 0 = (i : Int) by omega, show ((i : Int)).toNat = i from Int.toNat_natCast i] at e
           exact e)
        | (exfalso; omega)
      · refine c_aload_n d_h_shareOut_49 rfl ?_
        refine cg_h_31_6 h0 d_h_shareOut_50 rfl ?_
        refine c_iload d_h_shareOut_53 rfl ?_
        have hat := hO.at (j := (i : Int)) (by omega) (by omega)
        have hpt : ptL (pS B R g9 i) (pS B R g9 i 44 (i : Int)) := hX.pt (by omega) (by omega)
        refine c_lget5 hL5 hpt (by omega) (by rw [e43]; omega) d_h_shareOut_55 d_h_shareOut_58 q_h_shareOut_226 (Nat.le_of_ble_eq_true rfl) rfl rfl ?_
        refine c_astore d_h_shareOut_61 (by decide) ?_
        refine c_iload_n d_h_shareOut_63 rfl ?_
        refine c_aload d_h_shareOut_64 rfl ?_
        have hl9 := isp_lv hat.1 hat.2.2.1
        have hshb := shp_b hI hat.1 hg hat.2.2.1
        have hv9 : (pS B R g9 i 44 (i : Int) < 8 → shp R (B 44 (i : Int)) = if pS B R g9 i 44 (i : Int) = 0 then 1 else pS B R g9 i 10 (pS B R g9 i 44 (i : Int))) ∧ (8 ≤ pS B R g9 i 44 (i : Int) → shp R (B 44 (i : Int)) = pS B R g9 i 13 (pS B R g9 i 44 (i : Int) - 8)) := by
          have e44 : pS B R g9 i 44 (i : Int) = B 44 (i : Int) := rfl
          have e10 : pS B R g9 i 10 = R 10 := (pS_r (by decide) (by decide) (by decide)).trans h10
          have e13 : pS B R g9 i 13 = R 13 := (pS_r (by decide) (by decide) (by decide)).trans h13
          rw [e44, e10, e13]
          unfold shp
          refine ⟨fun a => ?_, fun a => ?_⟩
          · have hne : B 44 (i : Int) ≠ 0 := fun z => by
              rw [z, hI.2.2.1.2.1] at hl9
              omega
            rw [if_pos a, if_neg hne]
          · rw [if_neg (by omega)]
        refine c_shareP hpt hv9 d_h_shareOut_66 rfl ?_
        refine c_imul d_h_shareOut_69 ?_
        refine c_istore d_h_shareOut_70 (by decide) ?_
        have hpr0 : 0 ≤ u * shp R (B 44 (i : Int)) := Int.mul_nonneg hu0 (by omega)
        have hpr1 : u * shp R (B 44 (i : Int)) ≤ 1000000 := by
          have a1 : u * shp R (B 44 (i : Int)) ≤ 10000 * shp R (B 44 (i : Int)) := Int.mul_le_mul_of_nonneg_right hu1 (by omega)
          omega
        have hits : u * shp R (B 44 (i : Int)) / sh = its1 R g9 (B 44 (i : Int)) := by unfold its1; rw [hu, hsh]
        have hrem : u * shp R (B 44 (i : Int)) % sh = rem1 R g9 (B 44 (i : Int)) := by unfold rem1; rw [hu, hsh]
        refine c_aload_n d_h_shareOut_72 rfl ?_
        refine cg_h_34_6 h0 d_h_shareOut_73 rfl ?_
        refine c_iload d_h_shareOut_76 rfl ?_
        refine c_iload d_h_shareOut_78 rfl ?_
        refine c_iload_n d_h_shareOut_80 rfl ?_
        refine c_iremI d_h_shareOut_81 hpr0 (by unfold R32; omega) (by omega) (by unfold R32; omega) ?_
        rw [hrem]
        refine c_rast hRm d_h_shareOut_82 (by omega) (by omega) ?_
        have hpt2 : ptL (sset (pS B R g9 i) 35 (i : Int) (rem1 R g9 (B 44 (i : Int)))) (B 44 (i : Int)) := hpt
        refine c_aload d_h_shareOut_83 rfl ?_
        refine c_iload d_h_shareOut_85 rfl ?_
        refine c_iload_n d_h_shareOut_87 rfl ?_
        refine c_idivI d_h_shareOut_88 hpr0 (by unfold R32; omega) (by omega) (by unfold R32; omega) ?_
        rw [hits]
        refine c_grantP hpt2 d_h_shareOut_89 rfl (by decide) (by decide) (Nat.le_of_ble_eq_true rfl) rfl ?_
        rw [show pS B R g9 (i : Int) 44 (i : Int) = B 44 (i : Int) from rfl, pS_s (by omega) rfl hat.2.2.1 hat.1 hat.2.1 hat.2.2.2]
        refine c_iload d_h_shareOut_92 rfl ?_
        refine c_iload d_h_shareOut_94 rfl ?_
        refine c_iload_n d_h_shareOut_96 rfl ?_
        refine c_idivI d_h_shareOut_97 hpr0 (by unfold R32; omega) (by omega) (by unfold R32; omega) ?_
        rw [hits]
        refine c_isub d_h_shareOut_98 ?_
        refine c_istore d_h_shareOut_99 (by decide) ?_
        refine c_iinc d_h_shareOut_101 rfl (by decide) ?_
        refine c_goto (tgt := 27) d_h_shareOut_104 (by decide) ?_
        have e := ih (i + 1) (some (.ref (ptA ad (B 44 (i : Int))))) (some (.int (iI (u * shp R (B 44 (i : Int)))))) (by omega) (by omega)
        rw [show u - lfN R B g9 (i + 1) = u - lfN R B g9 i - its1 R g9 (B 44 (i : Int)) from by show u - (lfN R B g9 i + its1 R g9 (B 44 (i : Int))) = _; omega] at e
        exact e
theorem t_h_shareOut {g : xG} {K : hp} {ad : cA} {T : gS} {QX : qKE} {g9 : Int} (hI : Inv T) (hX : Ex0 T) (hR : ExR T) (hg0 : 0 ≤ g9) (hg1 : g9 < T 6 0) (h32 : ∀ j, 0 ≤ j → j < 8 → 0 ≤ T 32 j ∧ T 32 j ≤ 10000) : cM g y_h_shareOut k_h_shareOut M_h_shareOut K [.ref (ad 0 0), .ref (ad 3 g9)] ad T (fun v9 ad9 S9 => v9 = none ∧ (∃ d, ad9 = cup ad 8 5 d) ∧ SO T g9 S9) QX := by
  refine cM.of rfl (by decide) rfl rfl rfl (by simp [Value.category]) (Nat.le_of_ble_eq_true rfl) rfl ?_
  have hi1 := hI.2.1
  unfold Inv1 at hi1
  have hu := h32 g9 hg0 (by omega)
  have h53 := hX.p hg0 hg1
  have hIR := rg_I hI hR
  have hR1 : ExR (sset T 32 g9 0) := hR.set (fun _ => by unfold R32; omega)
  have hI1 : Inv (sset T 32 g9 0) := Inv_agr hI (fun k hk => sset_n _ _ _ (by omega)) hR1
  have hX1 : Ex0 (sset T 32 g9 0) := hX.c rfl rfl rfl rfl (fun q a b => sset_n _ _ _ (by omega))
  have hisp : ∀ p, isp (sset T 32 g9 0) p g9 = isp (rg T) p g9 := fun p => by rw [rg_isp]; exact isp_c (S := T) (T := sset T 32 g9 0) rfl rfl rfl rfl rfl p g9
  have hshp : ∀ p, shp (sset T 32 g9 0) p = shp (rg T) p := fun p => by rw [rg_shp]; exact shp_c (S := T) (T := sset T 32 g9 0) rfl rfl p
  have h26 : rg T 26 g9 = T 32 g9 := rg_26 T g9
  have hsf := isp_self hIR hg0 (by omega : g9 < 8)
  refine c_aload_n d_h_shareOut_0 rfl ?_
  refine cg_h_223_3 h53 d_h_shareOut_1 rfl ?_
  refine c_istore_n d_h_shareOut_4 (by decide) ?_
  refine c_aload_n d_h_shareOut_5 rfl ?_
  refine c_iconst d_h_shareOut_6 ?_
  refine cp_h_223_3 h53 d_h_shareOut_7 rfl ?_
  refine c_aload_n d_h_shareOut_10 rfl ?_
  refine c_aload_n d_h_shareOut_11 rfl ?_
  refine c_callV (r := (RX6, TX6, 7)) d_h_shareOut_12 q_h_shareOut_378 s_h_collectParts v_h_collectParts (t_h_collectParts hI1 hX1 hR1 hg0 (show g9 < T 6 0 from hg1)) (fun _ z => ⟨_, z.at 0 (by decide) hX.h⟩) rfl rfl rfl rfl (Nat.le_of_ble_eq_true rfl) rfl rfl rfl (fun _ _ _ z => z) ?_
  rintro _ _ B ⟨rfl, ⟨d, rfl⟩, hB⟩
  have hXB := hB.x0 hX1
  have hOB : ptO (rg T) B g9 := ⟨by rw [hB.2.2.2.1, cn2_c hisp], fun p a b => by
    have e := hB.2.2.2.2 p a (by rw [hisp]; exact b)
    rw [cn2_c hisp] at e
    exact e⟩
  have hcl := cn2_le (rg T) g9 28
  have hsh9 : shA (sset T 32 g9 0) g9 28 = shA (rg T) g9 28 := shA_c hisp hshp 28
  have hshb := shA_b hIR hg0 28
  have hBr : ∀ k, k ≠ 41 → k ≠ 42 → k ≠ 43 → k ≠ 44 → k ≠ 58 → B k = sset T 32 g9 0 k := hB.1
  have b32 : ∀ j, B 32 j = if j = g9 then 0 else T 32 j := fun j => by
    rw [hBr 32 (by decide) (by decide) (by decide) (by decide) (by decide)]
    show (if 32 = 32 ∧ j = g9 then (0 : Int) else T 32 j) = _
    exact ite_iff ⟨fun z => z.2, fun z => ⟨rfl, z⟩⟩
  have b22 : B 22 = T 22 := hBr 22 (by decide) (by decide) (by decide) (by decide) (by decide)
  refine c_istore_n d_h_shareOut_15 (by decide) ?_
  refine c_iload_n d_h_shareOut_16 rfl ?_
  refine c_if_ne (tgt := 21) d_h_shareOut_17 (by decide) (by rw [hsh9]; unfold R32; omega) (fun z17 => ?_) (fun z17 => ?_)
  · rw [hsh9] at z17 ⊢
    refine c_iload_n d_h_shareOut_21 rfl ?_
    refine c_istore d_h_shareOut_22 (by decide) ?_
    refine c_iconst d_h_shareOut_24 ?_
    refine c_istore d_h_shareOut_25 (by decide) ?_
    have hlf : lfN (rg T) B g9 (B 43 0).toNat = si2 (rg T) g9 28 := by
      rw [show (B 43 0).toNat = cn2 (rg T) g9 28 by have := hOB.1; omega]
      exact lfN_si hOB.2 28 (by omega)
    have hlef : T 32 g9 - lfN (rg T) B g9 (B 43 0).toNat = lef (rg T) g9 := by
      unfold lef
      rw [if_neg z17, hlf, h26]
    have hlb := lef_b hIR hg0 (by rw [h26]; exact hu.1)
    generalize hC : pS B (rg T) g9 (B 43 0) = C
    have hC43 : C 43 0 = B 43 0 := by rw [← hC]; rfl
    have hC44 : ∀ j, C 44 j = B 44 j := fun j => by rw [← hC]; rfl
    have hCr : ∀ k, k ≠ 22 → k ≠ 32 → k ≠ 35 → C k = B k := fun k a b c => by rw [← hC]; exact pS_r a b c
    have hOC : ptO (rg T) C g9 := ⟨by rw [hC43]; exact hOB.1, fun p a b => by rw [hC44]; exact hOB.2 p a b⟩
    have hits : ∀ p, 0 ≤ p → p < 28 → isp (rg T) p g9 = 1 → 0 ≤ its1 (rg T) g9 p ∧ its1 (rg T) g9 p ≤ 10000 ∧ 0 ≤ rem1 (rg T) g9 p ∧ rem1 (rg T) g9 p < 2800 := fun p a b c => by
      have q := its_b hIR hg0 a b c (by rw [h26]; exact hu.1)
      rw [h26] at q
      omega
    have hr0 : ∀ p, 0 ≤ p → p < 28 → -1 ≤ r0 (rg T) g9 p ∧ r0 (rg T) g9 p < 2800 := fun p a b => by
      unfold r0
      by_cases z : isp (rg T) p g9 = 1
      · rw [if_pos z]; have := hits p a b z; omega
      · rw [if_neg z]; omega
    have hC32 : ∀ j, 0 ≤ j → j < 8 → 0 ≤ C 32 j ∧ C 32 j ≤ 20000 := fun j a b => by
      rw [← hC, pS_32, b32]
      have q := h32 j a b
      split
      · rename_i z
        have := hits j a (by omega) z.2.2.1
        split <;> omega
      · split <;> omega
    have hC35 : ∀ j, 0 ≤ j → j < C 43 0 → C 35 j = r0 (rg T) g9 (C 44 j) := fun j a b => by
      rw [hC43] at b
      rw [hC44, ← hC, pS_35, if_pos ⟨a, b⟩]
    have hRC : ExR C := fun k j hk => by
      by_cases k32 : k = 32
      · subst k32
        by_cases y : 0 ≤ j ∧ j < 8
        · have q1 := hC32 j y.1 y.2
          unfold R32; omega
        · rw [← hC, pS_32, if_neg (fun w => y ⟨w.1, w.2.1⟩)]
          exact hB.2.2.1 32 j (by omega)
      · by_cases k35 : k = 35
        · subst k35
          rw [← hC, pS_35]
          split
          · rename_i z
            have q1 := hOB.at z.1 z.2
            have := hr0 _ q1.1 q1.2.1
            unfold R32; omega
          · exact hB.2.2.1 35 j (by omega)
        · rw [hCr k (by omega) k32 k35]
          exact hB.2.2.1 k j hk
    have hRx : ∀ m j, m ≤ 28 → R32 (xS C (r0 (rg T) g9) (C 43 0) m 32 j) ∧ R32 (xS C (r0 (rg T) g9) (C 43 0) m 35 j) := fun m j hm => by
      refine ⟨?_, ?_⟩
      · rw [xS_32]
        split
        · rename_i z
          have q1 := hC32 j z.1 z.2
          have q2 := exN_m (r0 (rg T) g9) j m
          unfold R32; omega
        · exact hRC 32 j (by omega)
      · rw [xS_35]
        split
        · rename_i z
          have q1 := hOC.at z.1 z.2
          have q2 := hr0 _ q1.1 q1.2.1
          rcases rN_le (r0 (rg T) g9) m (C 44 j) with y | y
          · rw [y]; unfold R32; omega
          · rw [y]; unfold R32; omega
        · exact hRC 35 j (by omega)
    have hXC : Ex0 C := hXB.c (hCr 3 (by decide) (by decide) (by decide)) (hCr 6 (by decide) (by decide) (by decide)) (hCr 11 (by decide) (by decide) (by decide)) (hCr 23 (by decide) (by decide) (by decide)) (fun q a b => hCr q (by omega) (by omega) (by omega))
    have e := L_h_shareOut (g := g) (K := K) (ad := cup ad 8 5 d) (QX := QX) (rc := 0) (rs := 0) (Q := fun v9 ad9 S9 => v9 = none ∧ (∃ d, ad9 = cup ad 8 5 d) ∧ SO T g9 S9) hIR hg0 hu.1 hu.2 h26 rfl z17 hXB hOB (by rw [hBr 10 (by decide) (by decide) (by decide) (by decide) (by decide), rg_r T (by decide)]; rfl) (by rw [hBr 13 (by decide) (by decide) (by decide) (by decide) (by decide), rg_r T (by decide)]; rfl) (fun v6 v7 => by
      rw [hC, hlef]
      refine c_aload_n d_h_shareOut_107 rfl ?_
      refine c_iload d_h_shareOut_108 rfl ?_
      refine c_callV (r := (RX6, TX6, 7)) d_h_shareOut_110 q_h_shareOut_388 s_h_grantLeft v_h_grantLeft (t_h_grantLeft hIR hg0 (by rw [h26]; exact hu.1) hXC hOC hRC hRx hC35 hlb.1 hlb.2) (fun _ z => ⟨_, z.at 0 (by decide) hXC.h⟩) rfl rfl rfl rfl (Nat.le_of_ble_eq_true rfl) rfl rfl rfl (fun _ _ _ z => z) ?_
      rintro _ _ _ ⟨rfl, rfl, rfl⟩
      refine c_vret rfl d_h_shareOut_113 ⟨rfl, ⟨d, rfl⟩, fun k a b c e1 e2 e3 e4 e5 => ?_, fun j => ?_, fun j => ?_, ?_, fun k j hk => ?_⟩
      · rw [xS_r a b c, hCr k a b c, hBr k e1 e2 e3 e4 e5, sset_n _ _ _ b]
      · rw [xS_22, ← hC, pS_22, b22]
        by_cases y : 0 ≤ j ∧ j < 20
        · rw [if_pos y, if_pos y]
          unfold amt
          by_cases z : isp (rg T) (j + 8) g9 = 1
          · have hq := cn2_lt (rg T) g9 (a := (j + 8).toNat) (b := 28) (by omega) (by rw [Int.toNat_of_nonneg (by omega)]; exact z)
            have c9 : 0 ≤ j ∧ j < 20 ∧ isp (rg T) (j + 8) g9 = 1 ∧ (cn2 (rg T) g9 (j + 8).toNat : Int) < B 43 0 := ⟨y.1, y.2, z, by have := hOB.1; omega⟩
            rw [if_pos c9, if_pos z]
            omega
          · have c9 : ¬ (0 ≤ j ∧ j < 20 ∧ isp (rg T) (j + 8) g9 = 1 ∧ (cn2 (rg T) g9 (j + 8).toNat : Int) < B 43 0) := fun w => z w.2.2.1
            rw [if_neg c9, if_neg z]
            omega
        · have c9 : ¬ (0 ≤ j ∧ j < 20 ∧ isp (rg T) (j + 8) g9 = 1 ∧ (cn2 (rg T) g9 (j + 8).toNat : Int) < B 43 0) := fun w => y ⟨w.1, w.2.1⟩
          rw [if_neg y, if_neg y, if_neg c9]
      · rw [xS_32, ← hC, pS_32, b32]
        by_cases y : 0 ≤ j ∧ j < 8
        · rw [if_pos y, if_pos y]
          unfold amt
          by_cases z : isp (rg T) j g9 = 1
          · have hq := cn2_lt (rg T) g9 (a := j.toNat) (b := 28) (by omega) (by rw [Int.toNat_of_nonneg (by omega)]; exact z)
            have c9 : 0 ≤ j ∧ j < 8 ∧ isp (rg T) j g9 = 1 ∧ (cn2 (rg T) g9 j.toNat : Int) < B 43 0 := ⟨y.1, y.2, z, by have := hOB.1; omega⟩
            rw [if_pos c9, if_pos z]
            omega
          · have c9 : ¬ (0 ≤ j ∧ j < 8 ∧ isp (rg T) j g9 = 1 ∧ (cn2 (rg T) g9 j.toNat : Int) < B 43 0) := fun w => z w.2.2.1
            rw [if_neg c9, if_neg z]
            omega
        · have c9 : ¬ (0 ≤ j ∧ j < 8 ∧ isp (rg T) j g9 = 1 ∧ (cn2 (rg T) g9 j.toNat : Int) < B 43 0) := fun w => y ⟨w.1, w.2.1⟩
          have n9 : ¬ j = g9 := by omega
          rw [if_neg y, if_neg y, if_neg c9, if_neg n9]
      · exact hXC.c (xS_r (by decide) (by decide) (by decide)) (xS_r (by decide) (by decide) (by decide)) (xS_r (by decide) (by decide) (by decide)) (xS_r (by decide) (by decide) (by decide)) (fun q a b => xS_r (by omega) (by omega) (by omega))
      · by_cases k32 : k = 32
        · subst k32; exact (hRx _ j (by omega)).1
        · by_cases k35 : k = 35
          · subst k35; exact (hRx _ j (by omega)).2
          · by_cases k22 : k = 22
            · omega
            · rw [xS_r k22 k32 k35]; exact hRC k j hk) ((B 43 0).toNat + 1) 0 none none (by have := hOB.1; omega) (by have := hOB.1; omega)
    rw [show (((0 : Nat) : Int)) = 0 from rfl, pS_0, show T 32 g9 - lfN (rg T) B g9 0 = T 32 g9 from Int.sub_zero _] at e
    exact e
  · rw [hsh9] at z17
    have hz := fun p a b => shA_0 hIR hg0 z17 (p := p) a b
    have ha : ∀ p, 0 ≤ p → p < 28 → amt (rg T) g9 p = 0 := fun p a b => by
      have z := hz p a b
      unfold amt lef
      rw [if_neg (by omega), if_pos z17]
      rfl
    refine c_vret rfl d_h_shareOut_20 ⟨rfl, ⟨d, rfl⟩, fun k a b c e1 e2 e3 e4 e5 => ?_, fun j => ?_, fun j => ?_, hXB, hB.2.2.1⟩
    · rw [hBr k e1 e2 e3 e4 e5, sset_n _ _ _ b]
    · rw [b22]
      by_cases y : 0 ≤ j ∧ j < 20
      · rw [if_pos y, ha (j + 8) (by omega) (by omega), Int.add_zero]
      · rw [if_neg y]
    · rw [b32]
      by_cases y : 0 ≤ j ∧ j < 8
      · rw [if_pos y, ha j y.1 (by omega), Int.add_zero]
      · rw [if_neg y, if_neg (fun w => y (by omega))]
