theorem elOkC {g : xG} {K : hp} {ad : cA} {S : gS} {h : hp} (hc : cls g K ad S h) {k : Nat} {i : Int} (h2 : 2 ≤ k) (h5 : k ≤ 5) (hl : S (50 + k) i = 1) : elOk h (ad k i) := by
  have : k = 2 ∨ k = 3 ∨ k = 4 ∨ k = 5 := by omega
  rcases this with rfl | rfl | rfl | rfl
  · exact ⟨_, _, (RX3, TX3, 2), hc.at 2 (by decide) hl, rfl, mt (i := 885) (by decide +kernel)⟩
  · exact ⟨_, _, (RX2, TX2, 7), hc.at 3 (by decide) hl, rfl, mt (i := 880) (by decide +kernel)⟩
  · exact ⟨_, _, (RX1, TX1, 13), hc.at 4 (by decide) hl, rfl, mt (i := 877) (by decide +kernel)⟩
  · exact ⟨_, _, (RX0, TX0, 7), hc.at 5 (by decide) hl, rfl, mt (i := 886) (by decide +kernel)⟩
def lad1 (S : gS) (N' : Int) : gS := sset (sset (sset (sset S 41 1 N') 58 1 1) 42 1 (iI (S 42 1 + 1)).toInt) 3 0 (S 3 0 + 1)
theorem lad1_r {S : gS} {N' : Int} {k : Nat} (h41 : k ≠ 41) (h58 : k ≠ 58) (h42 : k ≠ 42) (hr : k ≠ 3) : lad1 S N' k = S k := by
  unfold lad1
  rw [sset_n _ _ _ hr, sset_n _ _ _ h42, sset_n _ _ _ h58, sset_n _ _ _ h41]
theorem lad1_c (S : gS) (N' : Int) {i : Int} (h0 : 1 ≤ i) (h1 : i ≤ 5) : cnt (lad1 S N') i = if i = 1 then cnt S i + 1 else cnt S i := by
  have : i = 1 ∨ i = 2 ∨ i = 3 ∨ i = 4 ∨ i = 5 := by omega
  rcases this with e | e | e | e | e <;> (subst e; rfl)
theorem cls.add1 {g : xG} {K : hp} {ad : cA} {S : gS} {h h' : hp} {ke : Nat} {ie : Int} (hc : cls g K ad S h) (hW : Wf S) (h15 : ∀ i, S 58 i = 1 ∨ S 51 i = 1 → 1 ≤ i ∧ i ≤ 5) (hl : S 51 1 = 1) (hk2 : elK S 1 (S 3 0) = ke) (hk3 : elI S 1 (S 3 0) = ie) (hle : S (50 + ke) ie = 1)
    (hp : addP g h (ad 1 1) (ad ke ie) (ad 8 1) (S 41 1).toNat (iI (S 42 1 + 1)) (S 3 0) (elF S ad 1) h') : ∃ d' N', R32 N' ∧ cls g K (cup ad 8 1 d') (lad1 S N') h' := by
  obtain ⟨d', N', f', a1, a2, a3, a4, a5, a6, a7, a8, a9, a10⟩ := hp
  have D := hc.2.2.2.1 1 hl
  have hcn : cnt S 1 = S 3 0 := rfl
  have hcn' : cnt (lad1 S N') 1 = S 3 0 + 1 := lad1_c S N' (by decide) (by decide)
  have h0 : 0 ≤ S 3 0 := by rcases D with ⟨-, -, -, e⟩ | ⟨-, -, -, e, -⟩ <;> omega
  -- where the row lies now: the old one that lived, or fresh
  have hd : (d' = ad 8 1 ∧ S 58 1 = 1) ∨ h d' = none := by
    rcases a8 with ⟨e1, e2⟩ | e
    · rcases D with ⟨e3, -, -, e4⟩ | ⟨-, e4, -⟩
      · rw [e3] at e2
        have : N' = 0 := e2
        omega
      · exact Or.inl ⟨e1, e4⟩
    · exact Or.inr e
  have hKd : K d' = none := by
    rcases hd with ⟨e1, e2⟩ | e
    · rw [e1]; exact (hc.1 8 1 (by decide) e2).2.1
    · cases hK : K d' with
      | none => rfl
      | some x => rw [hc.2.2.1 d' x hK] at e; cases e
  have hl8 : ∀ k i, k ≤ 10 → lad1 S N' (50 + k) i = 1 → S (50 + k) i = 1 ∨ (k = 8 ∧ i = 1) := by
    intro k i hk hh
    by_cases q : k = 8
    · subst q
      have hh' : (if 58 = 58 ∧ i = 1 then (1 : Int) else S 58 i) = 1 := hh
      split at hh'
      · rename_i z; exact Or.inr ⟨rfl, z.2⟩
      · exact Or.inl hh'
    · rw [lad1_r (by omega) (by omega) (by omega) (by omega)] at hh
      exact Or.inl hh
  have hne : ∀ k i, k ≤ 10 → S (50 + k) i = 1 → ¬ (k = 8 ∧ i = 1) → ad k i ≠ d' := by
    intro k i hk hh hn e
    rcases hd with ⟨e1, e2⟩ | e1
    · rw [e1] at e
      exact hn (hc.2.1 k i 8 1 hk (by decide) hh e2 e)
    · have := (hc.1 k i hk hh).1
      rw [e, e1] at this
      cases this
  have hld : ad 1 1 ≠ d' := fun e => a9 e.symm
  have hcel : ∀ k i, k ≤ 10 → S (50 + k) i = 1 → ¬ (k = 8 ∧ i = 1) → ¬ (k = 1 ∧ i = 1) → cel g (cup ad 8 1 d') (lad1 S N') k i = cel g ad S k i := by
    intro k i hk hh n8 n1
    have ek : ∀ a j, a ≠ 8 → cup ad 8 1 d' a j = ad a j := fun a j ha => cup_n _ _ (fun z => ha z.1)
    rcases k11 hk with rfl | rfl | rfl | rfl | rfl | rfl | rfl | rfl | rfl | rfl | rfl
    · rfl
    · have hi := h15 i (Or.inr hh)
      have hni : i ≠ 1 := fun e => n1 ⟨rfl, e⟩
      have e1 : cnt (lad1 S N') i = cnt S i := by rw [lad1_c S N' hi.1 hi.2, if_neg hni]
      have e2 : lad1 S N' 42 i = S 42 i := by
        show (if 42 = 42 ∧ i = 1 then _ else S 42 i) = _
        rw [if_neg (fun z => hni z.2)]
      have e3 : cup ad 8 1 d' 8 i = ad 8 i := cup_n _ _ (fun z => hni z.2)
      simp only [cel, fl1, e1, e2, e3]
    · rfl
    · rfl
    · rfl
    · rfl
    · rfl
    · rfl
    · have hi := h15 i (Or.inl hh)
      have hni : i ≠ 1 := fun e => n8 ⟨rfl, e⟩
      have e1 : cnt (lad1 S N') i = cnt S i := by rw [lad1_c S N' hi.1 hi.2, if_neg hni]
      have e2 : lad1 S N' 41 i = S 41 i := by
        show (if 41 = 41 ∧ i = 1 then (N' : Int) else S 41 i) = _
        rw [if_neg (fun z => hni z.2)]
      have e3 : elF (lad1 S N') (cup ad 8 1 d') i = elF S ad i := by
        funext j
        have b1 : elK (lad1 S N') i j = elK S i j := rfl
        have b2 : elI (lad1 S N') i j = elI S i j := rfl
        have b3 := elK_b S i j
        unfold elF
        rw [e1, b1, b2, ek _ _ (by omega)]
      simp only [cel, e2, e3]
    · rfl
    · rfl
  have hR9 : R32 (N' : Int) := by
    unfold capOk at a7
    unfold R32
    omega
  refine ⟨d', N', hR9, fun k i hk hh => ?_, fun k i k' i' hk hk' hh hh' e => ?_, fun a x ha => ?_, fun i hi => ?_, hc.2.2.2.2⟩
  · by_cases q8 : k = 8 ∧ i = 1
    · obtain ⟨rfl, rfl⟩ := q8
      rw [cup_s, a2]
      refine ⟨?_, hKd, by decide, by decide⟩
      have ef : elF (lad1 S N') (cup ad 8 1 d') 1 = f' := by
        funext j
        have b1 : elK (lad1 S N') 1 j = elK S 1 j := rfl
        have b2 : elI (lad1 S N') 1 j = elI S 1 j := rfl
        have b3 := elK_b S 1 j
        unfold elF
        rw [hcn', b1, b2, cup_n _ _ (fun z => by omega)]
        by_cases q : (j : Int) < S 3 0
        · rw [if_pos (by omega), a3 j q]
          unfold elF
          rw [if_pos (by rw [hcn]; exact q)]
        · by_cases q2 : (j : Int) = S 3 0
          · rw [if_pos (by omega), show j = (S 3 0).toNat by omega, a4, Int.toNat_of_nonneg h0, hk2, hk3]
          · rw [if_neg (by omega), a5 j (by omega)]
      show some (oarr g N' f') = some (oarr g (lad1 S N' 41 1).toNat (elF (lad1 S N') (cup ad 8 1 d') 1))
      rw [ef]
      rfl
    · have hh1 := (hl8 k i hk hh).resolve_right q8
      have w := hc.1 k i hk hh1
      by_cases q1 : k = 1 ∧ i = 1
      · obtain ⟨rfl, rfl⟩ := q1
        refine ⟨?_, w.2⟩
        show h' (ad 1 1) = some (.inr (0, [.int (iI (iI (S 42 1 + 1)).toInt), .ref (cup ad 8 1 d' 8 1), .int (iI (cnt (lad1 S N') 1))]))
        rw [a1, cup_s, hcn', show iI (iI (S 42 1 + 1)).toInt = iI (S 42 1 + 1) from Int32.ofInt_toInt _]
      · have e1 : cup ad 8 1 d' k i = ad k i := cup_n _ _ q8
        have e2 : ad k i ≠ ad 1 1 := fun e => q1 (hc.2.1 k i 1 1 hk (by decide) hh1 hl e)
        rw [e1, a10 _ e2 (hne k i hk hh1 q8), hcel k i hk hh1 q8 q1]
        exact w
  · have e1 : ∀ k i, k ≤ 10 → S (50 + k) i = 1 → ¬ (k = 8 ∧ i = 1) → cup ad 8 1 d' k i = ad k i := fun k i _ _ z => cup_n _ _ z
    by_cases q : k = 8 ∧ i = 1
    · by_cases q' : k' = 8 ∧ i' = 1
      · exact ⟨q.1.trans q'.1.symm, q.2.trans q'.2.symm⟩
      · have z := (hl8 k' i' hk' hh').resolve_right q'
        obtain ⟨rfl, rfl⟩ := q
        rw [cup_s, cup_n _ _ q'] at e
        exact absurd e.symm (hne k' i' hk' z q')
    · have z0 := (hl8 k i hk hh).resolve_right q
      by_cases q' : k' = 8 ∧ i' = 1
      · obtain ⟨rfl, rfl⟩ := q'
        rw [cup_s, cup_n _ _ q] at e
        exact absurd e (hne k i hk z0 q)
      · have z := (hl8 k' i' hk' hh').resolve_right q'
        rw [cup_n _ _ q, cup_n _ _ q'] at e
        exact hc.2.1 k i k' i' hk hk' z0 z e
  · have ka := hc.2.2.1 a x ha
    have k1 : a ≠ ad 1 1 := fun e => by rw [e, (hc.1 1 1 (by decide) hl).2.1] at ha; cases ha
    rw [a10 a k1 (fun e => by rw [e, hKd] at ha; cases ha)]
    exact ka
  · have hi' : S 51 i = 1 := hi
    have hb := h15 i (Or.inr hi')
    by_cases q : i = 1
    · subst q
      refine Or.inr ⟨?_, (show (if 58 = 58 ∧ (1 : Int) = 1 then (1 : Int) else S 58 1) = 1 from if_pos ⟨rfl, rfl⟩), ?_, ?_, ?_⟩
      · show capOk ((N' : Int)).toNat
        rw [Int.toNat_natCast]; exact a7
      · show (0 : Int) ≤ (N' : Int); omega
      · rw [hcn']; omega
      · rw [hcn']
        show S 3 0 + 1 ≤ (N' : Int)
        omega
    · have w := hc.2.2.2.1 i hi'
      have e1 : cnt (lad1 S N') i = cnt S i := by rw [lad1_c S N' hb.1 hb.2, if_neg q]
      have e2 : lad1 S N' 41 i = S 41 i := if_neg (fun z => q z.2)
      have e3 : lad1 S N' 58 i = S 58 i := if_neg (fun z => q z.2)
      have e4 : cup ad 8 1 d' 8 i = ad 8 i := cup_n _ _ (fun z => q z.2)
      have e5 : cup ad 8 1 d' 1 i = ad 1 i := rfl
      rw [e1, e2, e3, e4, e5]
      exact w
theorem t_al_add1_c {g : xG} {K : hp} {ad : cA} {S : gS} {QX : qKE} {ke : Nat} {ie : Int} (hW : Wf S) (h15 : ∀ i, S 58 i = 1 ∨ S 51 i = 1 → 1 ≤ i ∧ i ≤ 5) (hl : S 51 1 = 1) (h2 : 2 ≤ ke) (h5 : ke ≤ 5) (hk2 : elK S 1 (S 3 0) = ke) (hk3 : elI S 1 (S 3 0) = ie) (hle : S (50 + ke) ie = 1) (h33 : S 3 0 < 33) : cM g y_al_add_ngObject21 k_al_add_ngObject21 M_al_add_ngObject21 K [.ref (ad 1 1), .ref (ad ke ie)] ad S (fun v9 ad9 S9 => v9 = some (.int (iI 1)) ∧ ∃ d' N', R32 N' ∧ ad9 = cup ad 8 1 d' ∧ S9 = lad1 S N') QX := by
  intro h hc
  have D := hc.2.2.2.1 1 hl
  have hcn : cnt S 1 = S 3 0 := rfl
  obtain ⟨mi, hmi⟩ := hc.2.2.2.2.1
  obtain ⟨ci, fs, rr, e1, e2, e3⟩ := elOkC hc h2 h5 hle
  have hld : ad 8 1 ≠ ad 1 1 := by
    rcases D with ⟨-, -, e, -⟩ | ⟨-, e, -⟩
    · exact e
    · intro z
      have := (hc.2.1 8 1 1 1 (by decide) (by decide) e hl z).1
      omega
  have hle2 : ad ke ie ≠ ad 1 1 := fun z => by
    have := (hc.2.1 ke ie 1 1 (by omega) (by decide) hle hl z).1
    omega
  have hP : datP g h (ad 8 1) (S 41 1).toNat (cnt S 1) (elF S ad 1) := by
    refine ⟨?_, ?_, ?_, fun j hj => ?_, fun j y hj => ?_⟩
    · rcases D with ⟨a, b, -, -⟩ | ⟨a, b, -⟩
      · exact Or.inl ⟨by omega, b⟩
      · exact Or.inr ⟨a, hc.at 8 (by decide) b⟩
    · rcases D with ⟨-, -, -, e⟩ | ⟨-, -, -, e, -⟩ <;> omega
    · rcases D with ⟨e0, -, -, e⟩ | ⟨-, -, e0, e1, e2⟩ <;> omega
    · exact if_neg (by omega)
    · unfold elF at hj
      split at hj
      · rename_i z
        cases hj
        have b := elK_b S 1 j
        exact elOkC hc b.1 b.2 (hW.2.2.2.2.2.1 1 j hl (by omega) z)
      · cases hj
  refine xM.post (t_al_add_ngObject21 (QX := cE g K QX) (m := S 42 1) (n := cnt S 1) (hc.at 1 (by decide) hl) e1 e2 e3 hle2 hld hmi hP (by omega)) (fun v h' q => ?_) (fun _ _ q => q)
  obtain ⟨d', N', hR9, z⟩ := hc.add1 hW h15 hl hk2 hk3 hle q.2
  exact ⟨_, _, ⟨q.1, d', N', hR9, rfl, rfl⟩, z⟩
def lad2 (S : gS) (N' : Int) : gS := sset (sset (sset (sset S 41 2 N') 58 2 1) 42 2 (iI (S 42 2 + 1)).toInt) 6 0 (S 6 0 + 1)
theorem lad2_r {S : gS} {N' : Int} {k : Nat} (h41 : k ≠ 41) (h58 : k ≠ 58) (h42 : k ≠ 42) (hr : k ≠ 6) : lad2 S N' k = S k := by
  unfold lad2
  rw [sset_n _ _ _ hr, sset_n _ _ _ h42, sset_n _ _ _ h58, sset_n _ _ _ h41]
theorem lad2_c (S : gS) (N' : Int) {i : Int} (h0 : 1 ≤ i) (h1 : i ≤ 5) : cnt (lad2 S N') i = if i = 2 then cnt S i + 1 else cnt S i := by
  have : i = 1 ∨ i = 2 ∨ i = 3 ∨ i = 4 ∨ i = 5 := by omega
  rcases this with e | e | e | e | e <;> (subst e; rfl)
theorem cls.add2 {g : xG} {K : hp} {ad : cA} {S : gS} {h h' : hp} {ke : Nat} {ie : Int} (hc : cls g K ad S h) (hW : Wf S) (h15 : ∀ i, S 58 i = 1 ∨ S 51 i = 1 → 1 ≤ i ∧ i ≤ 5) (hl : S 51 2 = 1) (hk2 : elK S 2 (S 6 0) = ke) (hk3 : elI S 2 (S 6 0) = ie) (hle : S (50 + ke) ie = 1)
    (hp : addP g h (ad 1 2) (ad ke ie) (ad 8 2) (S 41 2).toNat (iI (S 42 2 + 1)) (S 6 0) (elF S ad 2) h') : ∃ d' N', R32 N' ∧ cls g K (cup ad 8 2 d') (lad2 S N') h' := by
  obtain ⟨d', N', f', a1, a2, a3, a4, a5, a6, a7, a8, a9, a10⟩ := hp
  have D := hc.2.2.2.1 2 hl
  have hcn : cnt S 2 = S 6 0 := rfl
  have hcn' : cnt (lad2 S N') 2 = S 6 0 + 1 := lad2_c S N' (by decide) (by decide)
  have h0 : 0 ≤ S 6 0 := by rcases D with ⟨-, -, -, e⟩ | ⟨-, -, -, e, -⟩ <;> omega
  -- where the row lies now: the old one that lived, or fresh
  have hd : (d' = ad 8 2 ∧ S 58 2 = 1) ∨ h d' = none := by
    rcases a8 with ⟨e1, e2⟩ | e
    · rcases D with ⟨e3, -, -, e4⟩ | ⟨-, e4, -⟩
      · rw [e3] at e2
        have : N' = 0 := e2
        omega
      · exact Or.inl ⟨e1, e4⟩
    · exact Or.inr e
  have hKd : K d' = none := by
    rcases hd with ⟨e1, e2⟩ | e
    · rw [e1]; exact (hc.1 8 2 (by decide) e2).2.1
    · cases hK : K d' with
      | none => rfl
      | some x => rw [hc.2.2.1 d' x hK] at e; cases e
  have hl8 : ∀ k i, k ≤ 10 → lad2 S N' (50 + k) i = 1 → S (50 + k) i = 1 ∨ (k = 8 ∧ i = 2) := by
    intro k i hk hh
    by_cases q : k = 8
    · subst q
      have hh' : (if 58 = 58 ∧ i = 2 then (1 : Int) else S 58 i) = 1 := hh
      split at hh'
      · rename_i z; exact Or.inr ⟨rfl, z.2⟩
      · exact Or.inl hh'
    · rw [lad2_r (by omega) (by omega) (by omega) (by omega)] at hh
      exact Or.inl hh
  have hne : ∀ k i, k ≤ 10 → S (50 + k) i = 1 → ¬ (k = 8 ∧ i = 2) → ad k i ≠ d' := by
    intro k i hk hh hn e
    rcases hd with ⟨e1, e2⟩ | e1
    · rw [e1] at e
      exact hn (hc.2.1 k i 8 2 hk (by decide) hh e2 e)
    · have := (hc.1 k i hk hh).1
      rw [e, e1] at this
      cases this
  have hld : ad 1 2 ≠ d' := fun e => a9 e.symm
  have hcel : ∀ k i, k ≤ 10 → S (50 + k) i = 1 → ¬ (k = 8 ∧ i = 2) → ¬ (k = 1 ∧ i = 2) → cel g (cup ad 8 2 d') (lad2 S N') k i = cel g ad S k i := by
    intro k i hk hh n8 n1
    have ek : ∀ a j, a ≠ 8 → cup ad 8 2 d' a j = ad a j := fun a j ha => cup_n _ _ (fun z => ha z.1)
    rcases k11 hk with rfl | rfl | rfl | rfl | rfl | rfl | rfl | rfl | rfl | rfl | rfl
    · rfl
    · have hi := h15 i (Or.inr hh)
      have hni : i ≠ 2 := fun e => n1 ⟨rfl, e⟩
      have e1 : cnt (lad2 S N') i = cnt S i := by rw [lad2_c S N' hi.1 hi.2, if_neg hni]
      have e2 : lad2 S N' 42 i = S 42 i := by
        show (if 42 = 42 ∧ i = 2 then _ else S 42 i) = _
        rw [if_neg (fun z => hni z.2)]
      have e3 : cup ad 8 2 d' 8 i = ad 8 i := cup_n _ _ (fun z => hni z.2)
      simp only [cel, fl1, e1, e2, e3]
    · rfl
    · rfl
    · rfl
    · rfl
    · rfl
    · rfl
    · have hi := h15 i (Or.inl hh)
      have hni : i ≠ 2 := fun e => n8 ⟨rfl, e⟩
      have e1 : cnt (lad2 S N') i = cnt S i := by rw [lad2_c S N' hi.1 hi.2, if_neg hni]
      have e2 : lad2 S N' 41 i = S 41 i := by
        show (if 41 = 41 ∧ i = 2 then (N' : Int) else S 41 i) = _
        rw [if_neg (fun z => hni z.2)]
      have e3 : elF (lad2 S N') (cup ad 8 2 d') i = elF S ad i := by
        funext j
        have b1 : elK (lad2 S N') i j = elK S i j := rfl
        have b2 : elI (lad2 S N') i j = elI S i j := rfl
        have b3 := elK_b S i j
        unfold elF
        rw [e1, b1, b2, ek _ _ (by omega)]
      simp only [cel, e2, e3]
    · rfl
    · rfl
  have hR9 : R32 (N' : Int) := by
    unfold capOk at a7
    unfold R32
    omega
  refine ⟨d', N', hR9, fun k i hk hh => ?_, fun k i k' i' hk hk' hh hh' e => ?_, fun a x ha => ?_, fun i hi => ?_, hc.2.2.2.2⟩
  · by_cases q8 : k = 8 ∧ i = 2
    · obtain ⟨rfl, rfl⟩ := q8
      rw [cup_s, a2]
      refine ⟨?_, hKd, by decide, by decide⟩
      have ef : elF (lad2 S N') (cup ad 8 2 d') 2 = f' := by
        funext j
        have b1 : elK (lad2 S N') 2 j = elK S 2 j := rfl
        have b2 : elI (lad2 S N') 2 j = elI S 2 j := rfl
        have b3 := elK_b S 2 j
        unfold elF
        rw [hcn', b1, b2, cup_n _ _ (fun z => by omega)]
        by_cases q : (j : Int) < S 6 0
        · rw [if_pos (by omega), a3 j q]
          unfold elF
          rw [if_pos (by rw [hcn]; exact q)]
        · by_cases q2 : (j : Int) = S 6 0
          · rw [if_pos (by omega), show j = (S 6 0).toNat by omega, a4, Int.toNat_of_nonneg h0, hk2, hk3]
          · rw [if_neg (by omega), a5 j (by omega)]
      show some (oarr g N' f') = some (oarr g (lad2 S N' 41 2).toNat (elF (lad2 S N') (cup ad 8 2 d') 2))
      rw [ef]
      rfl
    · have hh1 := (hl8 k i hk hh).resolve_right q8
      have w := hc.1 k i hk hh1
      by_cases q1 : k = 1 ∧ i = 2
      · obtain ⟨rfl, rfl⟩ := q1
        refine ⟨?_, w.2⟩
        show h' (ad 1 2) = some (.inr (0, [.int (iI (iI (S 42 2 + 1)).toInt), .ref (cup ad 8 2 d' 8 2), .int (iI (cnt (lad2 S N') 2))]))
        rw [a1, cup_s, hcn', show iI (iI (S 42 2 + 1)).toInt = iI (S 42 2 + 1) from Int32.ofInt_toInt _]
      · have e1 : cup ad 8 2 d' k i = ad k i := cup_n _ _ q8
        have e2 : ad k i ≠ ad 1 2 := fun e => q1 (hc.2.1 k i 1 2 hk (by decide) hh1 hl e)
        rw [e1, a10 _ e2 (hne k i hk hh1 q8), hcel k i hk hh1 q8 q1]
        exact w
  · have e1 : ∀ k i, k ≤ 10 → S (50 + k) i = 1 → ¬ (k = 8 ∧ i = 2) → cup ad 8 2 d' k i = ad k i := fun k i _ _ z => cup_n _ _ z
    by_cases q : k = 8 ∧ i = 2
    · by_cases q' : k' = 8 ∧ i' = 2
      · exact ⟨q.1.trans q'.1.symm, q.2.trans q'.2.symm⟩
      · have z := (hl8 k' i' hk' hh').resolve_right q'
        obtain ⟨rfl, rfl⟩ := q
        rw [cup_s, cup_n _ _ q'] at e
        exact absurd e.symm (hne k' i' hk' z q')
    · have z0 := (hl8 k i hk hh).resolve_right q
      by_cases q' : k' = 8 ∧ i' = 2
      · obtain ⟨rfl, rfl⟩ := q'
        rw [cup_s, cup_n _ _ q] at e
        exact absurd e (hne k i hk z0 q)
      · have z := (hl8 k' i' hk' hh').resolve_right q'
        rw [cup_n _ _ q, cup_n _ _ q'] at e
        exact hc.2.1 k i k' i' hk hk' z0 z e
  · have ka := hc.2.2.1 a x ha
    have k1 : a ≠ ad 1 2 := fun e => by rw [e, (hc.1 1 2 (by decide) hl).2.1] at ha; cases ha
    rw [a10 a k1 (fun e => by rw [e, hKd] at ha; cases ha)]
    exact ka
  · have hi' : S 51 i = 1 := hi
    have hb := h15 i (Or.inr hi')
    by_cases q : i = 2
    · subst q
      refine Or.inr ⟨?_, (show (if 58 = 58 ∧ (2 : Int) = 2 then (1 : Int) else S 58 2) = 1 from if_pos ⟨rfl, rfl⟩), ?_, ?_, ?_⟩
      · show capOk ((N' : Int)).toNat
        rw [Int.toNat_natCast]; exact a7
      · show (0 : Int) ≤ (N' : Int); omega
      · rw [hcn']; omega
      · rw [hcn']
        show S 6 0 + 1 ≤ (N' : Int)
        omega
    · have w := hc.2.2.2.1 i hi'
      have e1 : cnt (lad2 S N') i = cnt S i := by rw [lad2_c S N' hb.1 hb.2, if_neg q]
      have e2 : lad2 S N' 41 i = S 41 i := if_neg (fun z => q z.2)
      have e3 : lad2 S N' 58 i = S 58 i := if_neg (fun z => q z.2)
      have e4 : cup ad 8 2 d' 8 i = ad 8 i := cup_n _ _ (fun z => q z.2)
      have e5 : cup ad 8 2 d' 1 i = ad 1 i := rfl
      rw [e1, e2, e3, e4, e5]
      exact w
theorem t_al_add2_c {g : xG} {K : hp} {ad : cA} {S : gS} {QX : qKE} {ke : Nat} {ie : Int} (hW : Wf S) (h15 : ∀ i, S 58 i = 1 ∨ S 51 i = 1 → 1 ≤ i ∧ i ≤ 5) (hl : S 51 2 = 1) (h2 : 2 ≤ ke) (h5 : ke ≤ 5) (hk2 : elK S 2 (S 6 0) = ke) (hk3 : elI S 2 (S 6 0) = ie) (hle : S (50 + ke) ie = 1) (h33 : S 6 0 < 33) : cM g y_al_add_ngObject21 k_al_add_ngObject21 M_al_add_ngObject21 K [.ref (ad 1 2), .ref (ad ke ie)] ad S (fun v9 ad9 S9 => v9 = some (.int (iI 1)) ∧ ∃ d' N', R32 N' ∧ ad9 = cup ad 8 2 d' ∧ S9 = lad2 S N') QX := by
  intro h hc
  have D := hc.2.2.2.1 2 hl
  have hcn : cnt S 2 = S 6 0 := rfl
  obtain ⟨mi, hmi⟩ := hc.2.2.2.2.1
  obtain ⟨ci, fs, rr, e1, e2, e3⟩ := elOkC hc h2 h5 hle
  have hld : ad 8 2 ≠ ad 1 2 := by
    rcases D with ⟨-, -, e, -⟩ | ⟨-, e, -⟩
    · exact e
    · intro z
      have := (hc.2.1 8 2 1 2 (by decide) (by decide) e hl z).1
      omega
  have hle2 : ad ke ie ≠ ad 1 2 := fun z => by
    have := (hc.2.1 ke ie 1 2 (by omega) (by decide) hle hl z).1
    omega
  have hP : datP g h (ad 8 2) (S 41 2).toNat (cnt S 2) (elF S ad 2) := by
    refine ⟨?_, ?_, ?_, fun j hj => ?_, fun j y hj => ?_⟩
    · rcases D with ⟨a, b, -, -⟩ | ⟨a, b, -⟩
      · exact Or.inl ⟨by omega, b⟩
      · exact Or.inr ⟨a, hc.at 8 (by decide) b⟩
    · rcases D with ⟨-, -, -, e⟩ | ⟨-, -, -, e, -⟩ <;> omega
    · rcases D with ⟨e0, -, -, e⟩ | ⟨-, -, e0, e1, e2⟩ <;> omega
    · exact if_neg (by omega)
    · unfold elF at hj
      split at hj
      · rename_i z
        cases hj
        have b := elK_b S 2 j
        exact elOkC hc b.1 b.2 (hW.2.2.2.2.2.1 2 j hl (by omega) z)
      · cases hj
  refine xM.post (t_al_add_ngObject21 (QX := cE g K QX) (m := S 42 2) (n := cnt S 2) (hc.at 1 (by decide) hl) e1 e2 e3 hle2 hld hmi hP (by omega)) (fun v h' q => ?_) (fun _ _ q => q)
  obtain ⟨d', N', hR9, z⟩ := hc.add2 hW h15 hl hk2 hk3 hle q.2
  exact ⟨_, _, ⟨q.1, d', N', hR9, rfl, rfl⟩, z⟩
def lad3 (S : gS) (N' : Int) : gS := sset (sset (sset (sset S 41 3 N') 58 3 1) 42 3 (iI (S 42 3 + 1)).toInt) 11 0 (S 11 0 + 1)
theorem lad3_r {S : gS} {N' : Int} {k : Nat} (h41 : k ≠ 41) (h58 : k ≠ 58) (h42 : k ≠ 42) (hr : k ≠ 11) : lad3 S N' k = S k := by
  unfold lad3
  rw [sset_n _ _ _ hr, sset_n _ _ _ h42, sset_n _ _ _ h58, sset_n _ _ _ h41]
theorem lad3_c (S : gS) (N' : Int) {i : Int} (h0 : 1 ≤ i) (h1 : i ≤ 5) : cnt (lad3 S N') i = if i = 3 then cnt S i + 1 else cnt S i := by
  have : i = 1 ∨ i = 2 ∨ i = 3 ∨ i = 4 ∨ i = 5 := by omega
  rcases this with e | e | e | e | e <;> (subst e; rfl)
theorem cls.add3 {g : xG} {K : hp} {ad : cA} {S : gS} {h h' : hp} {ke : Nat} {ie : Int} (hc : cls g K ad S h) (hW : Wf S) (h15 : ∀ i, S 58 i = 1 ∨ S 51 i = 1 → 1 ≤ i ∧ i ≤ 5) (hl : S 51 3 = 1) (hk2 : elK S 3 (S 11 0) = ke) (hk3 : elI S 3 (S 11 0) = ie) (hle : S (50 + ke) ie = 1)
    (hp : addP g h (ad 1 3) (ad ke ie) (ad 8 3) (S 41 3).toNat (iI (S 42 3 + 1)) (S 11 0) (elF S ad 3) h') : ∃ d' N', R32 N' ∧ cls g K (cup ad 8 3 d') (lad3 S N') h' := by
  obtain ⟨d', N', f', a1, a2, a3, a4, a5, a6, a7, a8, a9, a10⟩ := hp
  have D := hc.2.2.2.1 3 hl
  have hcn : cnt S 3 = S 11 0 := rfl
  have hcn' : cnt (lad3 S N') 3 = S 11 0 + 1 := lad3_c S N' (by decide) (by decide)
  have h0 : 0 ≤ S 11 0 := by rcases D with ⟨-, -, -, e⟩ | ⟨-, -, -, e, -⟩ <;> omega
  -- where the row lies now: the old one that lived, or fresh
  have hd : (d' = ad 8 3 ∧ S 58 3 = 1) ∨ h d' = none := by
    rcases a8 with ⟨e1, e2⟩ | e
    · rcases D with ⟨e3, -, -, e4⟩ | ⟨-, e4, -⟩
      · rw [e3] at e2
        have : N' = 0 := e2
        omega
      · exact Or.inl ⟨e1, e4⟩
    · exact Or.inr e
  have hKd : K d' = none := by
    rcases hd with ⟨e1, e2⟩ | e
    · rw [e1]; exact (hc.1 8 3 (by decide) e2).2.1
    · cases hK : K d' with
      | none => rfl
      | some x => rw [hc.2.2.1 d' x hK] at e; cases e
  have hl8 : ∀ k i, k ≤ 10 → lad3 S N' (50 + k) i = 1 → S (50 + k) i = 1 ∨ (k = 8 ∧ i = 3) := by
    intro k i hk hh
    by_cases q : k = 8
    · subst q
      have hh' : (if 58 = 58 ∧ i = 3 then (1 : Int) else S 58 i) = 1 := hh
      split at hh'
      · rename_i z; exact Or.inr ⟨rfl, z.2⟩
      · exact Or.inl hh'
    · rw [lad3_r (by omega) (by omega) (by omega) (by omega)] at hh
      exact Or.inl hh
  have hne : ∀ k i, k ≤ 10 → S (50 + k) i = 1 → ¬ (k = 8 ∧ i = 3) → ad k i ≠ d' := by
    intro k i hk hh hn e
    rcases hd with ⟨e1, e2⟩ | e1
    · rw [e1] at e
      exact hn (hc.2.1 k i 8 3 hk (by decide) hh e2 e)
    · have := (hc.1 k i hk hh).1
      rw [e, e1] at this
      cases this
  have hld : ad 1 3 ≠ d' := fun e => a9 e.symm
  have hcel : ∀ k i, k ≤ 10 → S (50 + k) i = 1 → ¬ (k = 8 ∧ i = 3) → ¬ (k = 1 ∧ i = 3) → cel g (cup ad 8 3 d') (lad3 S N') k i = cel g ad S k i := by
    intro k i hk hh n8 n1
    have ek : ∀ a j, a ≠ 8 → cup ad 8 3 d' a j = ad a j := fun a j ha => cup_n _ _ (fun z => ha z.1)
    rcases k11 hk with rfl | rfl | rfl | rfl | rfl | rfl | rfl | rfl | rfl | rfl | rfl
    · rfl
    · have hi := h15 i (Or.inr hh)
      have hni : i ≠ 3 := fun e => n1 ⟨rfl, e⟩
      have e1 : cnt (lad3 S N') i = cnt S i := by rw [lad3_c S N' hi.1 hi.2, if_neg hni]
      have e2 : lad3 S N' 42 i = S 42 i := by
        show (if 42 = 42 ∧ i = 3 then _ else S 42 i) = _
        rw [if_neg (fun z => hni z.2)]
      have e3 : cup ad 8 3 d' 8 i = ad 8 i := cup_n _ _ (fun z => hni z.2)
      simp only [cel, fl1, e1, e2, e3]
    · rfl
    · rfl
    · rfl
    · rfl
    · rfl
    · rfl
    · have hi := h15 i (Or.inl hh)
      have hni : i ≠ 3 := fun e => n8 ⟨rfl, e⟩
      have e1 : cnt (lad3 S N') i = cnt S i := by rw [lad3_c S N' hi.1 hi.2, if_neg hni]
      have e2 : lad3 S N' 41 i = S 41 i := by
        show (if 41 = 41 ∧ i = 3 then (N' : Int) else S 41 i) = _
        rw [if_neg (fun z => hni z.2)]
      have e3 : elF (lad3 S N') (cup ad 8 3 d') i = elF S ad i := by
        funext j
        have b1 : elK (lad3 S N') i j = elK S i j := rfl
        have b2 : elI (lad3 S N') i j = elI S i j := rfl
        have b3 := elK_b S i j
        unfold elF
        rw [e1, b1, b2, ek _ _ (by omega)]
      simp only [cel, e2, e3]
    · rfl
    · rfl
  have hR9 : R32 (N' : Int) := by
    unfold capOk at a7
    unfold R32
    omega
  refine ⟨d', N', hR9, fun k i hk hh => ?_, fun k i k' i' hk hk' hh hh' e => ?_, fun a x ha => ?_, fun i hi => ?_, hc.2.2.2.2⟩
  · by_cases q8 : k = 8 ∧ i = 3
    · obtain ⟨rfl, rfl⟩ := q8
      rw [cup_s, a2]
      refine ⟨?_, hKd, by decide, by decide⟩
      have ef : elF (lad3 S N') (cup ad 8 3 d') 3 = f' := by
        funext j
        have b1 : elK (lad3 S N') 3 j = elK S 3 j := rfl
        have b2 : elI (lad3 S N') 3 j = elI S 3 j := rfl
        have b3 := elK_b S 3 j
        unfold elF
        rw [hcn', b1, b2, cup_n _ _ (fun z => by omega)]
        by_cases q : (j : Int) < S 11 0
        · rw [if_pos (by omega), a3 j q]
          unfold elF
          rw [if_pos (by rw [hcn]; exact q)]
        · by_cases q2 : (j : Int) = S 11 0
          · rw [if_pos (by omega), show j = (S 11 0).toNat by omega, a4, Int.toNat_of_nonneg h0, hk2, hk3]
          · rw [if_neg (by omega), a5 j (by omega)]
      show some (oarr g N' f') = some (oarr g (lad3 S N' 41 3).toNat (elF (lad3 S N') (cup ad 8 3 d') 3))
      rw [ef]
      rfl
    · have hh1 := (hl8 k i hk hh).resolve_right q8
      have w := hc.1 k i hk hh1
      by_cases q1 : k = 1 ∧ i = 3
      · obtain ⟨rfl, rfl⟩ := q1
        refine ⟨?_, w.2⟩
        show h' (ad 1 3) = some (.inr (0, [.int (iI (iI (S 42 3 + 1)).toInt), .ref (cup ad 8 3 d' 8 3), .int (iI (cnt (lad3 S N') 3))]))
        rw [a1, cup_s, hcn', show iI (iI (S 42 3 + 1)).toInt = iI (S 42 3 + 1) from Int32.ofInt_toInt _]
      · have e1 : cup ad 8 3 d' k i = ad k i := cup_n _ _ q8
        have e2 : ad k i ≠ ad 1 3 := fun e => q1 (hc.2.1 k i 1 3 hk (by decide) hh1 hl e)
        rw [e1, a10 _ e2 (hne k i hk hh1 q8), hcel k i hk hh1 q8 q1]
        exact w
  · have e1 : ∀ k i, k ≤ 10 → S (50 + k) i = 1 → ¬ (k = 8 ∧ i = 3) → cup ad 8 3 d' k i = ad k i := fun k i _ _ z => cup_n _ _ z
    by_cases q : k = 8 ∧ i = 3
    · by_cases q' : k' = 8 ∧ i' = 3
      · exact ⟨q.1.trans q'.1.symm, q.2.trans q'.2.symm⟩
      · have z := (hl8 k' i' hk' hh').resolve_right q'
        obtain ⟨rfl, rfl⟩ := q
        rw [cup_s, cup_n _ _ q'] at e
        exact absurd e.symm (hne k' i' hk' z q')
    · have z0 := (hl8 k i hk hh).resolve_right q
      by_cases q' : k' = 8 ∧ i' = 3
      · obtain ⟨rfl, rfl⟩ := q'
        rw [cup_s, cup_n _ _ q] at e
        exact absurd e (hne k i hk z0 q)
      · have z := (hl8 k' i' hk' hh').resolve_right q'
        rw [cup_n _ _ q, cup_n _ _ q'] at e
        exact hc.2.1 k i k' i' hk hk' z0 z e
  · have ka := hc.2.2.1 a x ha
    have k1 : a ≠ ad 1 3 := fun e => by rw [e, (hc.1 1 3 (by decide) hl).2.1] at ha; cases ha
    rw [a10 a k1 (fun e => by rw [e, hKd] at ha; cases ha)]
    exact ka
  · have hi' : S 51 i = 1 := hi
    have hb := h15 i (Or.inr hi')
    by_cases q : i = 3
    · subst q
      refine Or.inr ⟨?_, (show (if 58 = 58 ∧ (3 : Int) = 3 then (1 : Int) else S 58 3) = 1 from if_pos ⟨rfl, rfl⟩), ?_, ?_, ?_⟩
      · show capOk ((N' : Int)).toNat
        rw [Int.toNat_natCast]; exact a7
      · show (0 : Int) ≤ (N' : Int); omega
      · rw [hcn']; omega
      · rw [hcn']
        show S 11 0 + 1 ≤ (N' : Int)
        omega
    · have w := hc.2.2.2.1 i hi'
      have e1 : cnt (lad3 S N') i = cnt S i := by rw [lad3_c S N' hb.1 hb.2, if_neg q]
      have e2 : lad3 S N' 41 i = S 41 i := if_neg (fun z => q z.2)
      have e3 : lad3 S N' 58 i = S 58 i := if_neg (fun z => q z.2)
      have e4 : cup ad 8 3 d' 8 i = ad 8 i := cup_n _ _ (fun z => q z.2)
      have e5 : cup ad 8 3 d' 1 i = ad 1 i := rfl
      rw [e1, e2, e3, e4, e5]
      exact w
theorem t_al_add3_c {g : xG} {K : hp} {ad : cA} {S : gS} {QX : qKE} {ke : Nat} {ie : Int} (hW : Wf S) (h15 : ∀ i, S 58 i = 1 ∨ S 51 i = 1 → 1 ≤ i ∧ i ≤ 5) (hl : S 51 3 = 1) (h2 : 2 ≤ ke) (h5 : ke ≤ 5) (hk2 : elK S 3 (S 11 0) = ke) (hk3 : elI S 3 (S 11 0) = ie) (hle : S (50 + ke) ie = 1) (h33 : S 11 0 < 33) : cM g y_al_add_ngObject21 k_al_add_ngObject21 M_al_add_ngObject21 K [.ref (ad 1 3), .ref (ad ke ie)] ad S (fun v9 ad9 S9 => v9 = some (.int (iI 1)) ∧ ∃ d' N', R32 N' ∧ ad9 = cup ad 8 3 d' ∧ S9 = lad3 S N') QX := by
  intro h hc
  have D := hc.2.2.2.1 3 hl
  have hcn : cnt S 3 = S 11 0 := rfl
  obtain ⟨mi, hmi⟩ := hc.2.2.2.2.1
  obtain ⟨ci, fs, rr, e1, e2, e3⟩ := elOkC hc h2 h5 hle
  have hld : ad 8 3 ≠ ad 1 3 := by
    rcases D with ⟨-, -, e, -⟩ | ⟨-, e, -⟩
    · exact e
    · intro z
      have := (hc.2.1 8 3 1 3 (by decide) (by decide) e hl z).1
      omega
  have hle2 : ad ke ie ≠ ad 1 3 := fun z => by
    have := (hc.2.1 ke ie 1 3 (by omega) (by decide) hle hl z).1
    omega
  have hP : datP g h (ad 8 3) (S 41 3).toNat (cnt S 3) (elF S ad 3) := by
    refine ⟨?_, ?_, ?_, fun j hj => ?_, fun j y hj => ?_⟩
    · rcases D with ⟨a, b, -, -⟩ | ⟨a, b, -⟩
      · exact Or.inl ⟨by omega, b⟩
      · exact Or.inr ⟨a, hc.at 8 (by decide) b⟩
    · rcases D with ⟨-, -, -, e⟩ | ⟨-, -, -, e, -⟩ <;> omega
    · rcases D with ⟨e0, -, -, e⟩ | ⟨-, -, e0, e1, e2⟩ <;> omega
    · exact if_neg (by omega)
    · unfold elF at hj
      split at hj
      · rename_i z
        cases hj
        have b := elK_b S 3 j
        exact elOkC hc b.1 b.2 (hW.2.2.2.2.2.1 3 j hl (by omega) z)
      · cases hj
  refine xM.post (t_al_add_ngObject21 (QX := cE g K QX) (m := S 42 3) (n := cnt S 3) (hc.at 1 (by decide) hl) e1 e2 e3 hle2 hld hmi hP (by omega)) (fun v h' q => ?_) (fun _ _ q => q)
  obtain ⟨d', N', hR9, z⟩ := hc.add3 hW h15 hl hk2 hk3 hle q.2
  exact ⟨_, _, ⟨q.1, d', N', hR9, rfl, rfl⟩, z⟩
def lad4 (S : gS) (N' : Int) : gS := sset (sset (sset (sset S 41 4 N') 58 4 1) 42 4 (iI (S 42 4 + 1)).toInt) 23 0 (S 23 0 + 1)
theorem lad4_r {S : gS} {N' : Int} {k : Nat} (h41 : k ≠ 41) (h58 : k ≠ 58) (h42 : k ≠ 42) (hr : k ≠ 23) : lad4 S N' k = S k := by
  unfold lad4
  rw [sset_n _ _ _ hr, sset_n _ _ _ h42, sset_n _ _ _ h58, sset_n _ _ _ h41]
theorem lad4_c (S : gS) (N' : Int) {i : Int} (h0 : 1 ≤ i) (h1 : i ≤ 5) : cnt (lad4 S N') i = if i = 4 then cnt S i + 1 else cnt S i := by
  have : i = 1 ∨ i = 2 ∨ i = 3 ∨ i = 4 ∨ i = 5 := by omega
  rcases this with e | e | e | e | e <;> (subst e; rfl)
theorem cls.add4 {g : xG} {K : hp} {ad : cA} {S : gS} {h h' : hp} {ke : Nat} {ie : Int} (hc : cls g K ad S h) (hW : Wf S) (h15 : ∀ i, S 58 i = 1 ∨ S 51 i = 1 → 1 ≤ i ∧ i ≤ 5) (hl : S 51 4 = 1) (hk2 : elK S 4 (S 23 0) = ke) (hk3 : elI S 4 (S 23 0) = ie) (hle : S (50 + ke) ie = 1)
    (hp : addP g h (ad 1 4) (ad ke ie) (ad 8 4) (S 41 4).toNat (iI (S 42 4 + 1)) (S 23 0) (elF S ad 4) h') : ∃ d' N', R32 N' ∧ cls g K (cup ad 8 4 d') (lad4 S N') h' := by
  obtain ⟨d', N', f', a1, a2, a3, a4, a5, a6, a7, a8, a9, a10⟩ := hp
  have D := hc.2.2.2.1 4 hl
  have hcn : cnt S 4 = S 23 0 := rfl
  have hcn' : cnt (lad4 S N') 4 = S 23 0 + 1 := lad4_c S N' (by decide) (by decide)
  have h0 : 0 ≤ S 23 0 := by rcases D with ⟨-, -, -, e⟩ | ⟨-, -, -, e, -⟩ <;> omega
  -- where the row lies now: the old one that lived, or fresh
  have hd : (d' = ad 8 4 ∧ S 58 4 = 1) ∨ h d' = none := by
    rcases a8 with ⟨e1, e2⟩ | e
    · rcases D with ⟨e3, -, -, e4⟩ | ⟨-, e4, -⟩
      · rw [e3] at e2
        have : N' = 0 := e2
        omega
      · exact Or.inl ⟨e1, e4⟩
    · exact Or.inr e
  have hKd : K d' = none := by
    rcases hd with ⟨e1, e2⟩ | e
    · rw [e1]; exact (hc.1 8 4 (by decide) e2).2.1
    · cases hK : K d' with
      | none => rfl
      | some x => rw [hc.2.2.1 d' x hK] at e; cases e
  have hl8 : ∀ k i, k ≤ 10 → lad4 S N' (50 + k) i = 1 → S (50 + k) i = 1 ∨ (k = 8 ∧ i = 4) := by
    intro k i hk hh
    by_cases q : k = 8
    · subst q
      have hh' : (if 58 = 58 ∧ i = 4 then (1 : Int) else S 58 i) = 1 := hh
      split at hh'
      · rename_i z; exact Or.inr ⟨rfl, z.2⟩
      · exact Or.inl hh'
    · rw [lad4_r (by omega) (by omega) (by omega) (by omega)] at hh
      exact Or.inl hh
  have hne : ∀ k i, k ≤ 10 → S (50 + k) i = 1 → ¬ (k = 8 ∧ i = 4) → ad k i ≠ d' := by
    intro k i hk hh hn e
    rcases hd with ⟨e1, e2⟩ | e1
    · rw [e1] at e
      exact hn (hc.2.1 k i 8 4 hk (by decide) hh e2 e)
    · have := (hc.1 k i hk hh).1
      rw [e, e1] at this
      cases this
  have hld : ad 1 4 ≠ d' := fun e => a9 e.symm
  have hcel : ∀ k i, k ≤ 10 → S (50 + k) i = 1 → ¬ (k = 8 ∧ i = 4) → ¬ (k = 1 ∧ i = 4) → cel g (cup ad 8 4 d') (lad4 S N') k i = cel g ad S k i := by
    intro k i hk hh n8 n1
    have ek : ∀ a j, a ≠ 8 → cup ad 8 4 d' a j = ad a j := fun a j ha => cup_n _ _ (fun z => ha z.1)
    rcases k11 hk with rfl | rfl | rfl | rfl | rfl | rfl | rfl | rfl | rfl | rfl | rfl
    · rfl
    · have hi := h15 i (Or.inr hh)
      have hni : i ≠ 4 := fun e => n1 ⟨rfl, e⟩
      have e1 : cnt (lad4 S N') i = cnt S i := by rw [lad4_c S N' hi.1 hi.2, if_neg hni]
      have e2 : lad4 S N' 42 i = S 42 i := by
        show (if 42 = 42 ∧ i = 4 then _ else S 42 i) = _
        rw [if_neg (fun z => hni z.2)]
      have e3 : cup ad 8 4 d' 8 i = ad 8 i := cup_n _ _ (fun z => hni z.2)
      simp only [cel, fl1, e1, e2, e3]
    · rfl
    · rfl
    · rfl
    · rfl
    · rfl
    · rfl
    · have hi := h15 i (Or.inl hh)
      have hni : i ≠ 4 := fun e => n8 ⟨rfl, e⟩
      have e1 : cnt (lad4 S N') i = cnt S i := by rw [lad4_c S N' hi.1 hi.2, if_neg hni]
      have e2 : lad4 S N' 41 i = S 41 i := by
        show (if 41 = 41 ∧ i = 4 then (N' : Int) else S 41 i) = _
        rw [if_neg (fun z => hni z.2)]
      have e3 : elF (lad4 S N') (cup ad 8 4 d') i = elF S ad i := by
        funext j
        have b1 : elK (lad4 S N') i j = elK S i j := rfl
        have b2 : elI (lad4 S N') i j = elI S i j := rfl
        have b3 := elK_b S i j
        unfold elF
        rw [e1, b1, b2, ek _ _ (by omega)]
      simp only [cel, e2, e3]
    · rfl
    · rfl
  have hR9 : R32 (N' : Int) := by
    unfold capOk at a7
    unfold R32
    omega
  refine ⟨d', N', hR9, fun k i hk hh => ?_, fun k i k' i' hk hk' hh hh' e => ?_, fun a x ha => ?_, fun i hi => ?_, hc.2.2.2.2⟩
  · by_cases q8 : k = 8 ∧ i = 4
    · obtain ⟨rfl, rfl⟩ := q8
      rw [cup_s, a2]
      refine ⟨?_, hKd, by decide, by decide⟩
      have ef : elF (lad4 S N') (cup ad 8 4 d') 4 = f' := by
        funext j
        have b1 : elK (lad4 S N') 4 j = elK S 4 j := rfl
        have b2 : elI (lad4 S N') 4 j = elI S 4 j := rfl
        have b3 := elK_b S 4 j
        unfold elF
        rw [hcn', b1, b2, cup_n _ _ (fun z => by omega)]
        by_cases q : (j : Int) < S 23 0
        · rw [if_pos (by omega), a3 j q]
          unfold elF
          rw [if_pos (by rw [hcn]; exact q)]
        · by_cases q2 : (j : Int) = S 23 0
          · rw [if_pos (by omega), show j = (S 23 0).toNat by omega, a4, Int.toNat_of_nonneg h0, hk2, hk3]
          · rw [if_neg (by omega), a5 j (by omega)]
      show some (oarr g N' f') = some (oarr g (lad4 S N' 41 4).toNat (elF (lad4 S N') (cup ad 8 4 d') 4))
      rw [ef]
      rfl
    · have hh1 := (hl8 k i hk hh).resolve_right q8
      have w := hc.1 k i hk hh1
      by_cases q1 : k = 1 ∧ i = 4
      · obtain ⟨rfl, rfl⟩ := q1
        refine ⟨?_, w.2⟩
        show h' (ad 1 4) = some (.inr (0, [.int (iI (iI (S 42 4 + 1)).toInt), .ref (cup ad 8 4 d' 8 4), .int (iI (cnt (lad4 S N') 4))]))
        rw [a1, cup_s, hcn', show iI (iI (S 42 4 + 1)).toInt = iI (S 42 4 + 1) from Int32.ofInt_toInt _]
      · have e1 : cup ad 8 4 d' k i = ad k i := cup_n _ _ q8
        have e2 : ad k i ≠ ad 1 4 := fun e => q1 (hc.2.1 k i 1 4 hk (by decide) hh1 hl e)
        rw [e1, a10 _ e2 (hne k i hk hh1 q8), hcel k i hk hh1 q8 q1]
        exact w
  · have e1 : ∀ k i, k ≤ 10 → S (50 + k) i = 1 → ¬ (k = 8 ∧ i = 4) → cup ad 8 4 d' k i = ad k i := fun k i _ _ z => cup_n _ _ z
    by_cases q : k = 8 ∧ i = 4
    · by_cases q' : k' = 8 ∧ i' = 4
      · exact ⟨q.1.trans q'.1.symm, q.2.trans q'.2.symm⟩
      · have z := (hl8 k' i' hk' hh').resolve_right q'
        obtain ⟨rfl, rfl⟩ := q
        rw [cup_s, cup_n _ _ q'] at e
        exact absurd e.symm (hne k' i' hk' z q')
    · have z0 := (hl8 k i hk hh).resolve_right q
      by_cases q' : k' = 8 ∧ i' = 4
      · obtain ⟨rfl, rfl⟩ := q'
        rw [cup_s, cup_n _ _ q] at e
        exact absurd e (hne k i hk z0 q)
      · have z := (hl8 k' i' hk' hh').resolve_right q'
        rw [cup_n _ _ q, cup_n _ _ q'] at e
        exact hc.2.1 k i k' i' hk hk' z0 z e
  · have ka := hc.2.2.1 a x ha
    have k1 : a ≠ ad 1 4 := fun e => by rw [e, (hc.1 1 4 (by decide) hl).2.1] at ha; cases ha
    rw [a10 a k1 (fun e => by rw [e, hKd] at ha; cases ha)]
    exact ka
  · have hi' : S 51 i = 1 := hi
    have hb := h15 i (Or.inr hi')
    by_cases q : i = 4
    · subst q
      refine Or.inr ⟨?_, (show (if 58 = 58 ∧ (4 : Int) = 4 then (1 : Int) else S 58 4) = 1 from if_pos ⟨rfl, rfl⟩), ?_, ?_, ?_⟩
      · show capOk ((N' : Int)).toNat
        rw [Int.toNat_natCast]; exact a7
      · show (0 : Int) ≤ (N' : Int); omega
      · rw [hcn']; omega
      · rw [hcn']
        show S 23 0 + 1 ≤ (N' : Int)
        omega
    · have w := hc.2.2.2.1 i hi'
      have e1 : cnt (lad4 S N') i = cnt S i := by rw [lad4_c S N' hb.1 hb.2, if_neg q]
      have e2 : lad4 S N' 41 i = S 41 i := if_neg (fun z => q z.2)
      have e3 : lad4 S N' 58 i = S 58 i := if_neg (fun z => q z.2)
      have e4 : cup ad 8 4 d' 8 i = ad 8 i := cup_n _ _ (fun z => q z.2)
      have e5 : cup ad 8 4 d' 1 i = ad 1 i := rfl
      rw [e1, e2, e3, e4, e5]
      exact w
theorem t_al_add4_c {g : xG} {K : hp} {ad : cA} {S : gS} {QX : qKE} {ke : Nat} {ie : Int} (hW : Wf S) (h15 : ∀ i, S 58 i = 1 ∨ S 51 i = 1 → 1 ≤ i ∧ i ≤ 5) (hl : S 51 4 = 1) (h2 : 2 ≤ ke) (h5 : ke ≤ 5) (hk2 : elK S 4 (S 23 0) = ke) (hk3 : elI S 4 (S 23 0) = ie) (hle : S (50 + ke) ie = 1) (h33 : S 23 0 < 33) : cM g y_al_add_ngObject21 k_al_add_ngObject21 M_al_add_ngObject21 K [.ref (ad 1 4), .ref (ad ke ie)] ad S (fun v9 ad9 S9 => v9 = some (.int (iI 1)) ∧ ∃ d' N', R32 N' ∧ ad9 = cup ad 8 4 d' ∧ S9 = lad4 S N') QX := by
  intro h hc
  have D := hc.2.2.2.1 4 hl
  have hcn : cnt S 4 = S 23 0 := rfl
  obtain ⟨mi, hmi⟩ := hc.2.2.2.2.1
  obtain ⟨ci, fs, rr, e1, e2, e3⟩ := elOkC hc h2 h5 hle
  have hld : ad 8 4 ≠ ad 1 4 := by
    rcases D with ⟨-, -, e, -⟩ | ⟨-, e, -⟩
    · exact e
    · intro z
      have := (hc.2.1 8 4 1 4 (by decide) (by decide) e hl z).1
      omega
  have hle2 : ad ke ie ≠ ad 1 4 := fun z => by
    have := (hc.2.1 ke ie 1 4 (by omega) (by decide) hle hl z).1
    omega
  have hP : datP g h (ad 8 4) (S 41 4).toNat (cnt S 4) (elF S ad 4) := by
    refine ⟨?_, ?_, ?_, fun j hj => ?_, fun j y hj => ?_⟩
    · rcases D with ⟨a, b, -, -⟩ | ⟨a, b, -⟩
      · exact Or.inl ⟨by omega, b⟩
      · exact Or.inr ⟨a, hc.at 8 (by decide) b⟩
    · rcases D with ⟨-, -, -, e⟩ | ⟨-, -, -, e, -⟩ <;> omega
    · rcases D with ⟨e0, -, -, e⟩ | ⟨-, -, e0, e1, e2⟩ <;> omega
    · exact if_neg (by omega)
    · unfold elF at hj
      split at hj
      · rename_i z
        cases hj
        have b := elK_b S 4 j
        exact elOkC hc b.1 b.2 (hW.2.2.2.2.2.1 4 j hl (by omega) z)
      · cases hj
  refine xM.post (t_al_add_ngObject21 (QX := cE g K QX) (m := S 42 4) (n := cnt S 4) (hc.at 1 (by decide) hl) e1 e2 e3 hle2 hld hmi hP (by omega)) (fun v h' q => ?_) (fun _ _ q => q)
  obtain ⟨d', N', hR9, z⟩ := hc.add4 hW h15 hl hk2 hk3 hle q.2
  exact ⟨_, _, ⟨q.1, d', N', hR9, rfl, rfl⟩, z⟩
def lad5 (S : gS) (N' : Int) : gS := sset (sset (sset (sset S 41 5 N') 58 5 1) 42 5 (iI (S 42 5 + 1)).toInt) 43 0 (S 43 0 + 1)
theorem lad5_r {S : gS} {N' : Int} {k : Nat} (h41 : k ≠ 41) (h58 : k ≠ 58) (h42 : k ≠ 42) (hr : k ≠ 43) : lad5 S N' k = S k := by
  unfold lad5
  rw [sset_n _ _ _ hr, sset_n _ _ _ h42, sset_n _ _ _ h58, sset_n _ _ _ h41]
theorem lad5_c (S : gS) (N' : Int) {i : Int} (h0 : 1 ≤ i) (h1 : i ≤ 5) : cnt (lad5 S N') i = if i = 5 then cnt S i + 1 else cnt S i := by
  have : i = 1 ∨ i = 2 ∨ i = 3 ∨ i = 4 ∨ i = 5 := by omega
  rcases this with e | e | e | e | e <;> (subst e; rfl)
theorem cls.add5 {g : xG} {K : hp} {ad : cA} {S : gS} {h h' : hp} {ke : Nat} {ie : Int} (hc : cls g K ad S h) (hW : Wf S) (h15 : ∀ i, S 58 i = 1 ∨ S 51 i = 1 → 1 ≤ i ∧ i ≤ 5) (hl : S 51 5 = 1) (hk2 : elK S 5 (S 43 0) = ke) (hk3 : elI S 5 (S 43 0) = ie) (hle : S (50 + ke) ie = 1)
    (hp : addP g h (ad 1 5) (ad ke ie) (ad 8 5) (S 41 5).toNat (iI (S 42 5 + 1)) (S 43 0) (elF S ad 5) h') : ∃ d' N', R32 N' ∧ cls g K (cup ad 8 5 d') (lad5 S N') h' := by
  obtain ⟨d', N', f', a1, a2, a3, a4, a5, a6, a7, a8, a9, a10⟩ := hp
  have D := hc.2.2.2.1 5 hl
  have hcn : cnt S 5 = S 43 0 := rfl
  have hcn' : cnt (lad5 S N') 5 = S 43 0 + 1 := lad5_c S N' (by decide) (by decide)
  have h0 : 0 ≤ S 43 0 := by rcases D with ⟨-, -, -, e⟩ | ⟨-, -, -, e, -⟩ <;> omega
  -- where the row lies now: the old one that lived, or fresh
  have hd : (d' = ad 8 5 ∧ S 58 5 = 1) ∨ h d' = none := by
    rcases a8 with ⟨e1, e2⟩ | e
    · rcases D with ⟨e3, -, -, e4⟩ | ⟨-, e4, -⟩
      · rw [e3] at e2
        have : N' = 0 := e2
        omega
      · exact Or.inl ⟨e1, e4⟩
    · exact Or.inr e
  have hKd : K d' = none := by
    rcases hd with ⟨e1, e2⟩ | e
    · rw [e1]; exact (hc.1 8 5 (by decide) e2).2.1
    · cases hK : K d' with
      | none => rfl
      | some x => rw [hc.2.2.1 d' x hK] at e; cases e
  have hl8 : ∀ k i, k ≤ 10 → lad5 S N' (50 + k) i = 1 → S (50 + k) i = 1 ∨ (k = 8 ∧ i = 5) := by
    intro k i hk hh
    by_cases q : k = 8
    · subst q
      have hh' : (if 58 = 58 ∧ i = 5 then (1 : Int) else S 58 i) = 1 := hh
      split at hh'
      · rename_i z; exact Or.inr ⟨rfl, z.2⟩
      · exact Or.inl hh'
    · rw [lad5_r (by omega) (by omega) (by omega) (by omega)] at hh
      exact Or.inl hh
  have hne : ∀ k i, k ≤ 10 → S (50 + k) i = 1 → ¬ (k = 8 ∧ i = 5) → ad k i ≠ d' := by
    intro k i hk hh hn e
    rcases hd with ⟨e1, e2⟩ | e1
    · rw [e1] at e
      exact hn (hc.2.1 k i 8 5 hk (by decide) hh e2 e)
    · have := (hc.1 k i hk hh).1
      rw [e, e1] at this
      cases this
  have hld : ad 1 5 ≠ d' := fun e => a9 e.symm
  have hcel : ∀ k i, k ≤ 10 → S (50 + k) i = 1 → ¬ (k = 8 ∧ i = 5) → ¬ (k = 1 ∧ i = 5) → cel g (cup ad 8 5 d') (lad5 S N') k i = cel g ad S k i := by
    intro k i hk hh n8 n1
    have ek : ∀ a j, a ≠ 8 → cup ad 8 5 d' a j = ad a j := fun a j ha => cup_n _ _ (fun z => ha z.1)
    rcases k11 hk with rfl | rfl | rfl | rfl | rfl | rfl | rfl | rfl | rfl | rfl | rfl
    · rfl
    · have hi := h15 i (Or.inr hh)
      have hni : i ≠ 5 := fun e => n1 ⟨rfl, e⟩
      have e1 : cnt (lad5 S N') i = cnt S i := by rw [lad5_c S N' hi.1 hi.2, if_neg hni]
      have e2 : lad5 S N' 42 i = S 42 i := by
        show (if 42 = 42 ∧ i = 5 then _ else S 42 i) = _
        rw [if_neg (fun z => hni z.2)]
      have e3 : cup ad 8 5 d' 8 i = ad 8 i := cup_n _ _ (fun z => hni z.2)
      simp only [cel, fl1, e1, e2, e3]
    · rfl
    · rfl
    · rfl
    · rfl
    · rfl
    · rfl
    · have hi := h15 i (Or.inl hh)
      have hni : i ≠ 5 := fun e => n8 ⟨rfl, e⟩
      have e1 : cnt (lad5 S N') i = cnt S i := by rw [lad5_c S N' hi.1 hi.2, if_neg hni]
      have e2 : lad5 S N' 41 i = S 41 i := by
        show (if 41 = 41 ∧ i = 5 then (N' : Int) else S 41 i) = _
        rw [if_neg (fun z => hni z.2)]
      have e3 : elF (lad5 S N') (cup ad 8 5 d') i = elF S ad i := by
        funext j
        have b1 : elK (lad5 S N') i j = elK S i j := rfl
        have b2 : elI (lad5 S N') i j = elI S i j := rfl
        have b3 := elK_b S i j
        unfold elF
        rw [e1, b1, b2, ek _ _ (by omega)]
      simp only [cel, e2, e3]
    · rfl
    · rfl
  have hR9 : R32 (N' : Int) := by
    unfold capOk at a7
    unfold R32
    omega
  refine ⟨d', N', hR9, fun k i hk hh => ?_, fun k i k' i' hk hk' hh hh' e => ?_, fun a x ha => ?_, fun i hi => ?_, hc.2.2.2.2⟩
  · by_cases q8 : k = 8 ∧ i = 5
    · obtain ⟨rfl, rfl⟩ := q8
      rw [cup_s, a2]
      refine ⟨?_, hKd, by decide, by decide⟩
      have ef : elF (lad5 S N') (cup ad 8 5 d') 5 = f' := by
        funext j
        have b1 : elK (lad5 S N') 5 j = elK S 5 j := rfl
        have b2 : elI (lad5 S N') 5 j = elI S 5 j := rfl
        have b3 := elK_b S 5 j
        unfold elF
        rw [hcn', b1, b2, cup_n _ _ (fun z => by omega)]
        by_cases q : (j : Int) < S 43 0
        · rw [if_pos (by omega), a3 j q]
          unfold elF
          rw [if_pos (by rw [hcn]; exact q)]
        · by_cases q2 : (j : Int) = S 43 0
          · rw [if_pos (by omega), show j = (S 43 0).toNat by omega, a4, Int.toNat_of_nonneg h0, hk2, hk3]
          · rw [if_neg (by omega), a5 j (by omega)]
      show some (oarr g N' f') = some (oarr g (lad5 S N' 41 5).toNat (elF (lad5 S N') (cup ad 8 5 d') 5))
      rw [ef]
      rfl
    · have hh1 := (hl8 k i hk hh).resolve_right q8
      have w := hc.1 k i hk hh1
      by_cases q1 : k = 1 ∧ i = 5
      · obtain ⟨rfl, rfl⟩ := q1
        refine ⟨?_, w.2⟩
        show h' (ad 1 5) = some (.inr (0, [.int (iI (iI (S 42 5 + 1)).toInt), .ref (cup ad 8 5 d' 8 5), .int (iI (cnt (lad5 S N') 5))]))
        rw [a1, cup_s, hcn', show iI (iI (S 42 5 + 1)).toInt = iI (S 42 5 + 1) from Int32.ofInt_toInt _]
      · have e1 : cup ad 8 5 d' k i = ad k i := cup_n _ _ q8
        have e2 : ad k i ≠ ad 1 5 := fun e => q1 (hc.2.1 k i 1 5 hk (by decide) hh1 hl e)
        rw [e1, a10 _ e2 (hne k i hk hh1 q8), hcel k i hk hh1 q8 q1]
        exact w
  · have e1 : ∀ k i, k ≤ 10 → S (50 + k) i = 1 → ¬ (k = 8 ∧ i = 5) → cup ad 8 5 d' k i = ad k i := fun k i _ _ z => cup_n _ _ z
    by_cases q : k = 8 ∧ i = 5
    · by_cases q' : k' = 8 ∧ i' = 5
      · exact ⟨q.1.trans q'.1.symm, q.2.trans q'.2.symm⟩
      · have z := (hl8 k' i' hk' hh').resolve_right q'
        obtain ⟨rfl, rfl⟩ := q
        rw [cup_s, cup_n _ _ q'] at e
        exact absurd e.symm (hne k' i' hk' z q')
    · have z0 := (hl8 k i hk hh).resolve_right q
      by_cases q' : k' = 8 ∧ i' = 5
      · obtain ⟨rfl, rfl⟩ := q'
        rw [cup_s, cup_n _ _ q] at e
        exact absurd e (hne k i hk z0 q)
      · have z := (hl8 k' i' hk' hh').resolve_right q'
        rw [cup_n _ _ q, cup_n _ _ q'] at e
        exact hc.2.1 k i k' i' hk hk' z0 z e
  · have ka := hc.2.2.1 a x ha
    have k1 : a ≠ ad 1 5 := fun e => by rw [e, (hc.1 1 5 (by decide) hl).2.1] at ha; cases ha
    rw [a10 a k1 (fun e => by rw [e, hKd] at ha; cases ha)]
    exact ka
  · have hi' : S 51 i = 1 := hi
    have hb := h15 i (Or.inr hi')
    by_cases q : i = 5
    · subst q
      refine Or.inr ⟨?_, (show (if 58 = 58 ∧ (5 : Int) = 5 then (1 : Int) else S 58 5) = 1 from if_pos ⟨rfl, rfl⟩), ?_, ?_, ?_⟩
      · show capOk ((N' : Int)).toNat
        rw [Int.toNat_natCast]; exact a7
      · show (0 : Int) ≤ (N' : Int); omega
      · rw [hcn']; omega
      · rw [hcn']
        show S 43 0 + 1 ≤ (N' : Int)
        omega
    · have w := hc.2.2.2.1 i hi'
      have e1 : cnt (lad5 S N') i = cnt S i := by rw [lad5_c S N' hb.1 hb.2, if_neg q]
      have e2 : lad5 S N' 41 i = S 41 i := if_neg (fun z => q z.2)
      have e3 : lad5 S N' 58 i = S 58 i := if_neg (fun z => q z.2)
      have e4 : cup ad 8 5 d' 8 i = ad 8 i := cup_n _ _ (fun z => q z.2)
      have e5 : cup ad 8 5 d' 1 i = ad 1 i := rfl
      rw [e1, e2, e3, e4, e5]
      exact w
theorem t_al_add5_c {g : xG} {K : hp} {ad : cA} {S : gS} {QX : qKE} {ke : Nat} {ie : Int} (hW : Wf S) (h15 : ∀ i, S 58 i = 1 ∨ S 51 i = 1 → 1 ≤ i ∧ i ≤ 5) (hl : S 51 5 = 1) (h2 : 2 ≤ ke) (h5 : ke ≤ 5) (hk2 : elK S 5 (S 43 0) = ke) (hk3 : elI S 5 (S 43 0) = ie) (hle : S (50 + ke) ie = 1) (h33 : S 43 0 < 33) : cM g y_al_add_ngObject21 k_al_add_ngObject21 M_al_add_ngObject21 K [.ref (ad 1 5), .ref (ad ke ie)] ad S (fun v9 ad9 S9 => v9 = some (.int (iI 1)) ∧ ∃ d' N', R32 N' ∧ ad9 = cup ad 8 5 d' ∧ S9 = lad5 S N') QX := by
  intro h hc
  have D := hc.2.2.2.1 5 hl
  have hcn : cnt S 5 = S 43 0 := rfl
  obtain ⟨mi, hmi⟩ := hc.2.2.2.2.1
  obtain ⟨ci, fs, rr, e1, e2, e3⟩ := elOkC hc h2 h5 hle
  have hld : ad 8 5 ≠ ad 1 5 := by
    rcases D with ⟨-, -, e, -⟩ | ⟨-, e, -⟩
    · exact e
    · intro z
      have := (hc.2.1 8 5 1 5 (by decide) (by decide) e hl z).1
      omega
  have hle2 : ad ke ie ≠ ad 1 5 := fun z => by
    have := (hc.2.1 ke ie 1 5 (by omega) (by decide) hle hl z).1
    omega
  have hP : datP g h (ad 8 5) (S 41 5).toNat (cnt S 5) (elF S ad 5) := by
    refine ⟨?_, ?_, ?_, fun j hj => ?_, fun j y hj => ?_⟩
    · rcases D with ⟨a, b, -, -⟩ | ⟨a, b, -⟩
      · exact Or.inl ⟨by omega, b⟩
      · exact Or.inr ⟨a, hc.at 8 (by decide) b⟩
    · rcases D with ⟨-, -, -, e⟩ | ⟨-, -, -, e, -⟩ <;> omega
    · rcases D with ⟨e0, -, -, e⟩ | ⟨-, -, e0, e1, e2⟩ <;> omega
    · exact if_neg (by omega)
    · unfold elF at hj
      split at hj
      · rename_i z
        cases hj
        have b := elK_b S 5 j
        exact elOkC hc b.1 b.2 (hW.2.2.2.2.2.1 5 j hl (by omega) z)
      · cases hj
  refine xM.post (t_al_add_ngObject21 (QX := cE g K QX) (m := S 42 5) (n := cnt S 5) (hc.at 1 (by decide) hl) e1 e2 e3 hle2 hld hmi hP (by omega)) (fun v h' q => ?_) (fun _ _ q => q)
  obtain ⟨d', N', hR9, z⟩ := hc.add5 hW h15 hl hk2 hk3 hle q.2
  exact ⟨_, _, ⟨q.1, d', N', hR9, rfl, rfl⟩, z⟩
