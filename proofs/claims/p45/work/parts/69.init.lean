theorem w30o : Cond.methodLink "ContainerHost" 3 Lib.objectInit ∈ lw_tbl := mt (i := 29) (by decide +kernel)
theorem wA25 : Cond.classLink "ContainerHost" 25 "ContainerHost$Container" ∈ lw_tbl := mt (i := 58) (by decide +kernel)
theorem wO25 : Cond.arrayOver (.object "ContainerHost$Container") ∈ lw_tbl := mt (i := 59) (by decide +kernel)
/-- what the heap knows lies behind what was there at the start -/
theorem x_old {g : xG} {M : xMeth} {Q : qP} {QX : qE} {rc rs : Nat} {h : hp} {pc : Nat} {ls : List (Option Value)} {st : List Value} (kk : (∀ a e, h a = some e → gA g a) → xW g M Q QX rc rs h pc ls st) : xW g M Q QX rc rs h pc ls st := by
  intro G p e s m args below meth c H locs lsA cells slots C0 hh hl a1 a2
  obtain ⟨ws, hS, hP, hD, hV⟩ := id hh
  refine kk (fun a e9 h9 => ?_) G p e s m args below meth c H locs lsA cells slots C0 hh hl a1 a2
  have hm := hV a e9 h9
  obtain ⟨k, hk⟩ := List.getElem?_of_mem hm
  exact hD.2 k _ hk
/-- these cells stand, K's too -/
def Jn (K : hp) (L : List (Nat × va_E)) (h : hp) : Prop := (∀ (i : Nat) (p : Nat × va_E), L[i]? = some p → h p.1 = some p.2 ∧ K p.1 = none) ∧ (∀ (i j : Nat) (p q : Nat × va_E), L[i]? = some p → L[j]? = some q → p.1 = q.1 → i = j) ∧ ∀ a e, K a = some e → h a = some e
theorem Jn.at {K : hp} {L : List (Nat × va_E)} {h : hp} (hJ : Jn K L h) (i : Nat) {p : Nat × va_E} (hi : L[i]? = some p) : h p.1 = some p.2 := (hJ.1 i p hi).1
theorem Jn.born {K : hp} {L : List (Nat × va_E)} {h : hp} (hJ : Jn K L h) {q : Nat} (hq : h q = none) (e : va_E) : Jn K (L ++ [(q, e)]) (hset h q e) := by
  have hne : ∀ (i : Nat) (p : Nat × va_E), L[i]? = some p → p.1 ≠ q := fun i p hi e9 => by
    have := (hJ.1 i p hi).1
    rw [e9, hq] at this; cases this
  have hL : ∀ (i : Nat) (p : Nat × va_E), (L ++ [(q, e)])[i]? = some p → (i < L.length ∧ L[i]? = some p) ∨ (i = L.length ∧ p = (q, e)) := fun i p hi => by
    rcases (by omega : i < L.length ∨ L.length ≤ i) with z | z
    · rw [List.getElem?_append_left z] at hi
      exact Or.inl ⟨z, hi⟩
    · rw [List.getElem?_append_right z] at hi
      have h0 : i - L.length = 0 := by
        rcases Nat.eq_zero_or_pos (i - L.length) with y | y
        · exact y
        · rw [List.getElem?_eq_none (by show 1 ≤ _; omega)] at hi; cases hi
      rw [h0] at hi
      exact Or.inr ⟨by omega, (Option.some.inj hi).symm⟩
  refine ⟨fun i p hi => ?_, fun i j p r hi hj hpr => ?_, fun a x ha => ?_⟩
  · rcases hL i p hi with ⟨-, z⟩ | ⟨-, rfl⟩
    · rw [hset_n _ _ (hne i p z)]
      exact hJ.1 i p z
    · refine ⟨hset_s _ _ _, ?_⟩
      cases hK : K q with
      | none => rfl
      | some x => rw [hJ.2.2 q x hK] at hq; cases hq
  · rcases hL i p hi with ⟨a, z⟩ | ⟨a, rfl⟩ <;> rcases hL j r hj with ⟨b, y⟩ | ⟨b, rfl⟩
    · exact hJ.2.1 i j p r z y hpr
    · exact absurd hpr (hne i p z)
    · exact absurd hpr.symm (hne j r y)
    · omega
  · rw [hset_n _ _ (fun e9 => by rw [e9] at ha; rw [hJ.2.2 q x ha] at hq; cases hq)]
    exact hJ.2.2 a x ha
theorem Jn.set {K : hp} {L : List (Nat × va_E)} {h : hp} (hJ : Jn K L h) (n : Nat) {a : Nat} {e : va_E} (hn : L[n]? = some (a, e)) (e' : va_E) : Jn K (L.set n (a, e')) (hset h a e') := by
  have hL : ∀ (i : Nat) (p : Nat × va_E), (L.set n (a, e'))[i]? = some p → (i ≠ n ∧ L[i]? = some p) ∨ (i = n ∧ p = (a, e')) := fun i p hi => by
    by_cases z : n = i
    · subst z
      have hlt : n < L.length := (List.getElem?_eq_some_iff.mp hn).1
      rw [List.getElem?_set_self hlt] at hi
      exact Or.inr ⟨rfl, (Option.some.inj hi).symm⟩
    · rw [List.getElem?_set_ne z] at hi
      exact Or.inl ⟨fun y => z y.symm, hi⟩
  refine ⟨fun i p hi => ?_, fun i j p r hi hj hpr => ?_, fun b x hb => ?_⟩
  · rcases hL i p hi with ⟨a1, z⟩ | ⟨-, rfl⟩
    · rw [hset_n _ _ (fun e9 => a1 (hJ.2.1 i n p _ z hn e9))]
      exact hJ.1 i p z
    · exact ⟨hset_s _ _ _, (hJ.1 n _ hn).2⟩
  · rcases hL i p hi with ⟨a1, z⟩ | ⟨a1, rfl⟩ <;> rcases hL j r hj with ⟨b1, y⟩ | ⟨b1, rfl⟩
    · exact hJ.2.1 i j p r z y hpr
    · exact absurd (hJ.2.1 i n p _ z hn hpr) a1
    · exact absurd (hJ.2.1 j n r _ y hn hpr.symm) b1
    · omega
  · have h1 := (hJ.1 n _ hn).2
    rw [hset_n _ _ (fun e9 => by rw [e9] at hb; rw [h1] at hb; cases hb)]
    exact hJ.2.2 b x hb
/-- the grid at the start, but for the list of groups: empty yet -/
def SB : gS := fun k j => if k = 50 ∨ k = 53 ∨ k = 59 ∨ k = 60 then (if j = 0 then 1 else 0) else if k = 51 then (if 1 ≤ j ∧ j ≤ 5 then 1 else 0) else if k = 6 then 0 else S0 k j
theorem SB_r {k : Nat} (h : (k != 50 && k != 53 && k != 59 && k != 60 && k != 51 && k != 6) = true) : SB k = S0 k := by
  simp only [Bool.and_eq_true, bne_iff_ne] at h
  funext j
  unfold SB
  have c1 : ¬ (k = 50 ∨ k = 53 ∨ k = 59 ∨ k = 60) := by omega
  rw [if_neg c1, if_neg h.1.2, if_neg h.2]
theorem S0_z {k : Nat} (h : (k != 6 && k != 7 && k != 8 && k != 9 && k != 24) = true) (j : Int) : S0 k j = 0 := by
  simp only [Bool.and_eq_true, bne_iff_ne] at h
  unfold S0 S0n
  have c1 : ¬ (k = 24 ∧ 0 ≤ j ∧ j < 32) := fun z => h.2 z.1
  rw [if_neg c1]
  unfold S01
  rw [sset_n _ _ _ (by omega), sset_n _ _ _ (by omega), sset_n _ _ _ (by omega)]
  unfold S00
  have c2 : ¬ (k = 6 ∧ j = 0) := by omega
  exact if_neg c2
theorem SB_z {k : Nat} (h : (k != 50 && k != 53 && k != 59 && k != 60 && k != 51 && k != 6) = true) (h2 : (k != 6 && k != 7 && k != 8 && k != 9 && k != 24) = true) (j : Int) : SB k j = 0 := by
  rw [SB_r h, S0_z h2]
theorem SB_1 {k : Nat} (h : k = 50 ∨ k = 53 ∨ k = 59 ∨ k = 60) (j : Int) : SB k j = if j = 0 then 1 else 0 := if_pos h
theorem SB_51 (j : Int) : SB 51 j = if 1 ≤ j ∧ j ≤ 5 then 1 else 0 := rfl
theorem SB_6 (j : Int) : SB 6 j = 0 := rfl
theorem SB_24 {j : Int} (h0 : 0 ≤ j) (h1 : j < 32) : SB 24 j = -1 := by
  rw [SB_r rfl]
  unfold S0 S0n
  exact if_pos ⟨rfl, h0, h1⟩
theorem SB_cnt {n : Int} : cnt SB n = 0 := by
  unfold cnt
  rw [SB_z rfl rfl, SB_6, SB_z rfl rfl, SB_z rfl rfl, SB_z rfl rfl]
  (repeat' split) <;> rfl
theorem ite1 {c : Prop} [Decidable c] (h : (if c then (1 : Int) else 0) = 1) : c := by
  split at h
  · assumption
  · cases h
theorem SB_Wf : Wf SB := by
  refine ⟨fun i h => ?_, fun c h => ?_, fun k h => ?_, fun l h => ?_, fun p h => ?_, fun n j h h0 h1 => ?_, fun j h0 h1 => Or.inl (SB_24 h0 h1)⟩
  · rw [SB_z rfl rfl] at h; cases h
  · rw [SB_z rfl rfl] at h; cases h
  · rw [SB_z rfl rfl] at h; cases h
  · rw [SB_z rfl rfl] at h; cases h
  · rw [SB_1 (by decide)] at h
    have := ite1 h
    subst this
    exact Or.inl rfl
  · rw [SB_cnt] at h1; omega
theorem SB_agr (N' : Int) : agr (lad2 SB N') S0 := by
  intro k hk
  by_cases h6 : k = 6
  · subst h6
    funext j
    show (if 6 = 6 ∧ j = 0 then SB 6 0 + 1 else SB 6 j) = S0 6 j
    unfold S0 S0n
    have c1 : ¬ (6 = 24 ∧ 0 ≤ j ∧ j < 32) := by omega
    rw [if_neg c1]
    unfold S01
    rw [sset_n _ _ _ (by decide), sset_n _ _ _ (by decide), sset_n _ _ _ (by decide)]
    rfl
  · rw [lad2_r (by omega) (by omega) (by omega) h6]
    refine SB_r ?_
    simp only [Bool.and_eq_true, bne_iff_ne]
    omega
theorem SB_Ext {N' : Int} (hN : R32 N') : Ext (lad2 SB N') := by
  have r : ∀ k, (k != 41 && k != 58 && k != 42 && k != 6) = true → lad2 SB N' k = SB k := fun k h => by
    simp only [Bool.and_eq_true, bne_iff_ne] at h
    exact lad2_r h.1.1.1 h.1.1.2 h.1.2 h.2
  have e58 : ∀ j, lad2 SB N' 58 j = if j = 2 then 1 else 0 := fun j => by
    show (if 58 = 58 ∧ j = 2 then 1 else SB 58 j) = _
    rw [SB_z rfl rfl]
    by_cases z : j = 2
    · rw [if_pos ⟨rfl, z⟩, if_pos z]
    · rw [if_neg (fun y => z y.2), if_neg z]
  have e6 : lad2 SB N' 6 0 = 1 := rfl
  have z : ∀ k, (k != 41 && k != 58 && k != 42 && k != 6) = true → (k != 50 && k != 53 && k != 59 && k != 60 && k != 51 && k != 6) = true → (k != 6 && k != 7 && k != 8 && k != 9 && k != 24) = true → ∀ j, lad2 SB N' k j = 0 := fun k a b c j => by rw [r k a, SB_z b c]
  have hv : ∀ l, ¬ lvl (lad2 SB N') l := fun l h => by
    unfold lvl isCK at h
    rw [z 3 rfl rfl rfl, z 11 rfl rfl rfl, z 23 rfl rfl rfl] at h
    omega
  refine ⟨⟨rfl, fun n a b => ?_, fun i => ?_, fun p => ?_, fun c => ?_, fun k => ?_, fun l => ?_, fun l => ?_, rfl, rfl, fun n h => ?_, fun j a b => ?_⟩, fun p a b => ?_, fun c a b => ?_, ⟨fun i a b => ?_, fun j h => ?_⟩, fun p a b => ?_, fun k j hk => ?_⟩
  · rw [r 51 rfl, SB_51]; exact if_pos ⟨a, b⟩
  · rw [z 52 rfl rfl rfl, z 3 rfl rfl rfl]; omega
  · rw [r 53 rfl, SB_1 (by decide), e6]
    constructor
    · intro h; have := ite1 h; omega
    · intro h; exact if_pos (by omega)
  · rw [z 54 rfl rfl rfl, z 11 rfl rfl rfl]; omega
  · rw [z 55 rfl rfl rfl, z 23 rfl rfl rfl]; omega
  · rw [z 56 rfl rfl rfl]
    exact ⟨fun h => absurd h (by decide), fun h => absurd h (hv l)⟩
  · rw [z 57 rfl rfl rfl]
    exact ⟨fun h => absurd h (by decide), fun h => absurd h (hv l)⟩
  · rcases h with h | h
    · rw [e58] at h; have := ite1 h; omega
    · rw [r 51 rfl, SB_51] at h; exact ite1 h
  · rw [z 43 rfl rfl rfl] at b; omega
  · unfold memI prcI
    rw [z 30 rfl rfl rfl, z 31 rfl rfl rfl, z 11 rfl rfl rfl]
    exact ⟨rfl, rfl⟩
  · rw [z 11 rfl rfl rfl] at b; omega
  · rw [z 3 rfl rfl rfl] at b; omega
  · unfold isCK at h
    rw [z 11 rfl rfl rfl, z 23 rfl rfl rfl] at h
    omega
  · exact z 32 rfl rfl rfl p
  · by_cases h41 : k = 41
    · subst h41
      show R32 (if 41 = 41 ∧ j = 2 then N' else SB 41 j)
      rw [SB_z rfl rfl]
      split
      · exact hN
      · exact R32_0
    · by_cases h58 : k = 58
      · subst h58
        rw [e58]
        unfold R32
        split <;> omega
      · by_cases h42 : k = 42
        · subst h42
          show R32 (if 42 = 42 ∧ j = 2 then (iI (SB 42 2 + 1)).toInt else SB 42 j)
          rw [SB_z rfl rfl]
          split
          · exact ⟨Int32.le_toInt _, Int32.toInt_lt _⟩
          · exact R32_0
        · rw [lad2_r h41 h58 h42 (by omega)]
          unfold SB
          unfold R32
          split
          · split <;> omega
          · split
            · split <;> omega
            · split
              · omega
              · rw [S0_z (by simp only [Bool.and_eq_true, bne_iff_ne]; omega)]; omega
/-- where the new objects lie -/
def adI (x q1 q2 q3 q4 q9 q5 q10 p d : Nat) : cA := fun k i => if k = 0 then x else if k = 1 then (if i = 1 then q1 else if i = 2 then q2 else if i = 3 then q3 else if i = 4 then q4 else q5) else if k = 9 then q9 else if k = 10 then q10 else if k = 3 then p else d
def lvI : List (Nat × Int) := [(0, 0), (1, 1), (1, 2), (1, 3), (1, 4), (9, 0), (1, 5), (10, 0), (3, 0)]
theorem lvI_of {k : Nat} {i : Int} (hk : k ≤ 10) (h : SB (50 + k) i = 1) : ∃ n : Nat, lvI[n]? = some (k, i) := by
  rcases k11 hk with rfl | rfl | rfl | rfl | rfl | rfl | rfl | rfl | rfl | rfl | rfl
  · rw [SB_1 (by decide)] at h; have := ite1 h; subst this; exact ⟨0, rfl⟩
  · rw [SB_51] at h
    have := ite1 h
    have : i = 1 ∨ i = 2 ∨ i = 3 ∨ i = 4 ∨ i = 5 := by omega
    rcases this with rfl | rfl | rfl | rfl | rfl
    · exact ⟨1, rfl⟩
    · exact ⟨2, rfl⟩
    · exact ⟨3, rfl⟩
    · exact ⟨4, rfl⟩
    · exact ⟨6, rfl⟩
  · rw [SB_z rfl rfl] at h; cases h
  · rw [SB_1 (by decide)] at h; have := ite1 h; subst this; exact ⟨8, rfl⟩
  · rw [SB_z rfl rfl] at h; cases h
  · rw [SB_z rfl rfl] at h; cases h
  · rw [SB_z rfl rfl] at h; cases h
  · rw [SB_z rfl rfl] at h; cases h
  · rw [SB_z rfl rfl] at h; cases h
  · rw [SB_1 (by decide)] at h; have := ite1 h; subst this; exact ⟨5, rfl⟩
  · rw [SB_1 (by decide)] at h; have := ite1 h; subst this; exact ⟨7, rfl⟩
theorem cls_SB {g : xG} {K h : hp} {x q1 q2 q3 q4 q9 q5 q10 p d : Nat} (hD : isD g d) (hMi : ∃ mi, va_Mi "[Ljava/lang/Object;" mi g.2.1) (hpin : x = g.2.2.2.2 5) (hA : ∀ a e, h a = some e → gA g a) (hJ : Jn K [(x, .inr (6, [.ref q1, .ref q2, .ref q3, .ref q4, .ref q9, .ref q5, .ref q10])), (q1, .inr (0, [.int (iI 0), .ref d, .int (iI 0)])), (q2, .inr (0, [.int (iI 0), .ref d, .int (iI 0)])), (q3, .inr (0, [.int (iI 0), .ref d, .int (iI 0)])), (q4, .inr (0, [.int (iI 0), .ref d, .int (iI 0)])), (q9, carr g 32 (fun _ => none)), (q5, .inr (0, [.int (iI 0), .ref d, .int (iI 0)])), (q10, iarr g 28 (fun _ => 0)), (p, .inr (3, [.int (iI 1), .null, .int (iI 10000), .int (iI 100), .int (iI 0), .int (iI 0), .int (iI 0)]))] h) : cls g K (adI x q1 q2 q3 q4 q9 q5 q10 p d) SB h := by
  have hd : ∀ a e, h a = some e → d ≠ a := fun a e he z => by
    subst z
    obtain ⟨_, _, _, _, _, _, _, hn⟩ := hD.2
    exact hn (hA _ _ he)
  have hpb : pbF SB (adI x q1 q2 q3 q4 q9 q5 q10 p d) = fun _ => none := by
    funext j
    refine if_neg (fun z => z.2 (SB_24 (by omega) z.1))
  have h35 : SB 35 = fun _ => 0 := funext (SB_z rfl rfl)
  -- the n-th of the living objects is the n-th cell
  have hcell : ∀ (n k : Nat) (i : Int), lvI[n]? = some (k, i) → ∃ q, ([(x, .inr (6, [.ref q1, .ref q2, .ref q3, .ref q4, .ref q9, .ref q5, .ref q10])), (q1, .inr (0, [.int (iI 0), .ref d, .int (iI 0)])), (q2, .inr (0, [.int (iI 0), .ref d, .int (iI 0)])), (q3, .inr (0, [.int (iI 0), .ref d, .int (iI 0)])), (q4, .inr (0, [.int (iI 0), .ref d, .int (iI 0)])), (q9, carr g 32 (fun _ => none)), (q5, .inr (0, [.int (iI 0), .ref d, .int (iI 0)])), (q10, iarr g 28 (fun _ => 0)), (p, .inr (3, [.int (iI 1), .null, .int (iI 10000), .int (iI 100), .int (iI 0), .int (iI 0), .int (iI 0)]))] : List (Nat × va_E))[n]? = some q ∧ adI x q1 q2 q3 q4 q9 q5 q10 p d k i = q.1 ∧ cel g (adI x q1 q2 q3 q4 q9 q5 q10 p d) SB k i = q.2 ∧ 0 ≤ i ∧ i < bnd k := fun n k i hn => by
    match n, hn with
    | 0, hn => cases hn; exact ⟨_, rfl, rfl, rfl, by decide, by decide⟩
    | 1, hn => cases hn; exact ⟨_, rfl, rfl, rfl, by decide, by decide⟩
    | 2, hn => cases hn; exact ⟨_, rfl, rfl, rfl, by decide, by decide⟩
    | 3, hn => cases hn; exact ⟨_, rfl, rfl, rfl, by decide, by decide⟩
    | 4, hn => cases hn; exact ⟨_, rfl, rfl, rfl, by decide, by decide⟩
    | 5, hn => cases hn; exact ⟨_, rfl, rfl, by show carr g 32 (pbF SB _) = _; rw [hpb], by decide, by decide⟩
    | 6, hn => cases hn; exact ⟨_, rfl, rfl, rfl, by decide, by decide⟩
    | 7, hn => cases hn; exact ⟨_, rfl, rfl, by show iarr g 28 (SB 35) = _; rw [h35], by decide, by decide⟩
    | 8, hn => cases hn; exact ⟨_, rfl, rfl, rfl, by decide, by decide⟩
    | n + 9, hn => cases hn
  refine ⟨fun k i hk hl => ?_, fun k i k' i' hk hk' hl hl' e9 => ?_, hJ.2.2, fun n hn => Or.inl ⟨SB_z rfl rfl _, hD, ?_, SB_cnt⟩, hMi, hpin⟩
  · obtain ⟨n, hn⟩ := lvI_of hk hl
    obtain ⟨q, a, b, c, e, f⟩ := hcell n k i hn
    have := hJ.1 n q a
    rw [b, c]
    exact ⟨this.1, this.2, e, f⟩
  · obtain ⟨n, hn⟩ := lvI_of hk hl
    obtain ⟨n', hn'⟩ := lvI_of hk' hl'
    obtain ⟨q, a, b, -⟩ := hcell n k i hn
    obtain ⟨q', a', b', -⟩ := hcell n' k' i' hn'
    have := hJ.2.1 n n' q q' a a' (by rw [← b, ← b', e9])
    subst this
    rw [hn] at hn'
    cases hn'
    exact ⟨rfl, rfl⟩
  · have hk1 : SB (50 + 1) n = 1 := hn
    obtain ⟨m, hm⟩ := lvI_of (k := 1) (by decide) hk1
    obtain ⟨q, a, b, -⟩ := hcell m 1 n hm
    rw [b]
    exact hd _ _ (hJ.1 m q a).1
theorem h58I : ∀ i, SB 58 i = 1 ∨ SB 51 i = 1 → 1 ≤ i ∧ i ≤ 5 := fun i h => by
  rcases h with h | h
  · rw [SB_z rfl rfl] at h; cases h
  · rw [SB_51] at h; exact ite1 h
def hInit (g : xG) (K : hp) (x : Nat) : qP := fun v h9 => v = none ∧ ∃ ad S, ad 0 0 = x ∧ cls g K ad S h9 ∧ agr S S0 ∧ Ext S
theorem t_h_init {g : xG} {K h0 : hp} {QX : qE} {x d : Nat} (hD : isD g d) (hMi : ∃ mi, va_Mi "[Ljava/lang/Object;" mi g.2.1) (hpin : x = g.2.2.2.2 5) (hx : h0 x = some (.inr (6, [.null, .null, .null, .null, .null, .null, .null]))) (hK : K x = none) (hK2 : ∀ a e, K a = some e → h0 a = some e) : xM g y_h_init k_h_init M_h_init [.ref x] h0 (hInit g K x) QX := by
  refine xM.of rfl (by decide) rfl rfl rfl (by simp [Value.category]) (Nat.le_of_ble_eq_true rfl) rfl ?_
  have J0 : Jn K [(x, .inr (6, [.null, .null, .null, .null, .null, .null, .null]))] h0 := by
    refine ⟨fun i p hi => ?_, fun i j p q hi hj _ => ?_, hK2⟩
    · match i, hi with
      | 0, hi => cases hi; exact ⟨hx, hK⟩
      | i + 1, hi => cases hi
    · match i, j, hi, hj with
      | 0, 0, _, _ => rfl
      | i + 1, _, hi, _ => cases hi
      | _, j + 1, _, hj => cases hj
  refine x_aload_n d_h_init_0 rfl ?_
  refine x_objInit d_h_init_1 w30o wOI1 wOI2 (by decide) (by decide) (Nat.le_of_ble_eq_true rfl) ?_
  refine x_aload_n d_h_init_4 rfl ?_
  refine nw_h_9 (rc' := 8) (rs' := 132) d_h_init_5 rfl rfl rfl (fun q1 hq1 => ?_)
  have Bq1 := J0.born hq1 (.inr (0, zfJx4a65c))
  refine x_dup d_h_init_8 rfl ?_
  refine x_callI d_h_init_9 rfl q_h_init_11 s_al_init rfl (t_al_init hD (hset_s _ _ _)) rfl (by rfl) (Nat.le_of_ble_eq_true rfl) rfl rfl rfl (fun _ _ hx9 => hx9) ?_
  rintro _ _ ⟨rfl, rfl⟩
  have Cq1 := Bq1.set 1 rfl (.inr (0, [.int (iI 0), .ref d, .int (iI 0)]))
  refine fp_h_12_6 (Or.inr ⟨_, rfl⟩) d_h_init_12 rfl rfl (Cq1.at 0 rfl) (Nat.le_of_ble_eq_true rfl) ?_
  have Dq1 := Cq1.set 0 rfl (.inr (6, [.null, .null, .null, .null, .null, .null, .null].set 0 (.ref q1)))
  have Eq1 : Jn K [(x, .inr (6, [.ref q1, .null, .null, .null, .null, .null, .null])), (q1, .inr (0, [.int (iI 0), .ref d, .int (iI 0)]))] _ := Dq1
  clear Bq1 Cq1 Dq1
  generalize hset _ _ _ = hq19 at Eq1 ⊢
  refine x_aload_n d_h_init_15 rfl ?_
  refine nw_h_9 (rc' := 7) (rs' := 129) d_h_init_16 rfl rfl rfl (fun q2 hq2 => ?_)
  have Bq2 := Eq1.born hq2 (.inr (0, zfJx4a65c))
  refine x_dup d_h_init_19 rfl ?_
  refine x_callI d_h_init_20 rfl q_h_init_11 s_al_init rfl (t_al_init hD (hset_s _ _ _)) rfl (by rfl) (Nat.le_of_ble_eq_true rfl) rfl rfl rfl (fun _ _ hx9 => hx9) ?_
  rintro _ _ ⟨rfl, rfl⟩
  have Cq2 := Bq2.set 2 rfl (.inr (0, [.int (iI 0), .ref d, .int (iI 0)]))
  refine fp_h_16_6 (Or.inr ⟨_, rfl⟩) d_h_init_23 rfl rfl (Cq2.at 0 rfl) (Nat.le_of_ble_eq_true rfl) ?_
  have Dq2 := Cq2.set 0 rfl (.inr (6, [.ref q1, .null, .null, .null, .null, .null, .null].set 1 (.ref q2)))
  have Eq2 : Jn K [(x, .inr (6, [.ref q1, .ref q2, .null, .null, .null, .null, .null])), (q1, .inr (0, [.int (iI 0), .ref d, .int (iI 0)])), (q2, .inr (0, [.int (iI 0), .ref d, .int (iI 0)]))] _ := Dq2
  clear Bq2 Cq2 Dq2
  generalize hset _ _ _ = hq29 at Eq2 ⊢
  refine x_aload_n d_h_init_26 rfl ?_
  refine nw_h_9 (rc' := 6) (rs' := 126) d_h_init_27 rfl rfl rfl (fun q3 hq3 => ?_)
  have Bq3 := Eq2.born hq3 (.inr (0, zfJx4a65c))
  refine x_dup d_h_init_30 rfl ?_
  refine x_callI d_h_init_31 rfl q_h_init_11 s_al_init rfl (t_al_init hD (hset_s _ _ _)) rfl (by rfl) (Nat.le_of_ble_eq_true rfl) rfl rfl rfl (fun _ _ hx9 => hx9) ?_
  rintro _ _ ⟨rfl, rfl⟩
  have Cq3 := Bq3.set 3 rfl (.inr (0, [.int (iI 0), .ref d, .int (iI 0)]))
  refine fp_h_19_6 (Or.inr ⟨_, rfl⟩) d_h_init_34 rfl rfl (Cq3.at 0 rfl) (Nat.le_of_ble_eq_true rfl) ?_
  have Dq3 := Cq3.set 0 rfl (.inr (6, [.ref q1, .ref q2, .null, .null, .null, .null, .null].set 2 (.ref q3)))
  have Eq3 : Jn K [(x, .inr (6, [.ref q1, .ref q2, .ref q3, .null, .null, .null, .null])), (q1, .inr (0, [.int (iI 0), .ref d, .int (iI 0)])), (q2, .inr (0, [.int (iI 0), .ref d, .int (iI 0)])), (q3, .inr (0, [.int (iI 0), .ref d, .int (iI 0)]))] _ := Dq3
  clear Bq3 Cq3 Dq3
  generalize hset _ _ _ = hq39 at Eq3 ⊢
  refine x_aload_n d_h_init_37 rfl ?_
  refine nw_h_9 (rc' := 5) (rs' := 123) d_h_init_38 rfl rfl rfl (fun q4 hq4 => ?_)
  have Bq4 := Eq3.born hq4 (.inr (0, zfJx4a65c))
  refine x_dup d_h_init_41 rfl ?_
  refine x_callI d_h_init_42 rfl q_h_init_11 s_al_init rfl (t_al_init hD (hset_s _ _ _)) rfl (by rfl) (Nat.le_of_ble_eq_true rfl) rfl rfl rfl (fun _ _ hx9 => hx9) ?_
  rintro _ _ ⟨rfl, rfl⟩
  have Cq4 := Bq4.set 4 rfl (.inr (0, [.int (iI 0), .ref d, .int (iI 0)]))
  refine fp_h_22_6 (Or.inr ⟨_, rfl⟩) d_h_init_45 rfl rfl (Cq4.at 0 rfl) (Nat.le_of_ble_eq_true rfl) ?_
  have Dq4 := Cq4.set 0 rfl (.inr (6, [.ref q1, .ref q2, .ref q3, .null, .null, .null, .null].set 3 (.ref q4)))
  have Eq4 : Jn K [(x, .inr (6, [.ref q1, .ref q2, .ref q3, .ref q4, .null, .null, .null])), (q1, .inr (0, [.int (iI 0), .ref d, .int (iI 0)])), (q2, .inr (0, [.int (iI 0), .ref d, .int (iI 0)])), (q3, .inr (0, [.int (iI 0), .ref d, .int (iI 0)])), (q4, .inr (0, [.int (iI 0), .ref d, .int (iI 0)]))] _ := Dq4
  clear Bq4 Cq4 Dq4
  generalize hset _ _ _ = hq49 at Eq4 ⊢
  refine x_aload_n d_h_init_48 rfl ?_
  refine x_bipush d_h_init_49 (by decide) ?_
  refine x_anew (t := 4) (N' := 32) (rc' := 4) (rs' := 91) rfl wA25 wO25 rfl (by decide) rfl rfl d_h_init_51 (fun q9 hq9 => ?_)
  have Bq9 := Eq4.born hq9 (carr g 32 (fun _ => none))
  refine fp_h_27_6 (Or.inr ⟨_, rfl⟩) d_h_init_54 rfl rfl (Bq9.at 0 rfl) (Nat.le_of_ble_eq_true rfl) ?_
  have Dq9 := Bq9.set 0 rfl (.inr (6, [.ref q1, .ref q2, .ref q3, .ref q4, .null, .null, .null].set 4 (.ref q9)))
  have Eq9 : Jn K [(x, .inr (6, [.ref q1, .ref q2, .ref q3, .ref q4, .ref q9, .null, .null])), (q1, .inr (0, [.int (iI 0), .ref d, .int (iI 0)])), (q2, .inr (0, [.int (iI 0), .ref d, .int (iI 0)])), (q3, .inr (0, [.int (iI 0), .ref d, .int (iI 0)])), (q4, .inr (0, [.int (iI 0), .ref d, .int (iI 0)])), (q9, carr g 32 (fun _ => none))] _ := Dq9
  clear Bq9 Dq9
  generalize hset _ _ _ = hq99 at Eq9 ⊢
  refine x_aload_n d_h_init_57 rfl ?_
  refine nw_h_9 (rc' := 3) (rs' := 88) d_h_init_58 rfl rfl rfl (fun q5 hq5 => ?_)
  have Bq5 := Eq9.born hq5 (.inr (0, zfJx4a65c))
  refine x_dup d_h_init_61 rfl ?_
  refine x_callI d_h_init_62 rfl q_h_init_11 s_al_init rfl (t_al_init hD (hset_s _ _ _)) rfl (by rfl) (Nat.le_of_ble_eq_true rfl) rfl rfl rfl (fun _ _ hx9 => hx9) ?_
  rintro _ _ ⟨rfl, rfl⟩
  have Cq5 := Bq5.set 6 rfl (.inr (0, [.int (iI 0), .ref d, .int (iI 0)]))
  refine fp_h_31_6 (Or.inr ⟨_, rfl⟩) d_h_init_65 rfl rfl (Cq5.at 0 rfl) (Nat.le_of_ble_eq_true rfl) ?_
  have Dq5 := Cq5.set 0 rfl (.inr (6, [.ref q1, .ref q2, .ref q3, .ref q4, .ref q9, .null, .null].set 5 (.ref q5)))
  have Eq5 : Jn K [(x, .inr (6, [.ref q1, .ref q2, .ref q3, .ref q4, .ref q9, .ref q5, .null])), (q1, .inr (0, [.int (iI 0), .ref d, .int (iI 0)])), (q2, .inr (0, [.int (iI 0), .ref d, .int (iI 0)])), (q3, .inr (0, [.int (iI 0), .ref d, .int (iI 0)])), (q4, .inr (0, [.int (iI 0), .ref d, .int (iI 0)])), (q9, carr g 32 (fun _ => none)), (q5, .inr (0, [.int (iI 0), .ref d, .int (iI 0)]))] _ := Dq5
  clear Bq5 Cq5 Dq5
  generalize hset _ _ _ = hq59 at Eq5 ⊢
  refine x_aload_n d_h_init_68 rfl ?_
  refine x_bipush d_h_init_69 (by decide) ?_
  refine x_newarr (at0 := .int) (ty := .int) (t := 0) (N' := 28) (rc' := 2) (rs' := 60) (a0 := (28, .inl (fun _ => iI 0))) rfl rfl (fun _ z => by cases z) wI (fun _ => rfl) rfl (by decide) (by decide) rfl rfl d_h_init_71 (fun q10 hq10 => ?_)
  have Bq10 := Eq5.born hq10 (iarr g 28 (fun _ => 0))
  refine fp_h_34_6 (Or.inr ⟨_, rfl⟩) d_h_init_73 rfl rfl (Bq10.at 0 rfl) (Nat.le_of_ble_eq_true rfl) ?_
  have Dq10 := Bq10.set 0 rfl (.inr (6, [.ref q1, .ref q2, .ref q3, .ref q4, .ref q9, .ref q5, .null].set 6 (.ref q10)))
  have Eq10 : Jn K [(x, .inr (6, [.ref q1, .ref q2, .ref q3, .ref q4, .ref q9, .ref q5, .ref q10])), (q1, .inr (0, [.int (iI 0), .ref d, .int (iI 0)])), (q2, .inr (0, [.int (iI 0), .ref d, .int (iI 0)])), (q3, .inr (0, [.int (iI 0), .ref d, .int (iI 0)])), (q4, .inr (0, [.int (iI 0), .ref d, .int (iI 0)])), (q9, carr g 32 (fun _ => none)), (q5, .inr (0, [.int (iI 0), .ref d, .int (iI 0)])), (q10, iarr g 28 (fun _ => 0))] _ := Dq10
  clear Bq10 Dq10
  generalize hset _ _ _ = hq109 at Eq10 ⊢
  refine x_aload_n d_h_init_76 rfl ?_
  refine fg_h_16_6 d_h_init_77 rfl (Eq10.at 0 rfl) rfl ?_
  refine nw_h_38 (rc' := 1) (rs' := 53) d_h_init_80 rfl rfl rfl (fun p hp => ?_)
  have Bp := Eq10.born hp (.inr (3, zfX2))
  refine x_dup d_h_init_83 rfl ?_
  refine x_null d_h_init_84 ?_
  refine x_sipush d_h_init_85 (by decide) ?_
  refine x_bipush d_h_init_88 (by decide) ?_
  refine x_iconst d_h_init_90 ?_
  refine x_callI d_h_init_91 rfl q_h_init_40 s_g_init rfl (t_g_initN (hset_s _ _ _)) rfl (by rfl) (Nat.le_of_ble_eq_true rfl) rfl rfl rfl (fun _ _ hx9 => hx9) ?_
  rintro _ _ ⟨rfl, rfl⟩
  have Cp := Bp.set 8 rfl (.inr (3, [.int (iI 1), .null, .int (iI 10000), .int (iI 100), .int (iI 0), .int (iI 0), .int (iI 0)]))
  have Ep : Jn K [(x, .inr (6, [.ref q1, .ref q2, .ref q3, .ref q4, .ref q9, .ref q5, .ref q10])), (q1, .inr (0, [.int (iI 0), .ref d, .int (iI 0)])), (q2, .inr (0, [.int (iI 0), .ref d, .int (iI 0)])), (q3, .inr (0, [.int (iI 0), .ref d, .int (iI 0)])), (q4, .inr (0, [.int (iI 0), .ref d, .int (iI 0)])), (q9, carr g 32 (fun _ => none)), (q5, .inr (0, [.int (iI 0), .ref d, .int (iI 0)])), (q10, iarr g 28 (fun _ => 0)), (p, .inr (3, [.int (iI 1), .null, .int (iI 10000), .int (iI 100), .int (iI 0), .int (iI 0), .int (iI 0)]))] _ := Cp
  clear Bp Cp
  generalize hset _ _ _ = hp9 at Ep ⊢
  refine x_old (fun hA => ?_)
  have hC := cls_SB hD hMi hpin hA Ep
  refine x_callV (r := (RJx4a65c, TJx4a65c, 3)) d_h_init_94 q_h_init_43 s_al_add_ngObject21 v_al_add_ngObject21 (t_al_add2_c (QX := fun _ _ _ => False) (ke := 3) (ie := 0) SB_Wf h58I (by decide) (by decide) (by decide) rfl rfl rfl (by decide) hp9 hC) (Ep.at 2 rfl) rfl rfl rfl rfl (Nat.le_of_ble_eq_true rfl) rfl rfl rfl (fun E h' z => by obtain ⟨_, _, z, _⟩ := z; exact z.elim) ?_
  rintro _ h9 ⟨_, _, ⟨rfl, d', N', hN9, rfl, rfl⟩, hc9⟩
  refine x_pop d_h_init_97 rfl ?_
  exact x_vret rfl d_h_init_98 ⟨rfl, _, _, (cup_n _ _ (by decide)).trans rfl, hc9, SB_agr _, SB_Ext hN9⟩
