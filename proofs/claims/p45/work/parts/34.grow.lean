theorem hset_hset (h : hp) (a : Nat) (e e' : va_E) : hset (hset h a e) a e' = hset h a e' := by
  funext q; unfold hset; split <;> rfl
def elOk (h : hp) (y : Nat) : Prop := ∃ ci fs r, h y = some (.inr (ci, fs)) ∧ vwCl[ci]? = some r ∧ Cond.castable r.1 "java/lang/Object" ∈ lw_tbl
theorem elOk.fresh {h : hp} {y q : Nat} {e : va_E} (hy : elOk h y) (hq : h q = none) : elOk (hset h q e) y := by
  obtain ⟨ci, fs, r, h1, h2, h3⟩ := hy
  exact ⟨ci, fs, r, by rw [hset_n h e (fun z => by rw [z, hq] at h1; cases h1)]; exact h1, h2, h3⟩
def nwD (h : hp) (g : xG) (n N : Nat) (f : Nat → Option Nat) : qP := fun v h9 => ∃ q, h q = none ∧ v = some (.ref q) ∧ h9 = hset h q (oarr g n (va_cpy f (fun _ => none) 0 0 (if (n : Int) < N then (n : Int) else N).toNat))
theorem t_ar_copyOf_angClass58 {g : xG} {h : hp} {QX : qE} {a n N mi : Nat} {f : Nat → Option Nat}  (hM : va_Mi "[Ljava/lang/Object;" mi g.2.1) (ha : h a = some (oarr g N f)) (hN : N < 2147483648) (hn : n ≤ 33) (hel : ∀ i y, f i = some y → elOk h y) : xM g y_ar_copyOf_angClass58 k_ar_copyOf_angClass58 M_ar_copyOf_angClass58 [.ref a, .int (iI (n : Int)), .ref mi] h (nwD h g n N f) QX := by
  refine xM.of rfl (by decide) rfl rfl rfl (by simp [Value.category]) (Nat.le_of_ble_eq_true rfl) rfl ?_
  refine x_aload_n d_ar_copyOf_angClass58_0 rfl ?_
  refine x_ldcM hM d_ar_copyOf_angClass58_1 wOc ?_
  refine x_acmp_ne (tgt := 13) (rx := some mi) (ry := some mi) d_ar_copyOf_angClass58_3 (by decide) rfl rfl (fun z => absurd rfl z) (fun _ => ?_)
  refine x_iload_n d_ar_copyOf_angClass58_6 rfl ?_
  refine x_anew (t := 3) (N' := n) (rc' := 0) (rs' := 33 - n) rfl wOo wOa rfl (by omega) rfl (by show 33 = 33 - n + n; omega) d_ar_copyOf_angClass58_7 (fun q hq => ?_)
  have haq : a ≠ q := fun e => by rw [← e, ha] at hq; cases hq
  have ha2 : hset h q (oarr g n (fun _ => none)) a = some (oarr g N f) := (hset_n h _ haq).trans ha
  have hmn : 0 ≤ (if (n : Int) < N then (n : Int) else N) ∧ (if (n : Int) < N then (n : Int) else N) ≤ n ∧ (if (n : Int) < N then (n : Int) else N) ≤ N := by split <;> omega
  refine x_goto (tgt := 24) d_ar_copyOf_angClass58_10 (by decide) ?_
  refine x_astore_n d_ar_copyOf_angClass58_24 (by decide) ?_
  refine x_aload_n d_ar_copyOf_angClass58_25 rfl ?_
  refine x_iconst d_ar_copyOf_angClass58_26 ?_
  refine x_aload_n d_ar_copyOf_angClass58_27 rfl ?_
  refine x_iconst d_ar_copyOf_angClass58_28 ?_
  refine x_aload_n d_ar_copyOf_angClass58_29 rfl ?_
  refine x_alen (t := 3) (ty := .object "java/lang/Object") rfl d_ar_copyOf_angClass58_30 ha2 ?_
  refine x_iload_n d_ar_copyOf_angClass58_31 rfl ?_
  refine x_mmin (a := (N : Int)) (b := (n : Int)) (by unfold R32; omega) (by unfold R32; omega) d_ar_copyOf_angClass58_32 wMl2 (by decide) (by decide) (Nat.le_of_ble_eq_true rfl) ?_
  refine x_copyO d_ar_copyOf_angClass58_35 wAc0 wAc1 wAc2 wAc3 ha2 (hset_s _ _ _) hmn.1 (by omega) hmn.2.2 hmn.2.1 (fun i _ y hy => (hel i y hy).fresh hq) (by decide) (by decide) (Nat.le_of_ble_eq_true rfl) ?_
  refine x_aload_n d_ar_copyOf_angClass58_38 rfl ?_
  exact x_aret rfl (Or.inr ⟨_, rfl⟩) (Or.inr ⟨_, rfl⟩) d_ar_copyOf_angClass58_39 (⟨q, hq, rfl, hset_hset _ _ _ _⟩)
theorem t_ar_copyOf_gObjectI41 {g : xG} {h : hp} {QX : qE} {a n N mi : Nat} {f : Nat → Option Nat}  (hM : va_Mi "[Ljava/lang/Object;" mi g.2.1) (ha : h a = some (oarr g N f)) (hN : N < 2147483648) (hn : n ≤ 33) (hel : ∀ i y, f i = some y → elOk h y) : xM g y_ar_copyOf_gObjectI41 k_ar_copyOf_gObjectI41 M_ar_copyOf_gObjectI41 [.ref a, .int (iI (n : Int))] h (nwD h g n N f) QX := by
  refine xM.of rfl (by decide) rfl rfl rfl (by simp [Value.category]) (Nat.le_of_ble_eq_true rfl) rfl ?_
  refine x_aload_n d_ar_copyOf_gObjectI41_0 rfl ?_
  refine x_iload_n d_ar_copyOf_gObjectI41_1 rfl ?_
  refine x_aload_n d_ar_copyOf_gObjectI41_2 rfl ?_
  refine x_getC hM d_ar_copyOf_gObjectI41_3 wGc0 wGc1 wGc2 wGc3 wGc4 ha (by decide) (by decide) (Nat.le_of_ble_eq_true rfl) ?_
  refine x_callS d_ar_copyOf_gObjectI41_6 q_ar_copyOf_gObjectI41_300 s_ar_copyOf_angClass58 (t_ar_copyOf_angClass58 hM ha hN hn hel) rfl rfl (Nat.le_of_ble_eq_true rfl) rfl rfl rfl (fun _ _ hx9 => hx9) ?_
  rintro _ _ ⟨q, hq, rfl, rfl⟩
  exact x_aret rfl (Or.inr ⟨_, rfl⟩) (Or.inr ⟨_, rfl⟩) d_ar_copyOf_gObjectI41_9 (⟨q, hq, rfl, rfl⟩)
theorem x_alenO {g : xG} {M : xMeth} {Q : qP} {QX : qE} {rc rs : Nat} {h : hp} {pc : Nat} {ls : List (Option Value)} {st : List Value} {a N : Nat} {f : Nat → Option Nat} (d : decode M.2.1 pc = .ok (.arraylength, 1)) (ha : h a = some (oarr g N f)) (kk : xW g M Q QX rc rs h (pc + 1) ls (.int (iI (N : Int)) :: st)) : xW g M Q QX rc rs h pc ls (.ref a :: st) := x_alen (t := 3) (ty := .object "java/lang/Object") rfl d ha kk
def nwL (h : hp) (g : xG) (l : Nat) (mc : Int32) (n : Int) (C : Nat) (f : Nat → Option Nat) : qP := fun v h9 => ∃ q, h q = none ∧ v = some (.ref q) ∧ h9 = hset (hset h q (oarr g C f)) l (.inr (0, [.int mc, .ref q, .int (iI n)]))
theorem t_growA {g : xG} {h : hp} {QX : qE} {l d : Nat} {n m : Int} {mc : Int32} (hl : h l = some (.inr (0, [.int mc, .ref d, .int (iI n)]))) (hD : isD g d) (h1 : 1 ≤ m) (h2 : m ≤ 10) : xM g y_al_grow_I22 k_al_grow_I22 M_al_grow_I22 [.ref l, .int (iI m)] h (nwL h g l mc n 10 (fun _ => none)) QX := by
  refine xM.of rfl (by decide) rfl rfl rfl (by simp [Value.category]) (Nat.le_of_ble_eq_true rfl) rfl ?_
  refine x_aload_n d_al_grow_I22_0 rfl ?_
  refine fg_al_9_0 d_al_grow_I22_1 rfl hl rfl ?_
  refine x_alenD hD d_al_grow_I22_4 ?_
  refine x_istore_n d_al_grow_I22_5 (by decide) ?_
  refine x_iload_n d_al_grow_I22_6 rfl ?_
  refine x_if_gt (tgt := 20) d_al_grow_I22_7 (by decide) (by first | assumption | (unfold R32; omega)) (fun z7 => ?_) (fun z7 => ?_)
  · exfalso; omega
  · refine x_aload_n d_al_grow_I22_10 rfl ?_
    refine fg_al_9_0 d_al_grow_I22_11 rfl hl rfl ?_
    refine x_gets hD d_al_grow_I22_14 wDf ?_
    refine x_acmp_eq (tgt := 45) (rx := some d) (ry := some d) d_al_grow_I22_17 (by decide) rfl rfl (fun _ => ?_) (fun z => absurd rfl z)
    refine x_aload_n d_al_grow_I22_45 rfl ?_
    refine x_bipush d_al_grow_I22_46 (by decide) ?_
    refine x_iload_n d_al_grow_I22_48 rfl ?_
    refine x_mmax (by unfold R32; omega) (by unfold R32; omega) d_al_grow_I22_49 wMl1 (by decide) (by decide) (Nat.le_of_ble_eq_true rfl) ?_
    rw [if_neg (show ¬ (10 : Int) < m by omega)]
    refine x_anew (t := 3) (N' := 10) (rc' := 0) (rs' := 23) rfl wOp wOa rfl (by decide) rfl rfl d_al_grow_I22_52 (fun q hq => ?_)
    have hlq : l ≠ q := fun e => by rw [← e, hl] at hq; cases hq
    have hl2 := fun e => (hset_n _ e hlq).trans hl
    refine x_dup_x1 d_al_grow_I22_55 rfl rfl ?_
    refine fp_al_9_0 (Or.inr ⟨_, rfl⟩) d_al_grow_I22_56 rfl (hl2 _) (Nat.le_of_ble_eq_true rfl) ?_
    exact x_aret rfl (Or.inr ⟨_, rfl⟩) (Or.inr ⟨_, rfl⟩) d_al_grow_I22_59 (⟨q, hq, rfl, rfl⟩)
theorem t_growB {g : xG} {h : hp} {QX : qE} {l d N C mi : Nat} {n : Int} {mc : Int32} {f : Nat → Option Nat} (hl : h l = some (.inr (0, [.int mc, .ref d, .int (iI n)]))) (hM : va_Mi "[Ljava/lang/Object;" mi g.2.1) (hd : h d = some (oarr g N f)) (hc : (N = 10 ∧ C = 15) ∨ (N = 15 ∧ C = 22) ∨ (N = 22 ∧ C = 33)) (hel : ∀ i y, f i = some y → elOk h y) : xM g y_al_grow_I22 k_al_grow_I22 M_al_grow_I22 [.ref l, .int (iI ((N : Int) + 1))] h (nwL h g l mc n C (va_cpy f (fun _ => none) 0 0 N)) QX := by
  refine xM.of rfl (by decide) rfl rfl rfl (by simp [Value.category]) (Nat.le_of_ble_eq_true rfl) rfl ?_
  have hNC : 10 ≤ N ∧ N ≤ 22 ∧ C ≤ 33 ∧ ¬ (C : Int) < N := by omega
  have hsh : ∀ x : Int, x = (N : Int) / 2 → (N : Int) + (if (N : Int) + 1 - N < x then x else (N : Int) + 1 - N) = (C : Int) := fun x hx => by rw [if_pos (by omega)]; omega
  refine x_aload_n d_al_grow_I22_0 rfl ?_
  refine fg_al_9_0 d_al_grow_I22_1 rfl hl rfl ?_
  refine x_alenO d_al_grow_I22_4 hd ?_
  refine x_istore_n d_al_grow_I22_5 (by decide) ?_
  refine x_iload_n d_al_grow_I22_6 rfl ?_
  refine x_if_gt (tgt := 20) d_al_grow_I22_7 (by decide) (by first | assumption | (unfold R32; omega)) (fun z7 => ?_) (fun z7 => ?_)
  · refine x_iload_n d_al_grow_I22_20 rfl ?_
    refine x_iload_n d_al_grow_I22_21 rfl ?_
    refine x_iload_n d_al_grow_I22_22 rfl ?_
    refine x_isub d_al_grow_I22_23 ?_
    refine x_iload_n d_al_grow_I22_24 rfl ?_
    refine x_iconst d_al_grow_I22_25 ?_
    refine x_ishrI d_al_grow_I22_26 (by omega) (by omega) (by omega) (by omega) ?_
    rw [show (2 : Int) ^ Int.toNat 1 = 2 from rfl]
    refine x_callS d_al_grow_I22_27 q_al_grow_I22_73 s_as_newLength (t_as_newLength (by omega) (by omega) (by omega) (by omega) (by omega) (by omega)) rfl rfl (Nat.le_of_ble_eq_true rfl) rfl rfl rfl (fun _ _ hx9 => hx9) ?_
    rintro _ _ ⟨rfl, rfl⟩
    rw [hsh _ rfl]
    refine x_istore_n d_al_grow_I22_30 (by decide) ?_
    refine x_aload_n d_al_grow_I22_31 rfl ?_
    refine x_aload_n d_al_grow_I22_32 rfl ?_
    refine fg_al_9_0 d_al_grow_I22_33 rfl hl rfl ?_
    refine x_iload_n d_al_grow_I22_36 rfl ?_
    refine x_callS d_al_grow_I22_37 q_al_grow_I22_66 s_ar_copyOf_gObjectI41 (t_ar_copyOf_gObjectI41 (n := C) hM hd (by omega) (by omega) hel) rfl rfl (Nat.le_of_ble_eq_true rfl) rfl rfl rfl (fun _ _ hx9 => hx9) ?_
    rintro _ _ ⟨q, hq, rfl, rfl⟩
    rw [if_neg hNC.2.2.2, Int.toNat_natCast]
    have hlq : l ≠ q := fun e => by rw [← e, hl] at hq; cases hq
    have hl2 := fun e => (hset_n _ e hlq).trans hl
    refine x_dup_x1 d_al_grow_I22_40 rfl rfl ?_
    refine fp_al_9_0 (Or.inr ⟨_, rfl⟩) d_al_grow_I22_41 rfl (hl2 _) (Nat.le_of_ble_eq_true rfl) ?_
    exact x_aret rfl (Or.inr ⟨_, rfl⟩) (Or.inr ⟨_, rfl⟩) d_al_grow_I22_44 (⟨q, hq, rfl, rfl⟩)
  · exfalso; omega
