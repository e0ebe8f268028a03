def capOk (N : Nat) : Prop := N = 10 ∨ N = 15 ∨ N = 22 ∨ N = 33
/-- what adding e to a list of n elements leaves -/
def addP (g : xG) (h : hp) (l e d N : Nat) (mc : Int32) (n : Int) (f : Nat → Option Nat) (h9 : hp) : Prop := ∃ (d' N' : Nat) (f' : Nat → Option Nat), h9 l = some (.inr (0, [.int mc, .ref d', .int (iI (n + 1))])) ∧ h9 d' = some (oarr g N' f') ∧ (∀ i : Nat, (i : Int) < n → f' i = f i) ∧ f' n.toNat = some e ∧ (∀ i : Nat, n < (i : Int) → f' i = none) ∧ n + 1 ≤ N' ∧ capOk N' ∧ ((d' = d ∧ N' = N) ∨ h d' = none) ∧ d' ≠ l ∧ ∀ a, a ≠ l → a ≠ d' → h9 a = h a
theorem addP.of1 {g : xG} {h : hp} {l e d N : Nat} {mc : Int32} {n : Int} {f : Nat → Option Nat} (hld : l ≠ d) (h0 : 0 ≤ n) (hn : n < N) (hc : capOk N) (hf : ∀ i : Nat, n ≤ (i : Int) → f i = none) : addP g h l e d N mc n f (hset (hset h d (oarr g N (va_up f n.toNat (some e)))) l (.inr (0, [.int mc, .ref d, .int (iI (n + 1))]))) := by
  refine ⟨d, N, va_up f n.toNat (some e), hset_s _ _ _, (hset_n _ _ hld.symm).trans (hset_s _ _ _), fun i hi => va_up_ne _ _ (by omega), va_up_self _ _ _, fun i hi => (va_up_ne _ _ (by omega)).trans (hf i (by omega)), by omega, hc, Or.inl ⟨rfl, rfl⟩, hld.symm, fun a ha hd => (hset_n _ _ ha).trans (hset_n _ _ hd)⟩
theorem addP.of2 {g : xG} {h : hp} {l e d N q C : Nat} {mc : Int32} {n : Int} {f f2 : Nat → Option Nat} {X Y : va_E} (hq : h q = none) (hlq : l ≠ q) (h0 : 0 ≤ n) (hn : n < C) (hc : capOk C) (hf : ∀ i : Nat, (i : Int) < n → f2 i = f i) (hf2 : ∀ i : Nat, n < (i : Int) → f2 i = none) : addP g h l e d N mc n f (hset (hset (hset (hset h q X) l Y) q (oarr g C (va_up f2 n.toNat (some e)))) l (.inr (0, [.int mc, .ref q, .int (iI (n + 1))]))) := by
  refine ⟨q, C, va_up f2 n.toNat (some e), hset_s _ _ _, (hset_n _ _ hlq.symm).trans (hset_s _ _ _), fun i hi => (va_up_ne _ _ (by omega)).trans (hf i hi), va_up_self _ _ _, fun i hi => (va_up_ne _ _ (by omega)).trans (hf2 i hi), by omega, hc, Or.inr hq, hlq.symm, fun a ha hd => (hset_n _ _ ha).trans ((hset_n _ _ hd).trans ((hset_n _ _ ha).trans (hset_n _ _ hd)))⟩
theorem t_grow1A {g : xG} {h : hp} {QX : qE} {l d : Nat} {n : Int} {mc : Int32} (hl : h l = some (.inr (0, [.int mc, .ref d, .int (iI n)]))) (hD : isD g d) (h1 : 0 ≤ n) (h2 : n ≤ 9) : xM g y_al_grow_21 k_al_grow_21 M_al_grow_21 [.ref l] h (nwL h g l mc n 10 (fun _ => none)) QX := by
  refine xM.of rfl (by decide) rfl rfl rfl (by simp [Value.category]) (Nat.le_of_ble_eq_true rfl) rfl ?_
  refine x_aload_n d_al_grow_21_0 rfl ?_
  refine x_aload_n d_al_grow_21_1 rfl ?_
  refine fg_al_48_0 d_al_grow_21_2 rfl hl rfl ?_
  refine x_iconst d_al_grow_21_5 ?_
  refine x_iadd d_al_grow_21_6 ?_
  refine x_callV (r := (RJx4a65c, TJx4a65c, 3)) d_al_grow_21_7 q_al_grow_21_69 s_al_grow_I22 v_al_grow_I22 (t_growA hl hD (by omega) (by omega)) hl rfl rfl rfl rfl (Nat.le_of_ble_eq_true rfl) rfl rfl rfl (fun _ _ hx9 => hx9) ?_
  rintro _ _ ⟨q, hq, rfl, rfl⟩
  exact x_aret rfl (Or.inr ⟨_, rfl⟩) (Or.inr ⟨_, rfl⟩) d_al_grow_21_10 (⟨q, hq, rfl, rfl⟩)
theorem t_grow1B {g : xG} {h : hp} {QX : qE} {l d N C mi : Nat} {mc : Int32} {f : Nat → Option Nat} (hl : h l = some (.inr (0, [.int mc, .ref d, .int (iI (N : Int))]))) (hM : va_Mi "[Ljava/lang/Object;" mi g.2.1) (hd : h d = some (oarr g N f)) (hc : (N = 10 ∧ C = 15) ∨ (N = 15 ∧ C = 22) ∨ (N = 22 ∧ C = 33)) (hel : ∀ i y, f i = some y → elOk h y) : xM g y_al_grow_21 k_al_grow_21 M_al_grow_21 [.ref l] h (nwL h g l mc (N : Int) C (va_cpy f (fun _ => none) 0 0 N)) QX := by
  refine xM.of rfl (by decide) rfl rfl rfl (by simp [Value.category]) (Nat.le_of_ble_eq_true rfl) rfl ?_
  refine x_aload_n d_al_grow_21_0 rfl ?_
  refine x_aload_n d_al_grow_21_1 rfl ?_
  refine fg_al_48_0 d_al_grow_21_2 rfl hl rfl ?_
  refine x_iconst d_al_grow_21_5 ?_
  refine x_iadd d_al_grow_21_6 ?_
  refine x_callV (r := (RJx4a65c, TJx4a65c, 3)) d_al_grow_21_7 q_al_grow_21_69 s_al_grow_I22 v_al_grow_I22 (t_growB hl hM hd hc hel) hl rfl rfl rfl rfl (Nat.le_of_ble_eq_true rfl) rfl rfl rfl (fun _ _ hx9 => hx9) ?_
  rintro _ _ ⟨q, hq, rfl, rfl⟩
  exact x_aret rfl (Or.inr ⟨_, rfl⟩) (Or.inr ⟨_, rfl⟩) d_al_grow_21_10 (⟨q, hq, rfl, rfl⟩)
theorem t_add1 {g : xG} {h : hp} {QX : qE} {l e d N : Nat} {n : Int} {mc : Int32} {f : Nat → Option Nat} (hl : h l = some (.inr (0, [.int mc, .ref d, .int (iI n)]))) {ci : Nat} {r : vw_C} {fs : List Value} (he : h e = some (.inr (ci, fs))) (hci : vwCl[ci]? = some r) (hca : Cond.castable r.1 "java/lang/Object" ∈ lw_tbl) (hd : h d = some (oarr g N f)) (h0 : 0 ≤ n) (hn : n < N) (hc : capOk N) (hf : ∀ i : Nat, n ≤ (i : Int) → f i = none) : xM g y_al_add_gObjectI41 k_al_add_gObjectI41 M_al_add_gObjectI41 [.ref l, .ref e, .ref d, .int (iI n)] h (fun v h9 => v = none ∧ addP g h l e d N mc n f h9) QX := by
  refine xM.of rfl (by decide) rfl rfl rfl (by simp [Value.category]) (Nat.le_of_ble_eq_true rfl) rfl ?_
  have hld : l ≠ d := fun z => by rw [z, hd] at hl; cases hl
  have hN33 : N ≤ 33 := by unfold capOk at hc; omega
  refine x_iload_n d_al_add_gObjectI41_0 rfl ?_
  refine x_aload_n d_al_add_gObjectI41_1 rfl ?_
  refine x_alenO d_al_add_gObjectI41_2 hd ?_
  refine x_icmp_ne (tgt := 11) d_al_add_gObjectI41_3 (by decide) (by first | assumption | (unfold R32; omega)) (by first | assumption | (unfold R32; omega)) (fun z3 => ?_) (fun z3 => ?_)
  · refine x_aload_n d_al_add_gObjectI41_11 rfl ?_
    refine x_iload_n d_al_add_gObjectI41_12 rfl ?_
    refine x_aload_n d_al_add_gObjectI41_13 rfl ?_
    refine x_aastO hca hci d_al_add_gObjectI41_14 hd he (by omega) h0 hn ?_
    refine x_aload_n d_al_add_gObjectI41_15 rfl ?_
    refine x_iload_n d_al_add_gObjectI41_16 rfl ?_
    refine x_iconst d_al_add_gObjectI41_17 ?_
    refine x_iadd d_al_add_gObjectI41_18 ?_
    refine fp_al_48_0 d_al_add_gObjectI41_19 rfl ((hset_n _ _ hld).trans hl) (Nat.le_of_ble_eq_true rfl) ?_
    exact x_vret rfl d_al_add_gObjectI41_22 (⟨rfl, addP.of1 hld h0 hn hc hf⟩)
  · exfalso; omega
theorem t_addA {g : xG} {h : hp} {QX : qE} {l e d : Nat} {n : Int} {mc : Int32} {f : Nat → Option Nat} (hl : h l = some (.inr (0, [.int mc, .ref d, .int (iI n)]))) {ci : Nat} {r : vw_C} {fs : List Value} (he : h e = some (.inr (ci, fs))) (hci : vwCl[ci]? = some r) (hca : Cond.castable r.1 "java/lang/Object" ∈ lw_tbl) (hle : e ≠ l) (hD : isD g d) (hn : n = 0) : xM g y_al_add_gObjectI41 k_al_add_gObjectI41 M_al_add_gObjectI41 [.ref l, .ref e, .ref d, .int (iI n)] h (fun v h9 => v = none ∧ addP g h l e d 0 mc n f h9) QX := by
  refine xM.of rfl (by decide) rfl rfl rfl (by simp [Value.category]) (Nat.le_of_ble_eq_true rfl) rfl ?_
  refine x_iload_n d_al_add_gObjectI41_0 rfl ?_
  refine x_aload_n d_al_add_gObjectI41_1 rfl ?_
  refine x_alenD hD d_al_add_gObjectI41_2 ?_
  refine x_icmp_ne (tgt := 11) d_al_add_gObjectI41_3 (by decide) (by first | assumption | (unfold R32; omega)) (by first | assumption | (unfold R32; omega)) (fun z3 => ?_) (fun z3 => ?_)
  · exfalso; omega
  · refine x_aload_n d_al_add_gObjectI41_6 rfl ?_
    refine x_callV (r := (RJx4a65c, TJx4a65c, 3)) d_al_add_gObjectI41_7 q_al_add_gObjectI41_129 s_al_grow_21 v_al_grow_21 (t_grow1A hl hD (by omega) (by omega)) hl rfl rfl rfl rfl (Nat.le_of_ble_eq_true rfl) rfl rfl rfl (fun _ _ hx9 => hx9) ?_
    rintro _ _ ⟨q, hq, rfl, rfl⟩
    have hlq : l ≠ q := fun z => by rw [← z, hl] at hq; cases hq
    have hqe : e ≠ q := fun z => by rw [← z, he] at hq; cases hq
    refine x_astore_n d_al_add_gObjectI41_10 (by decide) ?_
    refine x_aload_n d_al_add_gObjectI41_11 rfl ?_
    refine x_iload_n d_al_add_gObjectI41_12 rfl ?_
    refine x_aload_n d_al_add_gObjectI41_13 rfl ?_
    refine x_aastO hca hci d_al_add_gObjectI41_14 ((hset_n _ _ hlq.symm).trans (hset_s _ _ _)) ((hset_n _ _ hle).trans ((hset_n _ _ hqe).trans he)) (by omega) (by omega) (by omega) ?_
    refine x_aload_n d_al_add_gObjectI41_15 rfl ?_
    refine x_iload_n d_al_add_gObjectI41_16 rfl ?_
    refine x_iconst d_al_add_gObjectI41_17 ?_
    refine x_iadd d_al_add_gObjectI41_18 ?_
    refine fp_al_48_0 d_al_add_gObjectI41_19 rfl ((hset_n _ _ hlq).trans (hset_s _ _ _)) (Nat.le_of_ble_eq_true rfl) ?_
    exact x_vret rfl d_al_add_gObjectI41_22 (⟨rfl, addP.of2 hq hlq (by omega) (by omega) (Or.inl rfl) (fun k hk => by omega) (fun _ _ => rfl)⟩)
theorem t_addB {g : xG} {h : hp} {QX : qE} {l e d N C mi : Nat} {mc : Int32} {f : Nat → Option Nat} (hl : h l = some (.inr (0, [.int mc, .ref d, .int (iI (N : Int))]))) {ci : Nat} {r : vw_C} {fs : List Value} (he : h e = some (.inr (ci, fs))) (hci : vwCl[ci]? = some r) (hca : Cond.castable r.1 "java/lang/Object" ∈ lw_tbl) (hle : e ≠ l) (hM : va_Mi "[Ljava/lang/Object;" mi g.2.1) (hd : h d = some (oarr g N f)) (hc : (N = 10 ∧ C = 15) ∨ (N = 15 ∧ C = 22) ∨ (N = 22 ∧ C = 33)) (hel : ∀ i y, f i = some y → elOk h y) : xM g y_al_add_gObjectI41 k_al_add_gObjectI41 M_al_add_gObjectI41 [.ref l, .ref e, .ref d, .int (iI (N : Int))] h (fun v h9 => v = none ∧ addP g h l e d N mc (N : Int) f h9) QX := by
  refine xM.of rfl (by decide) rfl rfl rfl (by simp [Value.category]) (Nat.le_of_ble_eq_true rfl) rfl ?_
  refine x_iload_n d_al_add_gObjectI41_0 rfl ?_
  refine x_aload_n d_al_add_gObjectI41_1 rfl ?_
  refine x_alenO d_al_add_gObjectI41_2 hd ?_
  refine x_icmp_ne (tgt := 11) d_al_add_gObjectI41_3 (by decide) (by first | assumption | (unfold R32; omega)) (by first | assumption | (unfold R32; omega)) (fun z3 => ?_) (fun z3 => ?_)
  · exfalso; omega
  · refine x_aload_n d_al_add_gObjectI41_6 rfl ?_
    refine x_callV (r := (RJx4a65c, TJx4a65c, 3)) d_al_add_gObjectI41_7 q_al_add_gObjectI41_129 s_al_grow_21 v_al_grow_21 (t_grow1B hl hM hd hc hel) hl rfl rfl rfl rfl (Nat.le_of_ble_eq_true rfl) rfl rfl rfl (fun _ _ hx9 => hx9) ?_
    rintro _ _ ⟨q, hq, rfl, rfl⟩
    have hlq : l ≠ q := fun z => by rw [← z, hl] at hq; cases hq
    have hqe : e ≠ q := fun z => by rw [← z, he] at hq; cases hq
    refine x_astore_n d_al_add_gObjectI41_10 (by decide) ?_
    refine x_aload_n d_al_add_gObjectI41_11 rfl ?_
    refine x_iload_n d_al_add_gObjectI41_12 rfl ?_
    refine x_aload_n d_al_add_gObjectI41_13 rfl ?_
    refine x_aastO hca hci d_al_add_gObjectI41_14 ((hset_n _ _ hlq.symm).trans (hset_s _ _ _)) ((hset_n _ _ hle).trans ((hset_n _ _ hqe).trans he)) (by omega) (by omega) (by omega) ?_
    refine x_aload_n d_al_add_gObjectI41_15 rfl ?_
    refine x_iload_n d_al_add_gObjectI41_16 rfl ?_
    refine x_iconst d_al_add_gObjectI41_17 ?_
    refine x_iadd d_al_add_gObjectI41_18 ?_
    refine fp_al_48_0 d_al_add_gObjectI41_19 rfl ((hset_n _ _ hlq).trans (hset_s _ _ _)) (Nat.le_of_ble_eq_true rfl) ?_
    exact x_vret rfl d_al_add_gObjectI41_22 (⟨rfl, addP.of2 hq hlq (by omega) (by omega) (by unfold capOk; omega) (fun k hk => by unfold va_cpy; rw [if_pos (by omega)]; rw [show 0 + (k - 0) = k by omega]) (fun k hk => by unfold va_cpy; rw [if_neg (by omega)])⟩)
