def popN (n : Nat) : Nat → Nat
  | 0 => 0
  | k + 1 => popN n k + n / 2 ^ k % 2
def bc1 (n : Nat) : Nat := n - (n / 2 &&& 1431655765)
def bc2 (n : Nat) : Nat := (bc1 n &&& 858993459) + (bc1 n / 4 &&& 858993459)
def bc3 (n : Nat) : Nat := (bc2 n + bc2 n / 16) &&& 252645135
def bc4 (n : Nat) : Nat := bc3 n + bc3 n / 256
def bc5 (n : Nat) : Nat := bc4 n + bc4 n / 65536
def bcN (n : Nat) : Nat := bc5 n &&& 63
theorem bc_c0 : (List.range 16).all (fun h => (List.range 256).all (fun l => bcN (0 + 256 * h + l) == bcN ((0 + 256 * h + l) / 2) + l % 2)) = true := by decide +kernel
theorem bc_c1 : (List.range 16).all (fun h => (List.range 256).all (fun l => bcN (4096 + 256 * h + l) == bcN ((4096 + 256 * h + l) / 2) + l % 2)) = true := by decide +kernel
theorem bc_c2 : (List.range 16).all (fun h => (List.range 256).all (fun l => bcN (8192 + 256 * h + l) == bcN ((8192 + 256 * h + l) / 2) + l % 2)) = true := by decide +kernel
theorem bc_c3 : (List.range 16).all (fun h => (List.range 256).all (fun l => bcN (12288 + 256 * h + l) == bcN ((12288 + 256 * h + l) / 2) + l % 2)) = true := by decide +kernel
theorem bc_c4 : (List.range 16).all (fun h => (List.range 256).all (fun l => bcN (16384 + 256 * h + l) == bcN ((16384 + 256 * h + l) / 2) + l % 2)) = true := by decide +kernel
theorem bc_c5 : (List.range 16).all (fun h => (List.range 256).all (fun l => bcN (20480 + 256 * h + l) == bcN ((20480 + 256 * h + l) / 2) + l % 2)) = true := by decide +kernel
theorem bc_c6 : (List.range 16).all (fun h => (List.range 256).all (fun l => bcN (24576 + 256 * h + l) == bcN ((24576 + 256 * h + l) / 2) + l % 2)) = true := by decide +kernel
theorem bc_c7 : (List.range 16).all (fun h => (List.range 256).all (fun l => bcN (28672 + 256 * h + l) == bcN ((28672 + 256 * h + l) / 2) + l % 2)) = true := by decide +kernel
theorem bc_c8 : (List.range 16).all (fun h => (List.range 256).all (fun l => bcN (32768 + 256 * h + l) == bcN ((32768 + 256 * h + l) / 2) + l % 2)) = true := by decide +kernel
theorem bc_c9 : (List.range 16).all (fun h => (List.range 256).all (fun l => bcN (36864 + 256 * h + l) == bcN ((36864 + 256 * h + l) / 2) + l % 2)) = true := by decide +kernel
theorem bc_c10 : (List.range 16).all (fun h => (List.range 256).all (fun l => bcN (40960 + 256 * h + l) == bcN ((40960 + 256 * h + l) / 2) + l % 2)) = true := by decide +kernel
theorem bc_c11 : (List.range 16).all (fun h => (List.range 256).all (fun l => bcN (45056 + 256 * h + l) == bcN ((45056 + 256 * h + l) / 2) + l % 2)) = true := by decide +kernel
theorem bc_c12 : (List.range 16).all (fun h => (List.range 256).all (fun l => bcN (49152 + 256 * h + l) == bcN ((49152 + 256 * h + l) / 2) + l % 2)) = true := by decide +kernel
theorem bc_c13 : (List.range 16).all (fun h => (List.range 256).all (fun l => bcN (53248 + 256 * h + l) == bcN ((53248 + 256 * h + l) / 2) + l % 2)) = true := by decide +kernel
theorem bc_c14 : (List.range 16).all (fun h => (List.range 256).all (fun l => bcN (57344 + 256 * h + l) == bcN ((57344 + 256 * h + l) / 2) + l % 2)) = true := by decide +kernel
theorem bc_c15 : (List.range 16).all (fun h => (List.range 256).all (fun l => bcN (61440 + 256 * h + l) == bcN ((61440 + 256 * h + l) / 2) + l % 2)) = true := by decide +kernel
theorem bc_rec {n : Nat} (h : n < 65536) : bcN n = bcN (n / 2) + n % 2 := by
  have hq : n / 4096 < 16 := by omega
  have e : n = 4096 * (n / 4096) + 256 * (n / 256 % 16) + n % 256 := by omega
  have e2 : n % 2 = n % 256 % 2 := by omega
  have hr1 : n / 256 % 16 < 16 := Nat.mod_lt _ (by omega)
  have hr2 : n % 256 < 256 := Nat.mod_lt _ (by omega)
  have use : ∀ k : Nat, n / 4096 = k → (List.range 16).all (fun h => (List.range 256).all (fun l => bcN (4096 * k + 256 * h + l) == bcN ((4096 * k + 256 * h + l) / 2) + l % 2)) = true → bcN n = bcN (n / 2) + n % 2 := by
    intro k hk hall
    have h1 := List.all_eq_true.mp hall (n / 256 % 16) (List.mem_range.mpr hr1)
    have h2 := List.all_eq_true.mp h1 (n % 256) (List.mem_range.mpr hr2)
    have h3 := eq_of_beq h2
    rw [← hk, ← e, ← e2] at h3
    exact h3
  have : n / 4096 = 0 ∨ n / 4096 = 1 ∨ n / 4096 = 2 ∨ n / 4096 = 3 ∨ n / 4096 = 4 ∨ n / 4096 = 5 ∨ n / 4096 = 6 ∨ n / 4096 = 7 ∨ n / 4096 = 8 ∨ n / 4096 = 9 ∨ n / 4096 = 10 ∨ n / 4096 = 11 ∨ n / 4096 = 12 ∨ n / 4096 = 13 ∨ n / 4096 = 14 ∨ n / 4096 = 15 := by omega
  rcases this with q | q | q | q | q | q | q | q | q | q | q | q | q | q | q | q
  · exact use 0 q bc_c0
  · exact use 1 q bc_c1
  · exact use 2 q bc_c2
  · exact use 3 q bc_c3
  · exact use 4 q bc_c4
  · exact use 5 q bc_c5
  · exact use 6 q bc_c6
  · exact use 7 q bc_c7
  · exact use 8 q bc_c8
  · exact use 9 q bc_c9
  · exact use 10 q bc_c10
  · exact use 11 q bc_c11
  · exact use 12 q bc_c12
  · exact use 13 q bc_c13
  · exact use 14 q bc_c14
  · exact use 15 q bc_c15
theorem popN_h (n : Nat) : ∀ k : Nat, popN n (k + 1) = popN (n / 2) k + n % 2 := by
  intro k
  induction k with
  | zero => show 0 + n / 2 ^ 0 % 2 = 0 + n % 2; rw [Nat.pow_zero, Nat.div_one]
  | succ k ih =>
    show popN n (k + 1) + n / 2 ^ (k + 1) % 2 = popN (n / 2) k + n / 2 / 2 ^ k % 2 + n % 2
    rw [ih, Nat.div_div_eq_div_mul, Nat.pow_succ, Nat.mul_comm 2]
    omega
theorem popN_z : ∀ k : Nat, popN 0 k = 0 := by
  intro k
  induction k with
  | zero => rfl
  | succ k ih => show popN 0 k + 0 / 2 ^ k % 2 = 0; rw [ih, Nat.zero_div]
theorem bc_eq : ∀ {n : Nat}, n < 65536 → bcN n = popN n 16 := by
  intro n
  induction n using Nat.strongRecOn with
  | _ n ih =>
    intro h
    by_cases z : n = 0
    · subst z; rw [popN_z]; decide +kernel
    · rw [bc_rec h, ih (n / 2) (by omega) (by omega), popN_h n 15]
      show popN (n / 2) 15 + n / 2 / 2 ^ 15 % 2 + n % 2 = _
      rw [show n / 2 / 2 ^ 15 = 0 by omega, Nat.zero_mod, Nat.add_zero]
theorem bs_pop (n : Nat) : ∀ k : Nat, bsN (n : Int) k = (popN n k : Int) := by
  intro k
  induction k with
  | zero => rfl
  | succ k ih =>
    show bsN (n : Int) k + bit (n : Int) k = ((popN n k + n / 2 ^ k % 2 : Nat) : Int)
    rw [ih]
    unfold bit
    rw [Int.toNat_natCast]
    simp
theorem and_N (a b : Nat) : iI (a : Int) &&& iI (b : Int) = iI ((a &&& b : Nat) : Int) := by
  rw [← nI_iI, ← nI_iI, ← nI_iI]
  apply Int32.toBitVec.inj
  show BitVec.ofNat 32 _ &&& BitVec.ofNat 32 _ = BitVec.ofNat 32 _
  rw [BitVec.ofNat_and]
theorem ushr_N {n : Nat} (h : n < 2 ^ 32) (s : Int32) (k : Nat) (hs : ((s.toUInt32 &&& Int32.toUInt32 31).toBitVec % 32).toNat = k) : ((iI (n : Int)).toUInt32 >>> (s.toUInt32 &&& Int32.toUInt32 31)).toInt32 = iI ((n / 2 ^ k : Nat) : Int) := by
  rw [← nI_iI, ← nI_iI]
  exact pk_ushrN h s k hs
theorem bc_b {n : Nat} (h : n < 65536) : n / 2 &&& 1431655765 ≤ n ∧ bc1 n < 65536 ∧ bc2 n < 131072 ∧ bc3 n < 262144 ∧ bc4 n < 524288 ∧ bc5 n < 1048576 := by
  have e1 : n / 2 &&& 1431655765 ≤ n / 2 := Nat.and_le_left
  have e2 : bc1 n &&& 858993459 ≤ bc1 n := Nat.and_le_left
  have e3 : bc1 n / 4 &&& 858993459 ≤ bc1 n / 4 := Nat.and_le_left
  have e4 : (bc2 n + bc2 n / 16) &&& 252645135 ≤ bc2 n + bc2 n / 16 := Nat.and_le_left
  have h1 : bc1 n < 65536 := by unfold bc1; omega
  have h2 : bc2 n < 131072 := by unfold bc2; omega
  have h3 : bc3 n < 262144 := by unfold bc3; omega
  have h4 : bc4 n < 524288 := by unfold bc4; omega
  exact ⟨by omega, h1, h2, h3, h4, by unfold bc5; omega⟩
theorem wbc1 : Cond.constant "java/lang/Integer" 265 (1431655765 : Int32) ∈ lw_tbl := mt (i := 441) (by decide +kernel)
theorem wbc2 : Cond.constant "java/lang/Integer" 266 (858993459 : Int32) ∈ lw_tbl := mt (i := 442) (by decide +kernel)
theorem wbc3 : Cond.constant "java/lang/Integer" 267 (252645135 : Int32) ∈ lw_tbl := mt (i := 443) (by decide +kernel)
theorem t_in_bitCount {g : xG} {h : hp} {QX : qE} {n : Nat} (hn : n < 65536) : xM g y_in_bitCount k_in_bitCount M_in_bitCount [.int (iI (n : Int))] h (fun v h9 => v = some (.int (iI (bsN (n : Int) 16))) ∧ h = h9) QX := by
  refine xM.of rfl (by decide) rfl rfl rfl (by simp [Value.category]) (Nat.le_of_ble_eq_true rfl) rfl ?_
  have hb := bc_b hn
  refine x_iload_n d_in_bitCount_0 rfl ?_
  refine x_iload_n d_in_bitCount_1 rfl ?_
  refine x_iconst d_in_bitCount_2 ?_
  refine x_iushr d_in_bitCount_3 (ushr_N (n := n) (by omega) _ 1 (by decide)) ?_
  rw [show n / 2 ^ 1 = n / 2 from rfl]
  refine x_ldcwI d_in_bitCount_4 wbc1 ?_
  refine x_iand d_in_bitCount_7 (and_N (n / 2) 1431655765) ?_
  refine x_isub d_in_bitCount_8 ?_
  rw [show ((n : Int) - ((n / 2 &&& 1431655765 : Nat) : Int)) = ((bc1 n : Nat) : Int) from (Int.ofNat_sub hb.1).symm]
  refine x_istore_n d_in_bitCount_9 (by decide) ?_
  refine x_iload_n d_in_bitCount_10 rfl ?_
  refine x_ldcwI d_in_bitCount_11 wbc2 ?_
  refine x_iand d_in_bitCount_14 (and_N (bc1 n) 858993459) ?_
  refine x_iload_n d_in_bitCount_15 rfl ?_
  refine x_iconst d_in_bitCount_16 ?_
  refine x_iushr d_in_bitCount_17 (ushr_N (n := bc1 n) (by omega) _ 2 (by decide)) ?_
  rw [show bc1 n / 2 ^ 2 = bc1 n / 4 from rfl]
  refine x_ldcwI d_in_bitCount_18 wbc2 ?_
  refine x_iand d_in_bitCount_21 (and_N (bc1 n / 4) 858993459) ?_
  refine x_iadd d_in_bitCount_22 ?_
  rw [show (((bc1 n &&& 858993459 : Nat) : Int) + ((bc1 n / 4 &&& 858993459 : Nat) : Int)) = ((bc2 n : Nat) : Int) from (Int.natCast_add _ _).symm]
  refine x_istore_n d_in_bitCount_23 (by decide) ?_
  refine x_iload_n d_in_bitCount_24 rfl ?_
  refine x_iload_n d_in_bitCount_25 rfl ?_
  refine x_iconst d_in_bitCount_26 ?_
  refine x_iushr d_in_bitCount_27 (ushr_N (n := bc2 n) (by omega) _ 4 (by decide)) ?_
  rw [show bc2 n / 2 ^ 4 = bc2 n / 16 from rfl]
  refine x_iadd d_in_bitCount_28 ?_
  rw [show (((bc2 n : Nat) : Int) + ((bc2 n / 16 : Nat) : Int)) = ((bc2 n + bc2 n / 16 : Nat) : Int) from (Int.natCast_add _ _).symm]
  refine x_ldcwI d_in_bitCount_29 wbc3 ?_
  refine x_iand d_in_bitCount_32 (and_N (bc2 n + bc2 n / 16) 252645135) ?_
  rw [show ((bc2 n + bc2 n / 16 &&& 252645135 : Nat) : Int) = ((bc3 n : Nat) : Int) from rfl]
  refine x_istore_n d_in_bitCount_33 (by decide) ?_
  refine x_iload_n d_in_bitCount_34 rfl ?_
  refine x_iload_n d_in_bitCount_35 rfl ?_
  refine x_bipush d_in_bitCount_36 (by decide) ?_
  refine x_iushr d_in_bitCount_38 (ushr_N (n := bc3 n) (by omega) _ 8 (by decide)) ?_
  rw [show bc3 n / 2 ^ 8 = bc3 n / 256 from rfl]
  refine x_iadd d_in_bitCount_39 ?_
  rw [show (((bc3 n : Nat) : Int) + ((bc3 n / 256 : Nat) : Int)) = ((bc4 n : Nat) : Int) from (Int.natCast_add _ _).symm]
  refine x_istore_n d_in_bitCount_40 (by decide) ?_
  refine x_iload_n d_in_bitCount_41 rfl ?_
  refine x_iload_n d_in_bitCount_42 rfl ?_
  refine x_bipush d_in_bitCount_43 (by decide) ?_
  refine x_iushr d_in_bitCount_45 (ushr_N (n := bc4 n) (by omega) _ 16 (by decide)) ?_
  rw [show bc4 n / 2 ^ 16 = bc4 n / 65536 from rfl]
  refine x_iadd d_in_bitCount_46 ?_
  rw [show (((bc4 n : Nat) : Int) + ((bc4 n / 65536 : Nat) : Int)) = ((bc5 n : Nat) : Int) from (Int.natCast_add _ _).symm]
  refine x_istore_n d_in_bitCount_47 (by decide) ?_
  refine x_iload_n d_in_bitCount_48 rfl ?_
  refine x_bipush d_in_bitCount_49 (by decide) ?_
  refine x_iand d_in_bitCount_51 (and_N (bc5 n) 63) ?_
  exact x_iret rfl d_in_bitCount_52 (⟨by rw [bs_pop, ← bc_eq hn]; rfl, rfl⟩)
theorem t_in_bitCount_c {g : xG} {K : hp} {ad : cA} {S : gS} {QX : qKE} {x : Int} (h0 : 0 ≤ x) (h1 : x < 65536) : cM g y_in_bitCount k_in_bitCount M_in_bitCount K [.int (iI x)] ad S (rd ad S (.int (iI (bsN x 16)))) QX := by
  have e : x = ((x.toNat : Nat) : Int) := by omega
  rw [e]
  exact cM.ofx (fun h hc => t_in_bitCount (n := x.toNat) (by omega))
theorem bsN_8 {x : Int} (h0 : 0 ≤ x) (h1 : x < 256) : bsN x 16 = bsN x 8 := by
  have z : ∀ k : Nat, 8 ≤ k → k < 16 → bit x k = 0 := fun k a b => bit_lt h0 (by
    have : ∀ k : Nat, 8 ≤ k → k < 16 → (256 : Int) ≤ 2 ^ (k : Int).toNat := by
      intro k a b
      have : k = 8 ∨ k = 9 ∨ k = 10 ∨ k = 11 ∨ k = 12 ∨ k = 13 ∨ k = 14 ∨ k = 15 := by omega
      rcases this with e | e | e | e | e | e | e | e <;> (subst e; decide)
    have := this k a b
    omega)
  show bsN x 8 + bit x (8 : Nat) + bit x (9 : Nat) + bit x (10 : Nat) + bit x (11 : Nat) + bit x (12 : Nat) + bit x (13 : Nat) + bit x (14 : Nat) + bit x (15 : Nat) = bsN x 8
  rw [z 8 (by omega) (by omega), z 9 (by omega) (by omega), z 10 (by omega) (by omega), z 11 (by omega) (by omega), z 12 (by omega) (by omega), z 13 (by omega) (by omega), z 14 (by omega) (by omega), z 15 (by omega) (by omega)]
  omega
theorem enO_bs (S : gS) (a : Int) : ∀ n : Nat, enO S a n = bsN (S 2 a) n := by
  intro n
  induction n with
  | zero => rfl
  | succ n ih =>
    show enO S a n + bit (S 2 a) n = bsN (S 2 a) n + bit (S 2 a) n
    rw [ih]
