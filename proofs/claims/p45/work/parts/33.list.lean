theorem t_pr_checkIndex {g : xG} {h : hp} {QX : qE} {i n : Int} (h0 : 0 ≤ i) (h1 : i < n) (hn : n < 2147483648) : xM g y_pr_checkIndex k_pr_checkIndex M_pr_checkIndex [.int (iI i), .int (iI n), .null] h (fun v h9 => v = some (.int (iI i)) ∧ h = h9) QX := by
  refine xM.of rfl (by decide) rfl rfl rfl (by simp [Value.category]) (Nat.le_of_ble_eq_true rfl) rfl ?_
  refine x_iload_n d_pr_checkIndex_0 rfl ?_
  refine x_if_lt (tgt := 9) d_pr_checkIndex_1 (by decide) (by first | assumption | (unfold R32; omega)) (fun z1 => ?_) (fun z1 => ?_)
  · exfalso; omega
  · refine x_iload_n d_pr_checkIndex_4 rfl ?_
    refine x_iload_n d_pr_checkIndex_5 rfl ?_
    refine x_icmp_lt (tgt := 16) d_pr_checkIndex_6 (by decide) (by first | assumption | (unfold R32; omega)) (by first | assumption | (unfold R32; omega)) (fun z6 => ?_) (fun z6 => ?_)
    · refine x_iload_n d_pr_checkIndex_16 rfl ?_
      exact x_iret rfl d_pr_checkIndex_17 (⟨rfl, rfl⟩)
    · exfalso; omega
theorem t_ob_checkIndex {g : xG} {h : hp} {QX : qE} {i n : Int} (h0 : 0 ≤ i) (h1 : i < n) (hn : n < 2147483648) : xM g y_ob_checkIndex k_ob_checkIndex M_ob_checkIndex [.int (iI i), .int (iI n)] h (fun v h9 => v = some (.int (iI i)) ∧ h = h9) QX := by
  refine xM.of rfl (by decide) rfl rfl rfl (by simp [Value.category]) (Nat.le_of_ble_eq_true rfl) rfl ?_
  refine x_iload_n d_ob_checkIndex_0 rfl ?_
  refine x_iload_n d_ob_checkIndex_1 rfl ?_
  refine x_null d_ob_checkIndex_2 ?_
  refine x_callS d_ob_checkIndex_3 q_ob_checkIndex_105 s_pr_checkIndex (t_pr_checkIndex h0 h1 hn) rfl rfl (Nat.le_of_ble_eq_true rfl) rfl rfl rfl (fun _ _ hx9 => hx9) ?_
  rintro _ _ ⟨rfl, rfl⟩
  exact x_iret rfl d_ob_checkIndex_6 (⟨rfl, rfl⟩)
theorem t_al_size {g : xG} {h : hp} {QX : qE} {l d : Nat} {n : Int} {mc : Int32} (hl : h l = some (.inr (0, [.int mc, .ref d, .int (iI n)]))) : xM g y_al_size k_al_size M_al_size [.ref l] h (fun v h9 => v = some (.int (iI n)) ∧ h = h9) QX := by
  refine xM.of rfl (by decide) rfl rfl rfl (by simp [Value.category]) (Nat.le_of_ble_eq_true rfl) rfl ?_
  refine x_aload_n d_al_size_0 rfl ?_
  refine fg_al_48_0 d_al_size_1 rfl hl rfl ?_
  exact x_iret rfl d_al_size_4 (⟨rfl, rfl⟩)
theorem t_al_elementData {g : xG} {h : hp} {QX : qE} {l d N : Nat} {n i : Int} {mc : Int32} {f : Nat → Option Nat} (hl : h l = some (.inr (0, [.int mc, .ref d, .int (iI n)]))) (hd : h d = some (oarr g N f)) (hN : N < 2147483648) (h0 : 0 ≤ i) (h1 : i < N) : xM g y_al_elementData k_al_elementData M_al_elementData [.ref l, .int (iI i)] h (fun v h9 => v = some (va_rf (f i.toNat)) ∧ h = h9) QX := by
  refine xM.of rfl (by decide) rfl rfl rfl (by simp [Value.category]) (Nat.le_of_ble_eq_true rfl) rfl ?_
  refine x_aload_n d_al_elementData_0 rfl ?_
  refine fg_al_9_0 d_al_elementData_1 rfl hl rfl ?_
  refine x_iload_n d_al_elementData_4 rfl ?_
  refine x_aald (t := 3) (f := f) rfl d_al_elementData_5 hd hN h0 h1 ?_
  exact x_aret rfl (Or.inl ⟨_, rfl⟩) (va_rf_or _) d_al_elementData_6 (⟨rfl, rfl⟩)
theorem t_al_get {g : xG} {h : hp} {QX : qE} {l d N : Nat} {n i : Int} {mc : Int32} {f : Nat → Option Nat} (hl : h l = some (.inr (0, [.int mc, .ref d, .int (iI n)]))) (hd : h d = some (oarr g N f)) (hN : N < 2147483648) (h0 : 0 ≤ i) (h1 : i < n) (h2 : n ≤ N) : xM g y_al_get k_al_get M_al_get [.ref l, .int (iI i)] h (fun v h9 => v = some (va_rf (f i.toNat)) ∧ h = h9) QX := by
  refine xM.of rfl (by decide) rfl rfl rfl (by simp [Value.category]) (Nat.le_of_ble_eq_true rfl) rfl ?_
  refine x_iload_n d_al_get_0 rfl ?_
  refine x_aload_n d_al_get_1 rfl ?_
  refine fg_al_48_0 d_al_get_2 rfl hl rfl ?_
  refine x_callS d_al_get_5 q_al_get_118 s_ob_checkIndex (t_ob_checkIndex h0 h1 (by omega)) rfl rfl (Nat.le_of_ble_eq_true rfl) rfl rfl rfl (fun _ _ hx9 => hx9) ?_
  rintro _ _ ⟨rfl, rfl⟩
  refine x_pop d_al_get_8 rfl ?_
  refine x_aload_n d_al_get_9 rfl ?_
  refine x_iload_n d_al_get_10 rfl ?_
  refine x_callV (r := (RJx4a65c, TJx4a65c, 3)) d_al_get_11 q_al_get_123 s_al_elementData v_al_elementData (t_al_elementData hl hd hN h0 (by omega)) hl rfl rfl rfl rfl (Nat.le_of_ble_eq_true rfl) rfl rfl rfl (fun _ _ hx9 => hx9) ?_
  rintro _ _ ⟨rfl, rfl⟩
  exact x_aret rfl (Or.inl ⟨_, rfl⟩) (va_rf_or _) d_al_get_14 (⟨rfl, rfl⟩)
section XMM
variable {g : xG} {M : xMeth} {Q : qP} {QX : qE} {rc rs : Nat} {h : hp} {pc : Nat} {ls : List (Option Value)} {st : List Value}
theorem wMx0 : Cond.static Lib.Math.max.name ∈ lw_tbl := mt (i := 125) (by decide +kernel)
theorem wMx1 : Cond.code Lib.Math.max.name Lib.Math.max.code 2 (some .int) ∈ lw_tbl := mt (i := 126) (by decide +kernel)
theorem wMn0 : Cond.static Lib.Math.min.name ∈ lw_tbl := mt (i := 155) (by decide +kernel)
theorem wMn1 : Cond.code Lib.Math.min.name Lib.Math.min.code 2 (some .int) ∈ lw_tbl := mt (i := 156) (by decide +kernel)
theorem wMi : Cond.initialized "java/lang/Math" ∈ lw_tbl := mt (i := 8) (by decide +kernel)
theorem wMl0 : Cond.methodLink "jdk/internal/util/ArraysSupport" 194 Lib.Math.max.name ∈ lw_tbl := mt (i := 124) (by decide +kernel)
theorem wMl1 : Cond.methodLink "java/util/ArrayList" 79 Lib.Math.max.name ∈ lw_tbl := mt (i := 160) (by decide +kernel)
theorem wMl2 : Cond.methodLink "java/util/Arrays" 304 Lib.Math.min.name ∈ lw_tbl := mt (i := 154) (by decide +kernel)
theorem x_mmax {index : Nat} {a b : Int} (ha : R32 a) (hb : R32 b) (d : decode M.2.1 pc = .ok (.invokestatic index, 3)) (hl : Cond.methodLink M.1 index Lib.Math.max.name ∈ lw_tbl) (hf : 1 ≤ M.2.2.2.2.2.2.frames) (hlo : 21 ≤ M.2.2.2.2.2.2.locals) (hst : (st.map fun v => v.category).sum ≤ 8) (kk : xW g M Q QX rc rs h (pc + 3) ls (.int (iI (if a < b then b else a)) :: st)) : xW g M Q QX rc rs h pc ls (.int (iI b) :: .int (iI a) :: st) := by
  intro G p e s m args below meth c H locs lsA cells slots C0 hh hl' a1 a2
  have hW := C0.2.2.2.2.2.2.2.2.1
  have e9 : (if iI a < iI b then iI b else iI a) = iI (if a < b then b else a) := by
    by_cases q : a < b
    · rw [if_pos q, if_pos ((iI_lt ha hb).mpr q)]
    · rw [if_neg q, if_neg (fun z => q ((iI_lt ha hb).mp z))]
  refine va_mmax C0.1 C0.2.1 (by rw [C0.2.2.1]; exact hl'.1.symm) C0.2.2.2.2.2.2.2.1 (wd G hW hl rfl) (wd G hW wMx0 rfl) (wd G hW wMi rfl) (wd G hW wMx1 rfl) hf (by omega) (by omega) (by omega) d ?_
  rw [e9]
  exact kk G p e s m args below meth c H locs lsA cells slots C0 hh hl' a1 a2
theorem x_mmin {index : Nat} {a b : Int} (ha : R32 a) (hb : R32 b) (d : decode M.2.1 pc = .ok (.invokestatic index, 3)) (hl : Cond.methodLink M.1 index Lib.Math.min.name ∈ lw_tbl) (hf : 1 ≤ M.2.2.2.2.2.2.frames) (hlo : 21 ≤ M.2.2.2.2.2.2.locals) (hst : (st.map fun v => v.category).sum ≤ 8) (kk : xW g M Q QX rc rs h (pc + 3) ls (.int (iI (if b < a then b else a)) :: st)) : xW g M Q QX rc rs h pc ls (.int (iI b) :: .int (iI a) :: st) := by
  intro G p e s m args below meth c H locs lsA cells slots C0 hh hl' a1 a2
  have hW := C0.2.2.2.2.2.2.2.2.1
  have e9 : (if iI b < iI a then iI b else iI a) = iI (if b < a then b else a) := by
    by_cases q : b < a
    · rw [if_pos q, if_pos ((iI_lt hb ha).mpr q)]
    · rw [if_neg q, if_neg (fun z => q ((iI_lt hb ha).mp z))]
  refine va_mmin C0.1 C0.2.1 (by rw [C0.2.2.1]; exact hl'.1.symm) C0.2.2.2.2.2.2.2.1 (wd G hW hl rfl) (wd G hW wMn0 rfl) (wd G hW wMi rfl) (wd G hW wMn1 rfl) hf (by omega) (by omega) (by omega) d ?_
  rw [e9]
  exact kk G p e s m args below meth c H locs lsA cells slots C0 hh hl' a1 a2
end XMM
theorem w128 : Cond.constant "jdk/internal/util/ArraysSupport" 200 (2147483639 : Int32) ∈ lw_tbl := mt (i := 127) (by decide +kernel)
theorem wGc0 : Cond.methodLink "java/util/Arrays" 86 gcN ∈ lw_tbl := mt (i := 134) (by decide +kernel)
theorem wGc1 : Cond.declares gcN ∈ lw_tbl := mt (i := 891) (by decide +kernel)
theorem wGc2 : Cond.selects "[Ljava/lang/Object;" gcN gcN ∈ lw_tbl := mt (i := 890) (by decide +kernel)
theorem wGc3 : Cond.instanceMethod gcN ∈ lw_tbl := mt (i := 135) (by decide +kernel)
theorem wGc4 : Cond.native gcN ∈ lw_tbl := mt (i := 147) (by decide +kernel)
theorem wOc : Cond.classLink "java/util/Arrays" 110 "[Ljava/lang/Object;" ∈ lw_tbl := mt (i := 151) (by decide +kernel)
theorem wOa : Cond.arrayOver (.object "java/lang/Object") ∈ lw_tbl := mt (i := 152) (by decide +kernel)
theorem wOo : Cond.classLink "java/util/Arrays" 2 "java/lang/Object" ∈ lw_tbl := mt (i := 153) (by decide +kernel)
theorem wOp : Cond.classLink "java/util/ArrayList" 7 "java/lang/Object" ∈ lw_tbl := mt (i := 161) (by decide +kernel)
theorem wAc0 : Cond.methodLink "java/util/Arrays" 150 arraycopyName ∈ lw_tbl := mt (i := 157) (by decide +kernel)
theorem wAc1 : Cond.native arraycopyName ∈ lw_tbl := mt (i := 159) (by decide +kernel)
theorem wAc2 : Cond.static arraycopyName ∈ lw_tbl := mt (i := 158) (by decide +kernel)
theorem wAc3 : Cond.initialized "java/lang/System" ∈ lw_tbl := mt (i := 10) (by decide +kernel)
theorem wAc4 : Cond.methodLink "ContainerHost$Layer" 26 arraycopyName ∈ lw_tbl := mt (i := 670) (by decide +kernel)
theorem wDf : Cond.fieldLink "java/util/ArrayList" 39 "java/util/ArrayList" "DEFAULTCAPACITY_EMPTY_ELEMENTDATA" "[Ljava/lang/Object;" ∈ lw_tbl := mt (i := 44) (by decide +kernel)
theorem i31 : iI 2147483639 = 2147483639 := by decide
theorem t_as_newLength {g : xG} {h : hp} {QX : qE} {a m p : Int} (h0 : 0 ≤ a) (h1 : a ≤ 1000) (h2 : 1 ≤ m) (h3 : m ≤ 1000) (h4 : 0 ≤ p) (h5 : p ≤ 1000) : xM g y_as_newLength k_as_newLength M_as_newLength [.int (iI a), .int (iI m), .int (iI p)] h (fun v h9 => v = some (.int (iI (a + if m < p then p else m))) ∧ h = h9) QX := by
  refine xM.of rfl (by decide) rfl rfl rfl (by simp [Value.category]) (Nat.le_of_ble_eq_true rfl) rfl ?_
  have hb : 1 ≤ (if m < p then p else m) ∧ (if m < p then p else m) ≤ 1000 := by split <;> omega
  refine x_iload_n d_as_newLength_0 rfl ?_
  refine x_iload_n d_as_newLength_1 rfl ?_
  refine x_iload_n d_as_newLength_2 rfl ?_
  refine x_mmax (by unfold R32; omega) (by unfold R32; omega) d_as_newLength_3 wMl0 (by decide) (by decide) (Nat.le_of_ble_eq_true rfl) ?_
  refine x_iadd d_as_newLength_6 ?_
  refine x_istore_n d_as_newLength_7 (by decide) ?_
  refine x_iconst d_as_newLength_8 ?_
  refine x_iload_n d_as_newLength_9 rfl ?_
  refine x_icmp_ge (tgt := 21) d_as_newLength_10 (by decide) (by first | assumption | (unfold R32; omega)) (by first | assumption | (unfold R32; omega)) (fun z10 => ?_) (fun z10 => ?_)
  · exfalso; omega
  · refine x_iload_n d_as_newLength_13 rfl ?_
    refine x_ldcI d_as_newLength_14 w128 ?_
    rw [← i31]
    refine x_icmp_gt (tgt := 21) d_as_newLength_16 (by decide) (by first | assumption | (unfold R32; omega)) (by first | assumption | (unfold R32; omega)) (fun z16 => ?_) (fun z16 => ?_)
    · exfalso; omega
    · refine x_iload_n d_as_newLength_19 rfl ?_
      exact x_iret rfl d_as_newLength_20 (⟨rfl, rfl⟩)
