/-! more instructions: the empty array of the lists, class objects, copies of arrays, constants -/
def isD (g : xG) (t : Nat) : Prop := va_Z "java/util/ArrayList" "DEFAULTCAPACITY_EMPTY_ELEMENTDATA" "[Ljava/lang/Object;" (.ref t) (gA g) g.2.1 g.2.1.heap ∧ va_T (.object "java/lang/Object") t 0 (fun _ => .null) (gA g) g.2.1 g.2.1.heap
theorem isD.eq {g : xG} {t u : Nat} (h1 : isD g t) (h2 : isD g u) : t = u := by
  obtain ⟨⟨cf, kf, fi, f, a, cell, b1, b2, b3, b4, b5, b6, b7, b8⟩, -⟩ := h1
  obtain ⟨⟨cf', kf', fi', f', a', cell', c1, c2, c3, c4, c5, c6, c7, c8⟩, -⟩ := h2
  rw [b1] at c1
  cases c1
  rw [b4] at c4
  cases c4
  rw [b5] at c5
  cases c5
  rw [b7] at c7
  cases c7
  rfl
section XCR
variable {g : xG} {M : xMeth} {Q : qP} {QX : qE} {rc rs : Nat} {h : hp} {pc : Nat} {ls : List (Option Value)} {st : List Value}
theorem x_gets {index t : Nat} (hD : isD g t) (d : decode M.2.1 pc = .ok (.getstatic index, 3)) (hl : Cond.fieldLink M.1 index "java/util/ArrayList" "DEFAULTCAPACITY_EMPTY_ELEMENTDATA" "[Ljava/lang/Object;" ∈ lw_tbl) (kk : xW g M Q QX rc rs h (pc + 3) ls (.ref t :: st)) : xW g M Q QX rc rs h pc ls st := by
  intro G p e s m args below meth c H locs lsA cells slots C0 hh hl' a1 a2
  have hW := C0.2.2.2.2.2.2.2.2.1
  have hS0 := C0.2.2.2.2.2.2.2.2.2
  intro T hT X
  have hz : s.heap.size ≤ H.size := by
    have := (vx_frame (U := T) X.same).1
    rw [hT] at this
    exact this
  have hS : va_S (gA g) g.2.1.heap H locs := by
    obtain ⟨ws, hS, -⟩ := hh
    exact hS
  exact va_gets C0.1 C0.2.1 ((hD.1.moved hW.alike).kept (fun a b1 b2 => hS0.2.1 a b1 b2)) (vS_at hS0 hS hz) C0.2.2.2.2.2.2.2.1 (wd G hW hl rfl) (fun x hx => hx) d (kk G p e s m args below meth c H locs lsA cells slots C0 hh hl' a1 a2) T hT X
theorem x_alenD {t : Nat} (hD : isD g t) (d : decode M.2.1 pc = .ok (.arraylength, 1)) (kk : xW g M Q QX rc rs h (pc + 1) ls (.int (iI 0) :: st)) : xW g M Q QX rc rs h pc ls (.ref t :: st) := by
  intro G p e s m args below meth c H locs lsA cells slots C0 hh hl' a1 a2
  have hW := C0.2.2.2.2.2.2.2.2.1
  have hS0 := C0.2.2.2.2.2.2.2.2.2
  intro T hT X
  have hz : s.heap.size ≤ H.size := by
    have := (vx_frame (U := T) X.same).1
    rw [hT] at this
    exact this
  have hS : va_S (gA g) g.2.1.heap H locs := by
    obtain ⟨ws, hS, -⟩ := hh
    exact hS
  exact va_tlen C0.1 C0.2.1 ((hD.2.moved hW.alike).kept (fun a b1 b2 => hS0.2.1 a b1 b2)) (vS_at hS0 hS hz) rfl d (kk G p e s m args below meth c H locs lsA cells slots C0 hh hl' a1 a2) T hT X
abbrev gcN : MethodName := ⟨"java/lang/Object", "getClass", "()Ljava/lang/Class;"⟩
theorem x_ldcM {index mi : Nat} (hM : va_Mi "[Ljava/lang/Object;" mi g.2.1) (d : decode M.2.1 pc = .ok (.ldc index, 2)) (hl : Cond.classLink M.1 index "[Ljava/lang/Object;" ∈ lw_tbl) (kk : xW g M Q QX rc rs h (pc + 2) ls (.ref mi :: st)) : xW g M Q QX rc rs h pc ls st := by
  intro G p e s m args below meth c H locs lsA cells slots C0 hh hl' a1 a2
  have hW := C0.2.2.2.2.2.2.2.2.1
  exact va_ldcM C0.1 C0.2.1 C0.2.2.2.2.2.2.2.1 (wd G hW hl rfl) (hM.moved hW.alike) d (kk G p e s m args below meth c H locs lsA cells slots C0 hh hl' a1 a2)
theorem x_getC {index mi a n : Nat} {f : Nat → Option Nat} (hM : va_Mi "[Ljava/lang/Object;" mi g.2.1) (d : decode M.2.1 pc = .ok (.invokevirtual index, 3)) (hl : Cond.methodLink M.1 index gcN ∈ lw_tbl) (hdc : Cond.declares gcN ∈ lw_tbl) (hsel : Cond.selects "[Ljava/lang/Object;" gcN gcN ∈ lw_tbl) (hin : Cond.instanceMethod gcN ∈ lw_tbl) (hnt : Cond.native gcN ∈ lw_tbl) (ha : h a = some (oarr g n f)) (hf : 1 ≤ M.2.2.2.2.2.2.frames) (hlo : 22 ≤ M.2.2.2.2.2.2.locals) (hst : (st.map fun v => v.category).sum ≤ 8) (kk : xW g M Q QX rc rs h (pc + 3) ls (.ref mi :: st)) : xW g M Q QX rc rs h pc ls (.ref a :: st) := by
  intro G p e s m args below meth c H locs lsA cells slots C0 hh hl' a1 a2
  obtain ⟨ws, hS, hP, hD, hV⟩ := id hh
  obtain ⟨q0, he⟩ := List.getElem?_of_mem (hV a _ ha)
  have hW := C0.2.2.2.2.2.2.2.2.1
  have hK := gK (s := s) G hW
  have hR := (hK.2 3 _ rfl).2
  exact va_getC C0.1 C0.2.1 (by rw [C0.2.2.1]; exact hl'.1.symm) C0.2.2.2.2.2.2.2.1 (wd G hW hl rfl) (wdO G hW hdc rfl) (wd G hW hsel rfl) (wd G hW hin rfl) (wd G hW hnt rfl) (hM.moved hW.alike) ⟨_, hP q0 _ he, rfl, va_nmO hR rfl⟩ hf (by omega) d (kk G p e s m args below meth c H locs lsA cells slots C0 hh hl' a1 a2)
theorem x_copyO {index a0 a n0 n1 : Nat} {f f1 : Nat → Option Nat} {n : Int} (d : decode M.2.1 pc = .ok (.invokestatic index, 3)) (hl : Cond.methodLink M.1 index arraycopyName ∈ lw_tbl) (hnt : Cond.native arraycopyName ∈ lw_tbl) (hst9 : Cond.static arraycopyName ∈ lw_tbl) (hini : Cond.initialized "java/lang/System" ∈ lw_tbl) (ha0 : h a0 = some (oarr g n0 f)) (ha : h a = some (oarr g n1 f1)) (h0 : 0 ≤ n) (hn : n < 2147483648) (h4 : n ≤ n0) (h5 : n ≤ n1)
    (hel : ∀ i : Nat, (i : Int) < n → ∀ y : Nat, f i = some y → ∃ ci fs r, h y = some (.inr (ci, fs)) ∧ vwCl[ci]? = some r ∧ Cond.castable r.1 "java/lang/Object" ∈ lw_tbl) (hf : 1 ≤ M.2.2.2.2.2.2.frames) (hlo : 50 ≤ M.2.2.2.2.2.2.locals) (hst : (st.map fun v => v.category).sum ≤ 8) (kk : xW g M Q QX rc rs (hset h a (oarr g n1 (va_cpy f f1 0 0 n.toNat))) (pc + 3) ls st) : xW g M Q QX rc rs h pc ls (.int (iI n) :: .int (iI 0) :: .ref a :: .int (iI 0) :: .ref a0 :: st) := by
  intro G p e s m args below meth c H locs lsA cells slots C0 hh hl' a1 a2
  obtain ⟨ws, hS, hP, hD, hV⟩ := id hh
  obtain ⟨q0, he0⟩ := List.getElem?_of_mem (hV a0 _ ha0)
  obtain ⟨q1, he1⟩ := List.getElem?_of_mem (hV a _ ha)
  have hW := C0.2.2.2.2.2.2.2.2.1
  have ec : (iI n).toNatClampNeg = n.toNat := iI_cl ⟨by omega, by omega⟩
  have e0 : (iI 0).toNatClampNeg = 0 := by decide
  have hneg : ∀ z : Int, 0 ≤ z → z < 2147483648 → ¬ iI z < 0 := fun z z0 z1 q => by have := (iI_lt ⟨by omega, by omega⟩ R32_0).mp q; omega
  have hnw : nativeFrameWords "java/lang/System" "arraycopy" 5 ≤ 30 := by decide
  refine va_copyM C0.1 C0.2.1 (by rw [C0.2.2.1]; exact hl'.1.symm) C0.2.2.2.2.2.2.2.1 (wd G hW hl rfl) (wd G hW hnt rfl) (wd G hW hst9 rfl) (wd G hW hini rfl) (gK G hW) hP hD hS q0 q1 3 3 he0 he1 rfl rfl (hneg 0 (by omega) (by omega)) (hneg 0 (by omega) (by omega)) (hneg n h0 hn) (by rw [ec, e0]; omega) (by rw [ec, e0]; omega) (fun i hi y hy => ?_) hf (by omega) d ?_
  · rw [ec] at hi
    rw [e0, Nat.zero_add] at hy
    obtain ⟨ci, fs, r, y1, y2, y3⟩ := hel i (by omega) y hy
    obtain ⟨q2, he2⟩ := List.getElem?_of_mem (hV y _ y1)
    exact va_rAny (gK G hW) hP he2 y2 (vb_asgC (castW G hW y3))
  · rw [ec, e0]
    exact fun H1 locs1 hP1 hD1 hS1 => kk G p e s m args below meth c H1 locs1 lsA cells slots C0 ⟨_, hS1, hP1, hD1, vw_set hV he1⟩ hl' a1 a2
theorem x_copyI {index a0 a n0 n1 : Nat} {f f1 : Int → Int} {n : Int} (d : decode M.2.1 pc = .ok (.invokestatic index, 3)) (hl : Cond.methodLink M.1 index arraycopyName ∈ lw_tbl) (hnt : Cond.native arraycopyName ∈ lw_tbl) (hst9 : Cond.static arraycopyName ∈ lw_tbl) (hini : Cond.initialized "java/lang/System" ∈ lw_tbl) (ha0 : h a0 = some (iarr g n0 f)) (ha : h a = some (iarr g n1 f1)) (h0 : 0 ≤ n) (hn : n < 2147483648) (h4 : n ≤ n0) (h5 : n ≤ n1)
    (hf : 1 ≤ M.2.2.2.2.2.2.frames) (hlo : 50 ≤ M.2.2.2.2.2.2.locals) (hst : (st.map fun v => v.category).sum ≤ 8) (kk : xW g M Q QX rc rs (hset h a (iarr g n1 (fun j => if j < n then f j else f1 j))) (pc + 3) ls st) : xW g M Q QX rc rs h pc ls (.int (iI n) :: .int (iI 0) :: .ref a :: .int (iI 0) :: .ref a0 :: st) := by
  intro G p e s m args below meth c H locs lsA cells slots C0 hh hl' a1 a2
  obtain ⟨ws, hS, hP, hD, hV⟩ := id hh
  obtain ⟨q0, he0⟩ := List.getElem?_of_mem (hV a0 _ ha0)
  obtain ⟨q1, he1⟩ := List.getElem?_of_mem (hV a _ ha)
  have hW := C0.2.2.2.2.2.2.2.2.1
  have ec : (iI n).toNatClampNeg = n.toNat := iI_cl ⟨by omega, by omega⟩
  have e0 : (iI 0).toNatClampNeg = 0 := by decide
  have hneg : ∀ z : Int, 0 ≤ z → z < 2147483648 → ¬ iI z < 0 := fun z z0 z1 q => by have := (iI_lt ⟨by omega, by omega⟩ R32_0).mp q; omega
  have hnw : nativeFrameWords "java/lang/System" "arraycopy" 5 ≤ 30 := by decide
  refine va_copyi (ty := .int) C0.1 C0.2.1 (by rw [C0.2.2.1]; exact hl'.1.symm) C0.2.2.2.2.2.2.2.1 (wd G hW hl rfl) (wd G hW hnt rfl) (wd G hW hst9 rfl) (wd G hW hini rfl) (gK G hW) hP hD hS q0 q1 0 0 he0 he1 rfl rfl rfl (hneg 0 (by omega) (by omega)) (hneg 0 (by omega) (by omega)) (hneg n h0 hn) (by rw [ec, e0]; omega) (by rw [ec, e0]; omega) (fun _ _ => rfl) hf (by omega) d ?_
  have ef : va_cpy (fun j : Nat => iI (f (j : Int))) (fun j : Nat => iI (f1 (j : Int))) 0 0 n.toNat = fun j : Nat => iI ((fun k => if k < n then f k else f1 k) (j : Int)) := by
    funext j
    unfold va_cpy
    by_cases q : (j : Int) < n
    · rw [if_pos ⟨by omega, by omega⟩]
      show iI (f ((0 + (j - 0) : Nat) : Int)) = iI (if (j : Int) < n then f j else f1 j)
      rw [if_pos q]
      rw [show 0 + (j - 0) = j by omega]
    · rw [if_neg (by omega)]
      show iI (f1 (j : Int)) = iI (if (j : Int) < n then f j else f1 j)
      rw [if_neg q]
  rw [ec, e0, ef]
  exact fun H1 locs1 hP1 hD1 hS1 => kk G p e s m args below meth c H1 locs1 lsA cells slots C0 ⟨_, hS1, hP1, hD1, vw_set hV he1⟩ hl' a1 a2
theorem x_ldcI {index : Nat} {v : Int32} (d : decode M.2.1 pc = .ok (.ldc index, 2)) (hl : Cond.constant M.1 index v ∈ lw_tbl) (kk : xW g M Q QX rc rs h (pc + 2) ls (.int v :: st)) : xW g M Q QX rc rs h pc ls st := by
  intro G p e s m args below meth c H locs lsA cells slots C0 hh hl' a1 a2
  exact lv_ldc C0.1 C0.2.1 C0.2.2.2.2.2.2.2.1 (wd G C0.2.2.2.2.2.2.2.2.1 hl rfl) d (kk G p e s m args below meth c H locs lsA cells slots C0 hh hl' a1 a2)
theorem x_ldcwI {index : Nat} {v : Int32} (d : decode M.2.1 pc = .ok (.ldc_w index, 3)) (hl : Cond.constant M.1 index v ∈ lw_tbl) (kk : xW g M Q QX rc rs h (pc + 3) ls (.int v :: st)) : xW g M Q QX rc rs h pc ls st := by
  intro G p e s m args below meth c H locs lsA cells slots C0 hh hl' a1 a2
  exact lv_ldcw C0.1 C0.2.1 C0.2.2.2.2.2.2.2.1 (wd G C0.2.2.2.2.2.2.2.2.1 hl rfl) d (kk G p e s m args below meth c H locs lsA cells slots C0 hh hl' a1 a2)
end XCR
