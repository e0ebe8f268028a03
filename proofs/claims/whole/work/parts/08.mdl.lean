/-! the reference: its cells as a grid S of integers: S k j is what its field k holds (a row's place j; 0 of a number) -/
abbrev gS : Type := Nat → Int → Int
def sset (S : gS) (k : Nat) (i v : Int) : gS := fun a j => if a = k ∧ j = i then v else S a j
theorem sset_n (S : gS) {k a : Nat} (i v : Int) (h : a ≠ k) : sset S k i v a = S a := by
  funext j
  unfold sset
  rw [if_neg (fun q => h q.1)]
theorem sset_s (S : gS) (k : Nat) (i v : Int) : sset S k i v k = fset (S k) i v := by
  funext j
  unfold sset fset
  by_cases q : j = i
  · rw [if_pos ⟨rfl, q⟩, if_pos q]
  · rw [if_neg (fun z => q z.2), if_neg q]
theorem sset_e (S : gS) (k : Nat) (i v : Int) : sset S k i v k i = v := by unfold sset; rw [if_pos ⟨rfl, rfl⟩]
def mlen (k : Nat) : Nat := if k = 1 then 1120 else if k = 2 then 35 else if k ≤ 5 then 10 else if k ≤ 10 then 8 else if k ≤ 18 then 25 else if k ≤ 22 then 20 else if k ≤ 25 then 32 else if k = 26 then 8 else 28
theorem mlen_lt (k : Nat) : mlen k < 2147483648 := by unfold mlen; (repeat' split) <;> omega
def misA (k : Nat) : Bool := decide (k < 28) && !(k == 0 || k == 3 || k == 6 || k == 11 || k == 23)
def marr (g : xG) (k : Nat) (f : Int → Int) : va_E := if k = 5 then zarr g 10 f else iarr g (mlen k) f
def mobj (tt : Int) (S : gS) (ad : Nat → Nat) : List Value := [.int (iI tt), .ref (ad 1), .ref (ad 2), .int (iI (S 3 0)), .ref (ad 4), .ref (ad 5), .int (iI (S 6 0)), .ref (ad 7), .ref (ad 8), .ref (ad 9), .ref (ad 10), .int (iI (S 11 0)), .ref (ad 12), .ref (ad 13), .ref (ad 14), .ref (ad 15), .ref (ad 16), .ref (ad 17), .ref (ad 18), .ref (ad 19), .ref (ad 20), .ref (ad 21), .ref (ad 22), .int (iI (S 23 0)), .ref (ad 24), .ref (ad 25), .ref (ad 26), .ref (ad 27)]
def mdl (g : xG) (x : Nat) (ad : Nat → Nat) (tt : Int) (S : gS) (h : hp) : Prop := h x = some (.inr (7, mobj tt S ad)) ∧ (∀ k, misA k = true → h (ad k) = some (marr g k (S k))) ∧ ∀ i j, misA i = true → misA j = true → ad i = ad j → i = j
def mfr (x : Nat) (ad : Nat → Nat) (h h' : hp) : Prop := ∀ a, a ≠ x → (∀ k, misA k = true → a ≠ ad k) → h' a = h a
theorem mfr.rfl {x : Nat} {ad : Nat → Nat} {h : hp} : mfr x ad h h := fun _ _ _ => Eq.refl _
theorem mfr.trans {x : Nat} {ad : Nat → Nat} {h h1 h2 : hp} (a : mfr x ad h h1) (b : mfr x ad h1 h2) : mfr x ad h h2 := fun q h3 h4 => (b q h3 h4).trans (a q h3 h4)
abbrev qS : Type := Option Value → Int → gS → Prop
def mQ (g : xG) (x : Nat) (ad : Nat → Nat) (h0 : hp) (Qm : qS) : qP := fun v h' => ∃ t' S', Qm v t' S' ∧ mdl g x ad t' S' h' ∧ mfr x ad h0 h'
abbrev mN : qE := fun _ _ => False
def mW (g : xG) (M : xMeth) (x : Nat) (ad : Nat → Nat) (h0 : hp) (Qm : qS) (tt : Int) (S : gS) (pc : Nat) (ls : List (Option Value)) (st : List Value) : Prop := ∀ h, mdl g x ad tt S h → mfr x ad h0 h → xW g M (mQ g x ad h0 Qm) mN 0 0 h pc ls st
def mM (g : xG) (y : MethodName) (wc : Cond) (N : xMeth) (x : Nat) (ad : Nat → Nat) (av : List Value) (tt : Int) (S : gS) (Qm : qS) : Prop := ∀ h, mdl g x ad tt S h → xM g y wc N (.ref x :: av) h (mQ g x ad h Qm) mN
def sM (g : xG) (y : MethodName) (wc : Cond) (N : xMeth) (av : List Value) (Qs : Option Value → Prop) : Prop := ∀ h, xM g y wc N av h (fun v h' => Qs v ∧ h' = h) mN
section XMD
variable {g : xG} {M N : xMeth} {x0 : Nat} {ad : Nat → Nat} {h0 : hp} {Qm Qm' : qS} {tt : Int} {S : gS} {pc : Nat} {ls : List (Option Value)} {st : List Value}
theorem mdl.ne {h : hp} (hm : mdl g x0 ad tt S h) {k : Nat} (hk : misA k = true) : x0 ≠ ad k := by
  intro e
  have h1 := hm.1
  rw [e, hm.2.1 k hk] at h1
  unfold marr at h1
  split at h1 <;> cases h1
theorem mdl.set {h : hp} (hm : mdl g x0 ad tt S h) {k : Nat} (hk : misA k = true) (i v : Int) : mdl g x0 ad tt (sset S k i v) (hset h (ad k) (marr g k (fset (S k) i v))) := by
  refine ⟨?_, fun j hj => ?_, hm.2.2⟩
  · rw [hset_n _ _ (hm.ne hk), hm.1]
    have hs : ∀ q, q ≠ k → sset S k i v q = S q := fun q hq => sset_n S i v hq
    have h5 : ∀ q, misA q = false → q ≠ k := fun q hq e => by rw [e, hk] at hq; cases hq
    unfold mobj
    rw [hs 3 (h5 3 rfl), hs 6 (h5 6 rfl), hs 11 (h5 11 rfl), hs 23 (h5 23 rfl)]
  · by_cases hjk : j = k
    · subst hjk
      rw [hset_s, sset_s]
    · rw [hset_n _ _ (fun e => hjk (hm.2.2 j k hj hk e)), hm.2.1 j hj, sset_n S i v hjk]
theorem mfr.set {h : hp} (hf : mfr x0 ad h0 h) {k : Nat} (hk : misA k = true) (e : va_E) : mfr x0 ad h0 (hset h (ad k) e) := fun q h1 h2 => (hset_n h e (h2 k hk)).trans (hf q h1 h2)
theorem m_ald {k : Nat} {i : Int} (n : Nat) (hk : misA k = true) (h5 : k ≠ 5) (hlen : mlen k = n) (d : decode M.2.1 pc = .ok (.iaload, 1)) (hi0 : 0 ≤ i) (hi1 : i < n) (kk : mW g M x0 ad h0 Qm tt S (pc + 1) ls (.int (iI (S k i)) :: st)) : mW g M x0 ad h0 Qm tt S pc ls (.int (iI i) :: .ref (ad k) :: st) := fun h hm hf => x_iald (n := mlen k) (f := S k) d (by rw [hm.2.1 k hk]; unfold marr; rw [if_neg h5]) (mlen_lt k) hi0 (by rw [hlen]; exact hi1) (kk h hm hf)
theorem m_zld {i : Int} (d : decode M.2.1 pc = .ok (.baload, 1)) (hi0 : 0 ≤ i) (hi1 : i < 10) (kk : mW g M x0 ad h0 Qm tt S (pc + 1) ls (.int (iI (S 5 i)) :: st)) : mW g M x0 ad h0 Qm tt S pc ls (.int (iI i) :: .ref (ad 5) :: st) := fun h hm hf => x_zald (n := 10) (f := S 5) d (by rw [hm.2.1 5 rfl]; rfl) (by omega) hi0 hi1 (kk h hm hf)
theorem m_ast {k : Nat} {i v : Int} (n : Nat) (hk : misA k = true) (h5 : k ≠ 5) (hlen : mlen k = n) (d : decode M.2.1 pc = .ok (.iastore, 1)) (hi0 : 0 ≤ i) (hi1 : i < n) (kk : mW g M x0 ad h0 Qm tt (sset S k i v) (pc + 1) ls st) : mW g M x0 ad h0 Qm tt S pc ls (.int (iI v) :: .int (iI i) :: .ref (ad k) :: st) := fun h hm hf => x_iast (n := mlen k) (f := S k) d (by rw [hm.2.1 k hk]; unfold marr; rw [if_neg h5]) (mlen_lt k) hi0 (by rw [hlen]; exact hi1) (by
  have e : marr g k (fset (S k) i v) = iarr g (mlen k) (fset (S k) i v) := by unfold marr; rw [if_neg h5]
  rw [← e]
  exact kk _ (hm.set hk i v) (hf.set hk _))
theorem m_zst {i v : Int} (d : decode M.2.1 pc = .ok (.bastore, 1)) (hi0 : 0 ≤ i) (hi1 : i < 10) (hv : v = 0 ∨ v = 1) (kk : mW g M x0 ad h0 Qm tt (sset S 5 i v) (pc + 1) ls st) : mW g M x0 ad h0 Qm tt S pc ls (.int (iI v) :: .int (iI i) :: .ref (ad 5) :: st) := fun h hm hf => x_zast (n := 10) (f := S 5) d (by rw [hm.2.1 5 rfl]; rfl) (by omega) hi0 hi1 hv (kk _ (hm.set (k := 5) rfl i v) (hf.set (k := 5) rfl _))
theorem m_getf {index k : Nat} {v : Value} (d : decode M.2.1 pc = .ok (.getfield index, 3)) (hM : M.1 = "ContainerHostModel") (hin : ∀ w ∈ u_ws RX7 TX7 28, w ∈ lw_tbl) (hk : k < 28) (hl : Cond.fieldLink "ContainerHostModel" index "ContainerHostModel" (TX7 k).2.1 (TX7 k).2.2.1 ∈ lw_tbl) (hd : (TX7 k).1 = "ContainerHostModel") (hv : (mobj tt S ad)[k]? = some v) (kk : mW g M x0 ad h0 Qm tt S (pc + 3) ls (v :: st)) : mW g M x0 ad h0 Qm tt S pc ls (.ref x0 :: st) :=
  fun h hm hf => x_get (ci := 7) (ref := "ContainerHostModel") d hin rfl hk (by rw [hM]; exact hl) (Or.inl hd.symm) hm.1 hv (kk h hm hf)
theorem m_putf {index k : Nat} {v : Int} (d : decode M.2.1 pc = .ok (.putfield index, 3)) (hM : M.1 = "ContainerHostModel") (hin : ∀ w ∈ u_ws RX7 TX7 28, w ∈ lw_tbl) (hk : k < 28) (hl : Cond.fieldLink "ContainerHostModel" index "ContainerHostModel" (TX7 k).2.1 (TX7 k).2.2.1 ∈ lw_tbl) (hd : (TX7 k).1 = "ContainerHostModel") (hA : misA k = false) (hfin : (TX7 k).2.2.2 = false) (hty : tyX7 k = .int) (hset : (mobj tt S ad).set k (.int (iI v)) = mobj tt (sset S k 0 v) ad) (kk : mW g M x0 ad h0 Qm tt (sset S k 0 v) (pc + 3) ls st) : mW g M x0 ad h0 Qm tt S pc ls (.int (iI v) :: .ref x0 :: st) := by
  intro h hm hf
  refine x_put (ci := 7) (ref := "ContainerHostModel") d hin tyX7_ok nmX7 rfl hk (by rw [hM]; exact hl) (Or.inl hd.symm) hfin (by rw [hty]; rfl) (by rw [hty]; rfl) hm.1 hk ?_
  rw [hset]
  refine kk _ ⟨hset_s _ _ _, fun j hj => ?_, hm.2.2⟩ (fun q h1 h2 => (hset_n h _ h1).trans (hf q h1 h2))
  rw [hset_n _ _ (fun e => hm.ne hj e.symm), hm.2.1 j hj, sset_n S 0 v (fun e => by rw [e, hA] at hj; cases hj)]
theorem m_put0 {index : Nat} {v : Int} (d : decode M.2.1 pc = .ok (.putfield index, 3)) (hM : M.1 = "ContainerHostModel") (hin : ∀ w ∈ u_ws RX7 TX7 28, w ∈ lw_tbl) (hl : Cond.fieldLink "ContainerHostModel" index "ContainerHostModel" "thrown" "I" ∈ lw_tbl) (kk : mW g M x0 ad h0 Qm v S (pc + 3) ls st) : mW g M x0 ad h0 Qm tt S pc ls (.int (iI v) :: .ref x0 :: st) := by
  intro h hm hf
  refine x_put (ci := 7) (ref := "ContainerHostModel") (k := 0) d hin tyX7_ok nmX7 rfl (by decide) (by rw [hM]; exact hl) (Or.inl rfl) rfl rfl rfl hm.1 (Nat.le_of_ble_eq_true rfl) ?_
  refine kk _ ⟨hset_s _ _ _, fun j hj => ?_, hm.2.2⟩ (fun q h1 h2 => (hset_n h _ h1).trans (hf q h1 h2))
  rw [hset_n _ _ (fun e => hm.ne hj e.symm), hm.2.1 j hj]
theorem m_callV {y : MethodName} {wc : Cond} {index n : Nat} {As stk : List Value} (d : decode M.2.1 pc = .ok (.invokevirtual index, 3)) (hc : callOk M N y wc index n) (hi : Cond.instanceMethod y ∈ lw_tbl) (hs : Cond.selects y.cls y y ∈ lw_tbl) (hy : y.cls = "ContainerHostModel") (hM : mM g y wc N x0 ad As tt S Qm') (hn : As.length = n) (hstk : stk = As.reverse ++ .ref x0 :: st) (hcat : (st.map fun v => v.category).sum ≤ 8) (hh0 : M.2.2.2.2.2.1 = []) (e1 : N.2.2.2.2.2.2.cells = 0) (e2 : N.2.2.2.2.2.2.slots = 0)
    (kr : ∀ v t' S', Qm' v t' S' → mW g M x0 ad h0 Qm t' S' (pc + 3) ls (v.toList ++ st)) : mW g M x0 ad h0 Qm tt S pc ls stk :=
  fun h hm hf => x_callV (rc' := 0) (rs' := 0) (ci := 7) (r := (RX7, TX7, 28)) d hc hi hs (hM h hm) hm.1 rfl hy.symm hn hstk hcat hh0 (by omega) (by omega) (fun _ _ z => z.elim) (fun v h' ⟨t', S', q1, q2, q3⟩ => kr v t' S' q1 h' q2 (hf.trans q3))
theorem m_callS {y : MethodName} {wc : Cond} {index n : Nat} {As stk : List Value} {Qs : Option Value → Prop} (d : decode M.2.1 pc = .ok (.invokestatic index, 3)) (hc : callOk M N y wc index n) (hs : Cond.static y ∈ lw_tbl) (hM : sM g y wc N As Qs) (hn : As.length = n) (hstk : stk = As.reverse ++ st) (hcat : (st.map fun v => v.category).sum ≤ 8) (hh0 : M.2.2.2.2.2.1 = []) (e1 : N.2.2.2.2.2.2.cells = 0) (e2 : N.2.2.2.2.2.2.slots = 0)
    (kr : ∀ v, Qs v → mW g M x0 ad h0 Qm tt S (pc + 3) ls (v.toList ++ st)) : mW g M x0 ad h0 Qm tt S pc ls stk :=
  fun h hm hf => x_callS (rc' := 0) (rs' := 0) d hc hs (hM h) hn hstk hcat hh0 (by omega) (by omega) (fun _ _ z => z.elim) (fun v h' ⟨q1, q2⟩ => by rw [q2]; exact kr v q1 h hm hf)
theorem m_iret {v : Int32} (hr : M.2.2.2.1 = some .int) (d : decode M.2.1 pc = .ok (.ireturn, 1)) (hq : Qm (some (.int v)) tt S) : mW g M x0 ad h0 Qm tt S pc ls [.int v] := fun h hm hf => x_iret hr d ⟨tt, S, hq, hm, hf⟩
theorem m_zret {b : Int} (hr : M.2.2.2.1 = some .boolean) (d : decode M.2.1 pc = .ok (.ireturn, 1)) (hb : b = 0 ∨ b = 1) (hq : Qm (some (.int (iI b))) tt S) : mW g M x0 ad h0 Qm tt S pc ls [.int (iI b)] := fun h hm hf => x_zret hr hb d ⟨tt, S, hq, hm, hf⟩
theorem m_vret (hr : M.2.2.2.1 = none) (d : decode M.2.1 pc = .ok (.return_, 1)) (hq : Qm none tt S) : mW g M x0 ad h0 Qm tt S pc ls [] := fun h hm hf => x_vret hr d ⟨tt, S, hq, hm, hf⟩
theorem mM.of {y : MethodName} {wc : Cond} {av : List Value} (hwc : wc = Cond.code y M.2.1 M.2.2.1 M.2.2.2.1) (hy : plainName y.cls = true) (hcl : y.cls = M.1) (hnm : y.name = M.2.2.2.2.1) (hh : M.2.2.2.2.2.1 = []) (hv : ∀ v ∈ av, v.category = 1) (hn : av.length + 1 ≤ M.2.2.1) (hls : some (Value.ref x0) :: (av.map some ++ List.replicate (M.2.2.1 - (av.length + 1)) none) = ls) (body : ∀ h0, mW g M x0 ad h0 Qm tt S 0 ls []) : mM g y wc M x0 ad av tt S Qm := by
  intro h hm
  refine xM.of hwc hy hcl hnm hh (fun v hv' => ?_) hn hls ((body h h hm mfr.rfl).mono (Nat.zero_le _) (Nat.zero_le _))
  rcases List.mem_cons.mp hv' with rfl | q
  · rfl
  · exact hv v q
theorem sM.of {y : MethodName} {wc : Cond} {av : List Value} {Qs : Option Value → Prop} (hwc : wc = Cond.code y M.2.1 M.2.2.1 M.2.2.2.1) (hy : plainName y.cls = true) (hcl : y.cls = M.1) (hnm : y.name = M.2.2.2.2.1) (hh : M.2.2.2.2.2.1 = []) (hv : ∀ v ∈ av, v.category = 1) (hn : av.length ≤ M.2.2.1) (hls : av.map some ++ List.replicate (M.2.2.1 - av.length) none = ls) (body : ∀ h, xW g M (fun v h' => Qs v ∧ h' = h) mN 0 0 h 0 ls []) : sM g y wc M av Qs := fun h => xM.of hwc hy hcl hnm hh hv hn hls ((body h).mono (Nat.zero_le _) (Nat.zero_le _))
theorem m_iconst {n : Int} (d : decode M.2.1 pc = .ok (.iconst n, 1)) (k : mW g M x0 ad h0 Qm tt S (pc + 1) ls (.int (iI n) :: st)) : mW g M x0 ad h0 Qm tt S pc ls (st) := fun h hm hf => x_iconst d (k h hm hf)
theorem m_bipush {n : Int} (d : decode M.2.1 pc = .ok (.bipush n, 2)) (hv : (Int8.ofInt n).toInt32 = iI n) (k : mW g M x0 ad h0 Qm tt S (pc + 2) ls (.int (iI n) :: st)) : mW g M x0 ad h0 Qm tt S pc ls (st) := fun h hm hf => x_bipush d hv (k h hm hf)
theorem m_sipush {n : Int} (d : decode M.2.1 pc = .ok (.sipush n, 3)) (hv : (Int16.ofInt n).toInt32 = iI n) (k : mW g M x0 ad h0 Qm tt S (pc + 3) ls (.int (iI n) :: st)) : mW g M x0 ad h0 Qm tt S pc ls (st) := fun h hm hf => x_sipush d hv (k h hm hf)
theorem m_null (d : decode M.2.1 pc = .ok (.aconst_null, 1)) (k : mW g M x0 ad h0 Qm tt S (pc + 1) ls (.null :: st)) : mW g M x0 ad h0 Qm tt S pc ls (st) := fun h hm hf => x_null d (k h hm hf)
theorem m_iload_n {n : Fin 4} {x : Int32} (d : decode M.2.1 pc = .ok (.iload_n n, 1)) (hx : ls[(n : Nat)]? = some (some (.int x))) (k : mW g M x0 ad h0 Qm tt S (pc + 1) ls (.int x :: st)) : mW g M x0 ad h0 Qm tt S pc ls (st) := fun h hm hf => x_iload_n d hx (k h hm hf)
theorem m_iload {n : Nat} {x : Int32} (d : decode M.2.1 pc = .ok (.iload n, 2)) (hx : ls[n]? = some (some (.int x))) (k : mW g M x0 ad h0 Qm tt S (pc + 2) ls (.int x :: st)) : mW g M x0 ad h0 Qm tt S pc ls (st) := fun h hm hf => x_iload d hx (k h hm hf)
theorem m_aload_n {n : Fin 4} {x : Nat} (d : decode M.2.1 pc = .ok (.aload_n n, 1)) (hx : ls[(n : Nat)]? = some (some (.ref x))) (k : mW g M x0 ad h0 Qm tt S (pc + 1) ls (.ref x :: st)) : mW g M x0 ad h0 Qm tt S pc ls (st) := fun h hm hf => x_aload_n d hx (k h hm hf)
theorem m_aload {n : Nat} {x : Nat} (d : decode M.2.1 pc = .ok (.aload n, 2)) (hx : ls[n]? = some (some (.ref x))) (k : mW g M x0 ad h0 Qm tt S (pc + 2) ls (.ref x :: st)) : mW g M x0 ad h0 Qm tt S pc ls (st) := fun h hm hf => x_aload d hx (k h hm hf)
theorem m_aload_nN {n : Fin 4} (d : decode M.2.1 pc = .ok (.aload_n n, 1)) (hx : ls[(n : Nat)]? = some (some .null)) (k : mW g M x0 ad h0 Qm tt S (pc + 1) ls (.null :: st)) : mW g M x0 ad h0 Qm tt S pc ls (st) := fun h hm hf => x_aload_nN d hx (k h hm hf)
theorem m_aloadN {n : Nat} (d : decode M.2.1 pc = .ok (.aload n, 2)) (hx : ls[n]? = some (some .null)) (k : mW g M x0 ad h0 Qm tt S (pc + 2) ls (.null :: st)) : mW g M x0 ad h0 Qm tt S pc ls (st) := fun h hm hf => x_aloadN d hx (k h hm hf)
theorem m_iadd {a b : Int} (d : decode M.2.1 pc = .ok (.iadd, 1)) (k : mW g M x0 ad h0 Qm tt S (pc + 1) ls (.int (iI (a + b)) :: st)) : mW g M x0 ad h0 Qm tt S pc ls (.int (iI b) :: .int (iI a) :: st) := fun h hm hf => x_iadd d (k h hm hf)
theorem m_isub {a b : Int} (d : decode M.2.1 pc = .ok (.isub, 1)) (k : mW g M x0 ad h0 Qm tt S (pc + 1) ls (.int (iI (a - b)) :: st)) : mW g M x0 ad h0 Qm tt S pc ls (.int (iI b) :: .int (iI a) :: st) := fun h hm hf => x_isub d (k h hm hf)
theorem m_imul {a b : Int} (d : decode M.2.1 pc = .ok (.imul, 1)) (k : mW g M x0 ad h0 Qm tt S (pc + 1) ls (.int (iI (a * b)) :: st)) : mW g M x0 ad h0 Qm tt S pc ls (.int (iI b) :: .int (iI a) :: st) := fun h hm hf => x_imul d (k h hm hf)
theorem m_ineg {a : Int} (d : decode M.2.1 pc = .ok (.ineg, 1)) (k : mW g M x0 ad h0 Qm tt S (pc + 1) ls (.int (iI (-a)) :: st)) : mW g M x0 ad h0 Qm tt S pc ls (.int (iI a) :: st) := fun h hm hf => x_ineg d (k h hm hf)
theorem m_iand {x y v : Int32} (d : decode M.2.1 pc = .ok (.iand, 1)) (hv : x &&& y = v) (k : mW g M x0 ad h0 Qm tt S (pc + 1) ls (.int v :: st)) : mW g M x0 ad h0 Qm tt S pc ls (.int y :: .int x :: st) := fun h hm hf => x_iand d hv (k h hm hf)
theorem m_ior {x y v : Int32} (d : decode M.2.1 pc = .ok (.ior, 1)) (hv : x ||| y = v) (k : mW g M x0 ad h0 Qm tt S (pc + 1) ls (.int v :: st)) : mW g M x0 ad h0 Qm tt S pc ls (.int y :: .int x :: st) := fun h hm hf => x_ior d hv (k h hm hf)
theorem m_ixor {x y v : Int32} (d : decode M.2.1 pc = .ok (.ixor, 1)) (hv : x ^^^ y = v) (k : mW g M x0 ad h0 Qm tt S (pc + 1) ls (.int v :: st)) : mW g M x0 ad h0 Qm tt S pc ls (.int y :: .int x :: st) := fun h hm hf => x_ixor d hv (k h hm hf)
theorem m_ishl {x y v : Int32} (d : decode M.2.1 pc = .ok (.ishl, 1)) (hv : x <<< (y &&& 31) = v) (k : mW g M x0 ad h0 Qm tt S (pc + 1) ls (.int v :: st)) : mW g M x0 ad h0 Qm tt S pc ls (.int y :: .int x :: st) := fun h hm hf => x_ishl d hv (k h hm hf)
theorem m_ishr {x y v : Int32} (d : decode M.2.1 pc = .ok (.ishr, 1)) (hv : x >>> (y &&& 31) = v) (k : mW g M x0 ad h0 Qm tt S (pc + 1) ls (.int v :: st)) : mW g M x0 ad h0 Qm tt S pc ls (.int y :: .int x :: st) := fun h hm hf => x_ishr d hv (k h hm hf)
theorem m_iushr {x y v : Int32} (d : decode M.2.1 pc = .ok (.iushr, 1)) (hv : (x.toUInt32 >>> (y.toUInt32 &&& Int32.toUInt32 31)).toInt32 = v) (k : mW g M x0 ad h0 Qm tt S (pc + 1) ls (.int v :: st)) : mW g M x0 ad h0 Qm tt S pc ls (.int y :: .int x :: st) := fun h hm hf => x_iushr d hv (k h hm hf)
theorem m_idiv {x y v : Int32} (d : decode M.2.1 pc = .ok (.idiv, 1)) (hy : ¬ y = 0) (hv : x / y = v) (k : mW g M x0 ad h0 Qm tt S (pc + 1) ls (.int v :: st)) : mW g M x0 ad h0 Qm tt S pc ls (.int y :: .int x :: st) := fun h hm hf => x_idiv d hy hv (k h hm hf)
theorem m_irem {x y v : Int32} (d : decode M.2.1 pc = .ok (.irem, 1)) (hy : ¬ y = 0) (hv : x - x / y * y = v) (k : mW g M x0 ad h0 Qm tt S (pc + 1) ls (.int v :: st)) : mW g M x0 ad h0 Qm tt S pc ls (.int y :: .int x :: st) := fun h hm hf => x_irem d hy hv (k h hm hf)
theorem m_i2l {x : Int32} (d : decode M.2.1 pc = .ok (.i2l, 1)) (k : mW g M x0 ad h0 Qm tt S (pc + 1) ls (.long x.toInt64 :: st)) : mW g M x0 ad h0 Qm tt S pc ls (.int x :: st) := fun h hm hf => x_i2l d (k h hm hf)
theorem m_lcmp {x y : Int64} (d : decode M.2.1 pc = .ok (.lcmp, 1)) (k : mW g M x0 ad h0 Qm tt S (pc + 1) ls (.int (lg_cmp x y) :: st)) : mW g M x0 ad h0 Qm tt S pc ls (.long y :: .long x :: st) := fun h hm hf => x_lcmp d (k h hm hf)
theorem m_dup {v : Value} (d : decode M.2.1 pc = .ok (.dup, 1)) (hv : v.category = 1) (k : mW g M x0 ad h0 Qm tt S (pc + 1) ls (v :: v :: st)) : mW g M x0 ad h0 Qm tt S pc ls (v :: st) := fun h hm hf => x_dup d hv (k h hm hf)
theorem m_pop {v : Value} (d : decode M.2.1 pc = .ok (.pop, 1)) (hv : v.category = 1) (k : mW g M x0 ad h0 Qm tt S (pc + 1) ls st) : mW g M x0 ad h0 Qm tt S pc ls (v :: st) := fun h hm hf => x_pop d hv (k h hm hf)
theorem m_dup_x1 {v w : Value} (d : decode M.2.1 pc = .ok (.dup_x1, 1)) (hv : v.category = 1) (hw : w.category = 1) (k : mW g M x0 ad h0 Qm tt S (pc + 1) ls (v :: w :: v :: st)) : mW g M x0 ad h0 Qm tt S pc ls (v :: w :: st) := fun h hm hf => x_dup_x1 d hv hw (k h hm hf)
theorem m_dup2 {v w : Value} (d : decode M.2.1 pc = .ok (.dup2, 1)) (hv : v.category = 1) (hw : w.category = 1) (k : mW g M x0 ad h0 Qm tt S (pc + 1) ls (v :: w :: v :: w :: st)) : mW g M x0 ad h0 Qm tt S pc ls (v :: w :: st) := fun h hm hf => x_dup2 d hv hw (k h hm hf)
theorem m_icmp_eq {a b : Int} {off : Int} {tgt : Nat} (d : decode M.2.1 pc = .ok (.if_icmp .eq off, 3)) (ht : (pc : Int) + off = (tgt : Int)) (ha : R32 a) (hb : R32 b) (kt : a = b → mW g M x0 ad h0 Qm tt S tgt ls st) (kf : ¬ a = b → mW g M x0 ad h0 Qm tt S (pc + 3) ls st) : mW g M x0 ad h0 Qm tt S pc ls (.int (iI b) :: .int (iI a) :: st) := fun h hm hf => x_icmp_eq d ht ha hb (fun z => kt z h hm hf) (fun z => kf z h hm hf)
theorem m_if_eq {a : Int} {off : Int} {tgt : Nat} (d : decode M.2.1 pc = .ok (.ifCond .eq off, 3)) (ht : (pc : Int) + off = (tgt : Int)) (ha : R32 a) (kt : a = 0 → mW g M x0 ad h0 Qm tt S tgt ls st) (kf : ¬ a = 0 → mW g M x0 ad h0 Qm tt S (pc + 3) ls st) : mW g M x0 ad h0 Qm tt S pc ls (.int (iI a) :: st) := fun h hm hf => x_if_eq d ht ha (fun z => kt z h hm hf) (fun z => kf z h hm hf)
theorem m_icmp_ne {a b : Int} {off : Int} {tgt : Nat} (d : decode M.2.1 pc = .ok (.if_icmp .ne off, 3)) (ht : (pc : Int) + off = (tgt : Int)) (ha : R32 a) (hb : R32 b) (kt : ¬ a = b → mW g M x0 ad h0 Qm tt S tgt ls st) (kf : a = b → mW g M x0 ad h0 Qm tt S (pc + 3) ls st) : mW g M x0 ad h0 Qm tt S pc ls (.int (iI b) :: .int (iI a) :: st) := fun h hm hf => x_icmp_ne d ht ha hb (fun z => kt z h hm hf) (fun z => kf z h hm hf)
theorem m_if_ne {a : Int} {off : Int} {tgt : Nat} (d : decode M.2.1 pc = .ok (.ifCond .ne off, 3)) (ht : (pc : Int) + off = (tgt : Int)) (ha : R32 a) (kt : ¬ a = 0 → mW g M x0 ad h0 Qm tt S tgt ls st) (kf : a = 0 → mW g M x0 ad h0 Qm tt S (pc + 3) ls st) : mW g M x0 ad h0 Qm tt S pc ls (.int (iI a) :: st) := fun h hm hf => x_if_ne d ht ha (fun z => kt z h hm hf) (fun z => kf z h hm hf)
theorem m_icmp_lt {a b : Int} {off : Int} {tgt : Nat} (d : decode M.2.1 pc = .ok (.if_icmp .lt off, 3)) (ht : (pc : Int) + off = (tgt : Int)) (ha : R32 a) (hb : R32 b) (kt : a < b → mW g M x0 ad h0 Qm tt S tgt ls st) (kf : ¬ a < b → mW g M x0 ad h0 Qm tt S (pc + 3) ls st) : mW g M x0 ad h0 Qm tt S pc ls (.int (iI b) :: .int (iI a) :: st) := fun h hm hf => x_icmp_lt d ht ha hb (fun z => kt z h hm hf) (fun z => kf z h hm hf)
theorem m_if_lt {a : Int} {off : Int} {tgt : Nat} (d : decode M.2.1 pc = .ok (.ifCond .lt off, 3)) (ht : (pc : Int) + off = (tgt : Int)) (ha : R32 a) (kt : a < 0 → mW g M x0 ad h0 Qm tt S tgt ls st) (kf : ¬ a < 0 → mW g M x0 ad h0 Qm tt S (pc + 3) ls st) : mW g M x0 ad h0 Qm tt S pc ls (.int (iI a) :: st) := fun h hm hf => x_if_lt d ht ha (fun z => kt z h hm hf) (fun z => kf z h hm hf)
theorem m_icmp_ge {a b : Int} {off : Int} {tgt : Nat} (d : decode M.2.1 pc = .ok (.if_icmp .ge off, 3)) (ht : (pc : Int) + off = (tgt : Int)) (ha : R32 a) (hb : R32 b) (kt : b ≤ a → mW g M x0 ad h0 Qm tt S tgt ls st) (kf : ¬ b ≤ a → mW g M x0 ad h0 Qm tt S (pc + 3) ls st) : mW g M x0 ad h0 Qm tt S pc ls (.int (iI b) :: .int (iI a) :: st) := fun h hm hf => x_icmp_ge d ht ha hb (fun z => kt z h hm hf) (fun z => kf z h hm hf)
theorem m_if_ge {a : Int} {off : Int} {tgt : Nat} (d : decode M.2.1 pc = .ok (.ifCond .ge off, 3)) (ht : (pc : Int) + off = (tgt : Int)) (ha : R32 a) (kt : 0 ≤ a → mW g M x0 ad h0 Qm tt S tgt ls st) (kf : ¬ 0 ≤ a → mW g M x0 ad h0 Qm tt S (pc + 3) ls st) : mW g M x0 ad h0 Qm tt S pc ls (.int (iI a) :: st) := fun h hm hf => x_if_ge d ht ha (fun z => kt z h hm hf) (fun z => kf z h hm hf)
theorem m_icmp_gt {a b : Int} {off : Int} {tgt : Nat} (d : decode M.2.1 pc = .ok (.if_icmp .gt off, 3)) (ht : (pc : Int) + off = (tgt : Int)) (ha : R32 a) (hb : R32 b) (kt : b < a → mW g M x0 ad h0 Qm tt S tgt ls st) (kf : ¬ b < a → mW g M x0 ad h0 Qm tt S (pc + 3) ls st) : mW g M x0 ad h0 Qm tt S pc ls (.int (iI b) :: .int (iI a) :: st) := fun h hm hf => x_icmp_gt d ht ha hb (fun z => kt z h hm hf) (fun z => kf z h hm hf)
theorem m_if_gt {a : Int} {off : Int} {tgt : Nat} (d : decode M.2.1 pc = .ok (.ifCond .gt off, 3)) (ht : (pc : Int) + off = (tgt : Int)) (ha : R32 a) (kt : 0 < a → mW g M x0 ad h0 Qm tt S tgt ls st) (kf : ¬ 0 < a → mW g M x0 ad h0 Qm tt S (pc + 3) ls st) : mW g M x0 ad h0 Qm tt S pc ls (.int (iI a) :: st) := fun h hm hf => x_if_gt d ht ha (fun z => kt z h hm hf) (fun z => kf z h hm hf)
theorem m_icmp_le {a b : Int} {off : Int} {tgt : Nat} (d : decode M.2.1 pc = .ok (.if_icmp .le off, 3)) (ht : (pc : Int) + off = (tgt : Int)) (ha : R32 a) (hb : R32 b) (kt : a ≤ b → mW g M x0 ad h0 Qm tt S tgt ls st) (kf : ¬ a ≤ b → mW g M x0 ad h0 Qm tt S (pc + 3) ls st) : mW g M x0 ad h0 Qm tt S pc ls (.int (iI b) :: .int (iI a) :: st) := fun h hm hf => x_icmp_le d ht ha hb (fun z => kt z h hm hf) (fun z => kf z h hm hf)
theorem m_if_le {a : Int} {off : Int} {tgt : Nat} (d : decode M.2.1 pc = .ok (.ifCond .le off, 3)) (ht : (pc : Int) + off = (tgt : Int)) (ha : R32 a) (kt : a ≤ 0 → mW g M x0 ad h0 Qm tt S tgt ls st) (kf : ¬ a ≤ 0 → mW g M x0 ad h0 Qm tt S (pc + 3) ls st) : mW g M x0 ad h0 Qm tt S pc ls (.int (iI a) :: st) := fun h hm hf => x_if_le d ht ha (fun z => kt z h hm hf) (fun z => kf z h hm hf)
theorem m_goto {off : Int} {tgt : Nat} (d : decode M.2.1 pc = .ok (.goto off, 3)) (ht : (pc : Int) + off = (tgt : Int)) (k : mW g M x0 ad h0 Qm tt S tgt ls st) : mW g M x0 ad h0 Qm tt S pc ls st := fun h hm hf => x_goto d ht (k h hm hf)
theorem m_ifnull {x : Nat} {off : Int} (d : decode M.2.1 pc = .ok (.ifnull off, 3)) (k : mW g M x0 ad h0 Qm tt S (pc + 3) ls st) : mW g M x0 ad h0 Qm tt S pc ls (.ref x :: st) := fun h hm hf => x_ifnull d (k h hm hf)
theorem m_ifnullN {off : Int} {tgt : Nat} (d : decode M.2.1 pc = .ok (.ifnull off, 3)) (ht : (pc : Int) + off = (tgt : Int)) (k : mW g M x0 ad h0 Qm tt S tgt ls st) : mW g M x0 ad h0 Qm tt S pc ls (.null :: st) := fun h hm hf => x_ifnullN d ht (k h hm hf)
theorem m_ifnonnull {x : Nat} {off : Int} {tgt : Nat} (d : decode M.2.1 pc = .ok (.ifnonnull off, 3)) (ht : (pc : Int) + off = (tgt : Int)) (k : mW g M x0 ad h0 Qm tt S tgt ls st) : mW g M x0 ad h0 Qm tt S pc ls (.ref x :: st) := fun h hm hf => x_ifnonnull d ht (k h hm hf)
theorem m_ifnonnullN {off : Int} (d : decode M.2.1 pc = .ok (.ifnonnull off, 3)) (k : mW g M x0 ad h0 Qm tt S (pc + 3) ls st) : mW g M x0 ad h0 Qm tt S pc ls (.null :: st) := fun h hm hf => x_ifnonnullN d (k h hm hf)
theorem m_acmp_eq {rx ry : Option Nat} {vx vy : Value} {off : Int} {tgt : Nat} (d : decode M.2.1 pc = .ok (.if_acmp .eq off, 3)) (ht : (pc : Int) + off = (tgt : Int)) (ex : vx = va_rf rx) (ey : vy = va_rf ry) (kt : rx = ry → mW g M x0 ad h0 Qm tt S tgt ls st) (kf : ¬ rx = ry → mW g M x0 ad h0 Qm tt S (pc + 3) ls st) : mW g M x0 ad h0 Qm tt S pc ls (vy :: vx :: st) := fun h hm hf => x_acmp_eq d ht ex ey (fun z => kt z h hm hf) (fun z => kf z h hm hf)
theorem m_acmp_ne {rx ry : Option Nat} {vx vy : Value} {off : Int} {tgt : Nat} (d : decode M.2.1 pc = .ok (.if_acmp .ne off, 3)) (ht : (pc : Int) + off = (tgt : Int)) (ex : vx = va_rf rx) (ey : vy = va_rf ry) (kt : ¬ rx = ry → mW g M x0 ad h0 Qm tt S tgt ls st) (kf : rx = ry → mW g M x0 ad h0 Qm tt S (pc + 3) ls st) : mW g M x0 ad h0 Qm tt S pc ls (vy :: vx :: st) := fun h hm hf => x_acmp_ne d ht ex ey (fun z => kt z h hm hf) (fun z => kf z h hm hf)
theorem m_istore_n {n : Fin 4} {x : Int32} (d : decode M.2.1 pc = .ok (.istore_n n, 1)) (hn : (n : Nat) < M.2.2.1) (k : mW g M x0 ad h0 Qm tt S (pc + 1) (ls.set (n : Nat) (some (.int x))) st) : mW g M x0 ad h0 Qm tt S pc ls (.int x :: st) := fun h hm hf => x_istore_n d hn (k h hm hf)
theorem m_istore {n : Nat} {x : Int32} (d : decode M.2.1 pc = .ok (.istore n, 2)) (hn : n < M.2.2.1) (k : mW g M x0 ad h0 Qm tt S (pc + 2) (ls.set n (some (.int x))) st) : mW g M x0 ad h0 Qm tt S pc ls (.int x :: st) := fun h hm hf => x_istore d hn (k h hm hf)
theorem m_astore_n {n : Fin 4} {x : Nat} (d : decode M.2.1 pc = .ok (.astore_n n, 1)) (hn : (n : Nat) < M.2.2.1) (k : mW g M x0 ad h0 Qm tt S (pc + 1) (ls.set (n : Nat) (some (.ref x))) st) : mW g M x0 ad h0 Qm tt S pc ls (.ref x :: st) := fun h hm hf => x_astore_n d hn (k h hm hf)
theorem m_astore_nN {n : Fin 4} (d : decode M.2.1 pc = .ok (.astore_n n, 1)) (hn : (n : Nat) < M.2.2.1) (k : mW g M x0 ad h0 Qm tt S (pc + 1) (ls.set (n : Nat) (some .null)) st) : mW g M x0 ad h0 Qm tt S pc ls (.null :: st) := fun h hm hf => x_astore_nN d hn (k h hm hf)
theorem m_astore {n : Nat} {x : Nat} (d : decode M.2.1 pc = .ok (.astore n, 2)) (hn : n < M.2.2.1) (k : mW g M x0 ad h0 Qm tt S (pc + 2) (ls.set n (some (.ref x))) st) : mW g M x0 ad h0 Qm tt S pc ls (.ref x :: st) := fun h hm hf => x_astore d hn (k h hm hf)
theorem m_astoreN {n : Nat} (d : decode M.2.1 pc = .ok (.astore n, 2)) (hn : n < M.2.2.1) (k : mW g M x0 ad h0 Qm tt S (pc + 2) (ls.set n (some .null)) st) : mW g M x0 ad h0 Qm tt S pc ls (.null :: st) := fun h hm hf => x_astoreN d hn (k h hm hf)
theorem m_iinc {n : Nat} {q : Int} {a : Int} (d : decode M.2.1 pc = .ok (.iinc n q, 3)) (hx : ls[n]? = some (some (.int (iI a)))) (hn : n < M.2.2.1) (k : mW g M x0 ad h0 Qm tt S (pc + 3) (ls.set n (some (.int (iI (a + q))))) st) : mW g M x0 ad h0 Qm tt S pc ls st := fun h hm hf => x_iinc d hx hn (k h hm hf)
end XMD
