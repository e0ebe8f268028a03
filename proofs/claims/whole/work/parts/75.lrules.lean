/-- none of the three kinds of throw is another -/
def ncOk (g : xG) : Prop := va_Nc eIS eIO g.2.1 ∧ va_Nc eIA eIO g.2.1 ∧ va_Nc eIS eIA g.2.1
section XH
variable {g : xG} {M N : xMeth} {Q Q' : qP} {QX QX' : qE} {rc rs : Nat} {h : hp} {pc : Nat} {ls : List (Option Value)} {st : List Value}
theorem xM.ofH {y : MethodName} {wc : Cond} {av : List Value} (hwc : wc = Cond.codeWith y M.2.1 M.2.2.1 M.2.2.2.1 M.2.2.2.2.2.1) (hy : plainName y.cls = true) (hcl : y.cls = M.1) (hnm : y.name = M.2.2.2.2.1) (hv : ∀ v ∈ av, v.category = 1) (hn : av.length ≤ M.2.2.1) (hls : av.map some ++ List.replicate (M.2.2.1 - av.length) none = ls)
    (body : xW g M Q QX M.2.2.2.2.2.2.cells M.2.2.2.2.2.2.slots h 0 ls []) : xM g y wc M av h Q QX := by
  refine vx_ofWH (cc := M.2.1) (maxL := M.2.2.1) (ret := M.2.2.2.1) (hh := M.2.2.2.2.2.1) (ws' := []) hy (by rw [hwc]) ?_
  intro p e s m args below meth c s₁ B hml hv0
  obtain ⟨rfl, G, hW, hhp⟩ := hv0
  have hS : va_S (gA g) g.2.1.heap s.heap [] := by
    obtain ⟨ws, hS, -⟩ := hhp
    exact hS
  rw [lg_entry_eq]
  subst hls
  refine body G p e s m _ below meth c s.heap [] _ 0 0 ⟨B.exec, B.bytes, hml, B.returns, ?_, B.notSynchronized, ?_, ?_, hW, hS⟩ hhp (xL.entry hv hn) (by omega) (by omega)
  · exact ((name_of_methodNamed B.named B.method).1).trans hnm
  · exact vx_table (x := y) B (atoms_spec (ws := [wc]) B.pre _ (by rw [hwc]; exact List.mem_cons_self))
  · rw [← hcl]; exact findClass_of_methodNamed B.named
/-- a row of the table takes what was thrown here -/
def xCa (g : xG) (M : xMeth) (Q : qP) (QX : qE) (rc rs : Nat) (h : hp) (pc : Nat) (ls : List (Option Value)) (E : String) : Prop := ∃ (pre suf : List (Nat × Nat × Nat × Nat)) (x : Nat × Nat × Nat × Nat) (nm : String), M.2.2.2.2.2.1 = pre ++ x :: suf ∧ (∀ z ∈ pre, z.2.2.2 ≠ 0 ∧ ∃ nm, Cond.classLink M.1 z.2.2.2 nm ∈ lw_tbl ∧ va_Nc E nm g.2.1) ∧ covers ⟨x.1, x.2.1, x.2.2.1, x.2.2.2⟩ pc = true ∧ x.2.2.2 ≠ 0 ∧ Cond.classLink M.1 x.2.2.2 nm ∈ lw_tbl ∧ Cond.castable E nm ∈ lw_tbl ∧ ∀ q, xW g M Q QX rc rs h x.2.2.1 ls [.ref q]
theorem x_runC {index n rc' rs' : Nat} {av : List Value} {stk : List Value}
    (hr : ∀ (p : Program) (e : Env) (s : State) (m : MethodId) (args : Array Value) (below : List Frame) (meth : Method) (c : Code) (H : Heap) (locs : List Loc) (lsA : Array Slot) (cells slots : Nat), gOk g → xC g M p s m meth c → xHp g h H locs → xL lsA M.2.2.1 ls → cells + rc ≤ M.2.2.2.2.2.2.cells → slots + rs ≤ M.2.2.2.2.2.2.slots →
      vx_Run p g.1 e M.2.2.2.2.2.2 s m args below meth c H locs cells slots N.2.2.2.2.2.2.cells N.2.2.2.2.2.2.slots (F0 m pc lsA stk) st (qC g Q' av.toArray) (qX g QX') (gA g))
    (e1 : rc = rc' + N.2.2.2.2.2.2.cells) (e2 : rs = rs' + N.2.2.2.2.2.2.slots)
    (kr : ∀ v h', Q' v h' → xW g M Q QX rc' rs' h' (pc + 3) ls (v.toList ++ st)) (kx : ∀ E h', QX' E h' → xCa g M Q QX rc' rs' h' pc ls E) : xW g M Q QX rc rs h pc ls stk := by
  intro G p e s m args below meth c H locs lsA cells slots C0 hh hl' a1 a2
  intro T hT X
  have hW := C0.2.2.2.2.2.2.2.2.1
  rcases hr p e s m args below meth c H locs lsA cells slots G C0 hh hl' a1 a2 T hT X with ⟨v, st₀, t, T', L, h0, X', hL, q1, q2, ⟨v', h', hv, hq, hhp⟩, stp⟩ | ⟨q, st₀, t, T', L, E, ce, h0, X', hL, q1, q2, ⟨h', hq, hhp⟩, hce, hcv, hcl, stp⟩
  · cases hv
    obtain ⟨t2, b1, b2⟩ := kr v h' hq G p e s m args below meth c T'.heap (locs ++ L) lsA _ _ C0 (xback (H := H) (xlocs hh) hL hhp q1) hl' (by omega) (by omega) T' rfl X'
    exact ⟨t2, stp t2 b1, b2⟩
  · obtain ⟨pre, suf, x, nm, k1, k2, k3, k4, k5, k6, k7⟩ := kx E h' hq
    obtain ⟨t2, b1, b2⟩ := vx_catch (own := M.1) (name := nm) (E := E) (ce := ce) (q := q) (pc := pc) (H := T'.heap) (ls := lsA) (rest := st) C0.2.2.2.2.2.2.2.1 (tableOf pre) ⟨x.1, x.2.1, x.2.2.1, x.2.2.2⟩ (tableOf suf) (by rw [C0.2.2.2.2.2.2.1, k1]; unfold tableOf; rw [List.map_append, List.map_cons])
      (fun z hz => by
        unfold tableOf at hz
        obtain ⟨y, hy, rfl⟩ := List.mem_map.mp hz
        obtain ⟨z1, nm', z2, z3⟩ := k2 y hy
        exact Or.inr ⟨z1, nm', wd G hW z2 rfl, z3.moved hW.alike⟩) k3 k4 (wd G hW k5 rfl) (wdO G hW k6 rfl) (by rw [q1]; exact hce) hcv hcl
      (k7 q G p e s m args below meth c T'.heap (locs ++ L) lsA _ _ C0 (xback (H := H) (xlocs hh) hL hhp q1) hl' (by omega) (by omega)) T' rfl X'
    exact ⟨t2, stp.trans b1, b2⟩
theorem x_callVC {y : MethodName} {wc : Cond} {index n rc' rs' b ci : Nat} {As stk : List Value} {fs : List Value} {r : vw_C} (d : decode M.2.1 pc = .ok (.invokevirtual index, 3)) (hc : callOk M N y wc index n) (hi : Cond.instanceMethod y ∈ lw_tbl) (hs : Cond.selects y.cls y y ∈ lw_tbl) (hM : xM g y wc N (.ref b :: As) h Q' QX') (hb : h b = some (.inr (ci, fs))) (hci : vwCl[ci]? = some r) (hr : r.1 = y.cls) (hn : As.length = n) (hstk : stk = As.reverse ++ .ref b :: st) (hcat : (st.map fun v => v.category).sum ≤ 8)
    (e1 : rc = rc' + N.2.2.2.2.2.2.cells) (e2 : rs = rs' + N.2.2.2.2.2.2.slots) (kx : ∀ E h', QX' E h' → xCa g M Q QX rc' rs' h' pc ls E) (kr : ∀ v h', Q' v h' → xW g M Q QX rc' rs' h' (pc + 3) ls (v.toList ++ st)) : xW g M Q QX rc rs h pc ls stk := by
  refine x_runC (N := N) (av := .ref b :: As) (index := index) (n := n) (fun p e s m args below meth c H locs lsA cells slots G C0 hh hl' a1 a2 => ?_) e1 e2 kr kx
  have hW := C0.2.2.2.2.2.2.2.2.1
  exact vx_runV (C := y.cls) (bytes := N.2.1) (maxL := N.2.2.1) (ret := N.2.2.2.1) (ws := [wc]) (rm := N.2.2.2.2.2.2) (Ts := []) (own := M.1) (n := n) ⟨C0.1, C0.2.1, C0.2.2.1, C0.2.2.2.2.2.2.2.1, fun w hw => by cases hw⟩ hM ⟨callB G hW hc, wd G hW hi rfl, wd G hW hs rfl⟩ ⟨blind _, by rw [← hr]; exact recv G hW hh hb hci, pcAt G hW hh⟩ rfl hn (by rw [← C0.2.2.1]; exact hl'.1.trans C0.2.2.1.symm) hstk (lv_room (m := m) (pc := pc) (ls := lsA) (rest := stk) hcat) d ⟨by omega, by omega⟩
/-- a static call of a method with a table -/
theorem x_callSW {y : MethodName} {wc : Cond} {index n rc' rs' : Nat} {As stk : List Value} (d : decode M.2.1 pc = .ok (.invokestatic index, 3)) (hc : callOkW M N y wc index n) (hs : Cond.static y ∈ lw_tbl) (hM : xM g y wc N As h Q' QX') (hn : As.length = n) (hstk : stk = As.reverse ++ st) (hcat : (st.map fun v => v.category).sum ≤ 8)
    (hh0 : M.2.2.2.2.2.1 = []) (e1 : rc = rc' + N.2.2.2.2.2.2.cells) (e2 : rs = rs' + N.2.2.2.2.2.2.slots) (kx : ∀ E h', QX' E h' → QX E h') (kr : ∀ v h', Q' v h' → xW g M Q QX rc' rs' h' (pc + 3) ls (v.toList ++ st)) : xW g M Q QX rc rs h pc ls stk := by
  refine x_run (N := N) (av := As) (index := index) (n := n) (fun p e s m args below meth c H locs lsA cells slots G C0 hh hl' a1 a2 => ?_) hh0 e1 e2 kr kx
  have hW := C0.2.2.2.2.2.2.2.2.1
  obtain ⟨k1, k2, k3, k4, k5, k6, k7, k8⟩ := hc
  have hg : goodWord wc = true := by rw [k1]; rfl
  exact vx_runSX (bytes := N.2.1) (maxL := N.2.2.1) (ret := N.2.2.2.1) (hh := N.2.2.2.2.2.1) (ws := [wc]) (rm := N.2.2.2.2.2.2) (Ts := []) (own := M.1) (n := n) ⟨C0.1, C0.2.1, C0.2.2.1, C0.2.2.2.2.2.2.2.1, fun w hw => by cases hw⟩ hM
    ⟨⟨rfl, rfl, k7, k8, fun w hw a' U hU => by rw [List.mem_singleton.mp hw]; exact word_at hU (good_of_word hg) (wd (args := args) G hW k2 hg), by rw [k1]; exact List.mem_cons_self⟩, by rw [← k1]; exact wd G hW k2 hg, wd G hW k4 rfl, k5, fun sig h9 => by rw [h9] at k6; exact (Option.some.inj k6).symm, wd G hW k3 rfl, wd G hW hs rfl⟩ ⟨blind _, pcAt G hW hh⟩ rfl hn (by rw [← C0.2.2.1]; exact hl'.1.trans C0.2.2.1.symm) hstk (lv_room (m := m) (pc := pc) (ls := lsA) (rest := stk) hcat) d ⟨by omega, by omega⟩
end XH
/-- a kept cell changes -/
theorem cls_up {g : xG} {K : hp} {ad : cA} {S : gS} {h : hp} {x : Nat} {e e' : va_E} (hc : cls g (hset K x e) ad S h) : cls g (hset K x e') ad S (hset h x e') := by
  have hn : ∀ k i, k ≤ 10 → S (50 + k) i = 1 → ad k i ≠ x := fun k i hk hl z => by
    have := (hc.1 k i hk hl).2.1
    rw [z, hset_s] at this; cases this
  refine ⟨fun k i hk hl => ?_, hc.2.1, fun a y ha => ?_, hc.2.2.2⟩
  · have q := hc.1 k i hk hl
    have hx := hn k i hk hl
    rw [hset_n _ _ hx, hset_n _ _ hx]
    rw [hset_n _ _ hx] at q
    exact q
  · by_cases z : a = x
    · subst z
      rw [hset_s] at ha ⊢
      exact ha
    · rw [hset_n _ _ z] at ha ⊢
      exact hc.2.2.1 a y (by rw [hset_n _ _ z]; exact ha)
/-- a wrapper's end -/
def LQ (g : xG) (K : hp) (out : Nat) (ad : cA) (S : gS) (cd vl : Int) (st : gS) (o0 : Nat → Int64) : qP := fun v h9 => v = some (.int (iI cd)) ∧ ∃ ad9 S9 o1, cls g (hset K out (larr g 1 o1)) ad9 S9 h9 ∧ ((cd = 0 ∧ agr S9 st ∧ Ext S9 ∧ o1 0 = (iI vl).toInt64) ∨ (cd ≠ 0 ∧ ad9 = ad ∧ S9 = S ∧ o1 = o0))
/-- a wrapper's end, of an operation without an answer -/
def LQV (g : xG) (K : hp) (ad : cA) (S : gS) (cd : Int) (st : gS) : qP := fun v h9 => v = some (.int (iI cd)) ∧ ∃ ad9 S9, cls g K ad9 S9 h9 ∧ ((cd = 0 ∧ agr S9 st ∧ Ext S9) ∨ (cd ≠ 0 ∧ ad9 = ad ∧ S9 = S))
