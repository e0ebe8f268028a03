/-! a method's contract out of its body; calls; throws -/
section XD
variable {g : xG} {M N : xMeth} {Q Q' : qP} {QX QX' : qE} {rc rs : Nat} {h : hp} {pc : Nat} {ls : List (Option Value)} {st : List Value}
theorem lg_sl1 : ∀ (vs : List Value), (∀ v ∈ vs, v.category = 1) → lg_sl vs = vs.map Slot.val := by
  intro vs
  induction vs with
  | nil => intro _; rfl
  | cons v t ih =>
    intro hv
    have h1 : v.category = 1 := hv v List.mem_cons_self
    have h2 : ¬ v.category = 2 := by omega
    have h3 := ih (fun w hw => hv w (List.mem_cons_of_mem _ hw))
    unfold lg_sl at h3 ⊢
    rw [List.flatMap_cons, h3, if_neg h2]
    rfl
theorem xL.entry {vs : List Value} {nL : Nat} (hv : ∀ v ∈ vs, v.category = 1) (hn : vs.length ≤ nL) : xL ((lg_sl vs ++ List.replicate (nL - (lg_sl vs).length) Slot.unset).toArray) nL (vs.map some ++ List.replicate (nL - vs.length) none) := by
  have e := lg_sl1 vs hv
  obtain ⟨h1, h2, -⟩ := lv_entry vs (n := nL) (by rw [e, List.length_map]; exact hn)
  refine ⟨h1, h2, fun i v hi => ?_⟩
  have hlt : i < vs.length := by
    rcases Nat.lt_or_ge i vs.length with q | q
    · exact q
    · rw [List.getElem?_append_right (by rw [List.length_map]; exact q)] at hi
      have := List.mem_of_getElem? hi
      rw [List.mem_replicate] at this
      cases this.2
  rw [List.getElem?_append_left (by rw [List.length_map]; exact hlt), List.getElem?_map] at hi
  cases hvi : vs[i]? with
  | none => rw [hvi] at hi; cases hi
  | some w =>
    rw [hvi] at hi
    cases hi
    refine ⟨hv _ (List.mem_of_getElem? hvi), ?_⟩
    rw [e, List.getElem?_toArray, List.getElem?_append_left (by rw [List.length_map]; exact hlt), List.getElem?_map, hvi]
    rfl
theorem xM.of {y : MethodName} {wc : Cond} {av : List Value} (hwc : wc = Cond.code y M.2.1 M.2.2.1 M.2.2.2.1) (hy : plainName y.cls = true) (hcl : y.cls = M.1) (hnm : y.name = M.2.2.2.2.1) (hh : M.2.2.2.2.2.1 = []) (hv : ∀ v ∈ av, v.category = 1) (hn : av.length ≤ M.2.2.1) (hls : av.map some ++ List.replicate (M.2.2.1 - av.length) none = ls)
    (body : xW g M Q QX M.2.2.2.2.2.2.cells M.2.2.2.2.2.2.slots h 0 ls []) : xM g y wc M av h Q QX := by
  refine vx_ofW (cc := M.2.1) (maxL := M.2.2.1) (ret := M.2.2.2.1) (ws' := []) hy (by rw [hwc]) ?_
  intro p e s m args below meth c s₁ B hml ht hv0
  obtain ⟨rfl, G, hW, hhp⟩ := hv0
  have hS : va_S (gA g) g.2.1.heap s.heap [] := by
    obtain ⟨ws, hS, -⟩ := hhp
    exact hS
  rw [lg_entry_eq]
  subst hls
  refine body G p e s m _ below meth c s.heap [] _ 0 0 ⟨B.exec, B.bytes, hml, B.returns, ?_, B.notSynchronized, ?_, ?_, hW, hS⟩ hhp (xL.entry hv hn) (by omega) (by omega)
  · exact ((name_of_methodNamed B.named B.method).1).trans hnm
  · rw [hh]
    cases hx : c.exceptionTable.toList with
    | nil => rfl
    | cons z r => exact absurd (ht z (by rw [hx]; exact List.mem_cons_self)) (fun q => q)
  · rw [← hcl]; exact findClass_of_methodNamed B.named
-- the words of a call
def callOk (M N : xMeth) (y : MethodName) (wc : Cond) (index n : Nat) : Prop := wc = Cond.code y N.2.1 N.2.2.1 N.2.2.2.1 ∧ wc ∈ lw_tbl ∧ Cond.methodLink M.1 index y ∈ lw_tbl ∧ Cond.initialized y.cls ∈ lw_tbl ∧ (y.cls ≠ "java/lang/invoke/MethodHandle" ∧ y.cls ≠ "java/lang/invoke/VarHandle") ∧ (parseMethodDescriptor y.desc).map (fun d => d.parameters.length) = some n ∧ N.2.2.2.2.2.2.frames + 1 ≤ M.2.2.2.2.2.2.frames ∧ 8 + (N.2.2.1 + 11) + N.2.2.2.2.2.2.locals ≤ M.2.2.2.2.2.2.locals
theorem callB {y : MethodName} {wc : Cond} {index n : Nat} {s : State} {args : Array Value} (G : gOk g) (hW : g.2.1.WarmedH s.vm) (hc : callOk M N y wc index n) : CallB M.2.2.2.2.2.2 s args M.1 index y N.2.1 N.2.2.1 N.2.2.2.1 [wc] N.2.2.2.2.2.2 N.2.2.2.2.2.2.cells N.2.2.2.2.2.2.slots n := by
  obtain ⟨e1, h1, h2, h3, h4, h5, h6, h7⟩ := hc
  have hg : goodWord wc = true := by rw [e1]; rfl
  refine ⟨rfl, rfl, h6, h7, fun w hw a' U hU => ?_, by rw [e1]; exact List.mem_cons_self, by rw [← e1]; exact wd G hW h1 hg, wd G hW h3 rfl, h4, fun sig h => ?_, wd G hW h2 rfl⟩
  · rw [List.mem_singleton.mp hw]
    exact word_at hU (good_of_word hg) (wd (args := args) G hW h1 hg)
  · rw [h] at h5
    exact (Option.some.inj h5).symm
theorem blind (av : List Value) : FrameBlind (va_Pc av (xPc g h)) := fun a U gf mk q => q
theorem pcAt {av : List Value} {H : Heap} {locs : List Loc} {s : State} (G : gOk g) (hW : g.2.1.WarmedH s.vm) (hh : xHp g h H locs) : ∀ U : State, U.heap = H → s.WarmedH U.vm → va_Pc av (xPc g h) av.toArray U :=
  fun U hU hWU => ⟨rfl, G, State.WarmedH.trans hW hWU, xend hh hU⟩
-- behind a call
theorem xback {H : Heap} {locs L : List Loc} {t T' : State} {h' : hp} (hl : ∀ z ∈ locs, gA g z.base) (hL : ∀ z ∈ L, gA g z.base) (hh : xHp g h' t.heap []) (e : T'.heap = t.heap) : xHp g h' T'.heap (locs ++ L) := by
  obtain ⟨ws, hS, r⟩ := hh
  rw [e]
  exact ⟨ws, ⟨hS.1, hS.2.1, fun z hz => (List.mem_append.mp hz).elim (hl z) (hL z)⟩, r⟩
theorem x_run {index n rc' rs' : Nat} {av : List Value} {stk : List Value}
    (hr : ∀ (p : Program) (e : Env) (s : State) (m : MethodId) (args : Array Value) (below : List Frame) (meth : Method) (c : Code) (H : Heap) (locs : List Loc) (lsA : Array Slot) (cells slots : Nat), gOk g → xC g M p s m meth c → xHp g h H locs → xL lsA M.2.2.1 ls → cells + rc ≤ M.2.2.2.2.2.2.cells → slots + rs ≤ M.2.2.2.2.2.2.slots →
      vx_Run p g.1 e M.2.2.2.2.2.2 s m args below meth c H locs cells slots N.2.2.2.2.2.2.cells N.2.2.2.2.2.2.slots (F0 m pc lsA stk) st (qC g Q' av.toArray) (qX g QX') (gA g))
    (hh0 : M.2.2.2.2.2.1 = []) (e1 : rc = rc' + N.2.2.2.2.2.2.cells) (e2 : rs = rs' + N.2.2.2.2.2.2.slots)
    (kr : ∀ v h', Q' v h' → xW g M Q QX rc' rs' h' (pc + 3) ls (v.toList ++ st)) (kx : ∀ E h', QX' E h' → QX E h') : xW g M Q QX rc rs h pc ls stk := by
  intro G p e s m args below meth c H locs lsA cells slots C0 hh hl' a1 a2
  intro T hT X
  rcases hr p e s m args below meth c H locs lsA cells slots G C0 hh hl' a1 a2 T hT X with ⟨v, st₀, t, T', L, h0, X', hL, q1, q2, ⟨v', h', hv, hq, hhp⟩, stp⟩ | ⟨q, st₀, t, T', L, E, ce, h0, X', hL, q1, q2, ⟨h', hq, hhp⟩, hce, hcv, hcl, stp⟩
  · cases hv
    obtain ⟨t2, b1, b2⟩ := kr v h' hq G p e s m args below meth c T'.heap (locs ++ L) lsA _ _ C0 (xback (H := H) (xlocs hh) hL hhp q1) hl' (by omega) (by omega) T' rfl X'
    exact ⟨t2, stp t2 b1, b2⟩
  · obtain ⟨t2, b1, b2⟩ := vx_out (Qc := qC g Q) (XC := qX g QX) (free := gA g) (mc := M.2.2.2.2.2.2.cells) (ms := M.2.2.2.2.2.2.slots) (pc := pc) (E := E) (H := T'.heap) (ls := lsA) (rest := st) (fun x hx => by rw [C0.2.2.2.2.2.2.1, hh0] at hx; cases hx) C0.2.2.2.2.2.1 (by rw [q1]; exact hce) hcv hcl
      (fun t9 e9 _ => ⟨h', kx E h' hq, xend (xback (H := H) (T' := T') (locs := locs) (L := L) (xlocs hh) hL hhp q1) e9⟩) (fun z hz => (List.mem_append.mp hz).elim (xlocs hh z) (hL z)) (by omega) (by omega) T' rfl X'
    exact ⟨t2, stp.trans b1, b2⟩
theorem x_callV {y : MethodName} {wc : Cond} {index n rc' rs' b ci : Nat} {As stk : List Value} {fs : List Value} {r : vw_C} (d : decode M.2.1 pc = .ok (.invokevirtual index, 3)) (hc : callOk M N y wc index n) (hi : Cond.instanceMethod y ∈ lw_tbl) (hs : Cond.selects y.cls y y ∈ lw_tbl) (hM : xM g y wc N (.ref b :: As) h Q' QX') (hb : h b = some (.inr (ci, fs))) (hci : vwCl[ci]? = some r) (hr : r.1 = y.cls) (hn : As.length = n) (hstk : stk = As.reverse ++ .ref b :: st) (hcat : (st.map fun v => v.category).sum ≤ 8)
    (hh0 : M.2.2.2.2.2.1 = []) (e1 : rc = rc' + N.2.2.2.2.2.2.cells) (e2 : rs = rs' + N.2.2.2.2.2.2.slots) (kx : ∀ E h', QX' E h' → QX E h') (kr : ∀ v h', Q' v h' → xW g M Q QX rc' rs' h' (pc + 3) ls (v.toList ++ st)) : xW g M Q QX rc rs h pc ls stk := by
  refine x_run (N := N) (av := .ref b :: As) (index := index) (n := n) (fun p e s m args below meth c H locs lsA cells slots G C0 hh hl' a1 a2 => ?_) hh0 e1 e2 kr kx
  have hW := C0.2.2.2.2.2.2.2.2.1
  exact vx_runV (C := y.cls) (bytes := N.2.1) (maxL := N.2.2.1) (ret := N.2.2.2.1) (ws := [wc]) (rm := N.2.2.2.2.2.2) (Ts := []) (own := M.1) (n := n) ⟨C0.1, C0.2.1, C0.2.2.1, C0.2.2.2.2.2.2.2.1, fun w hw => by cases hw⟩ hM ⟨callB G hW hc, wd G hW hi rfl, wd G hW hs rfl⟩ ⟨blind _, by rw [← hr]; exact recv G hW hh hb hci, pcAt G hW hh⟩ rfl hn (by rw [← C0.2.2.1]; exact hl'.1.trans C0.2.2.1.symm) hstk (lv_room (m := m) (pc := pc) (ls := lsA) (rest := stk) hcat) d ⟨by omega, by omega⟩
theorem x_callS {y : MethodName} {wc : Cond} {index n rc' rs' : Nat} {As stk : List Value} (d : decode M.2.1 pc = .ok (.invokestatic index, 3)) (hc : callOk M N y wc index n) (hs : Cond.static y ∈ lw_tbl) (hM : xM g y wc N As h Q' QX') (hn : As.length = n) (hstk : stk = As.reverse ++ st) (hcat : (st.map fun v => v.category).sum ≤ 8)
    (hh0 : M.2.2.2.2.2.1 = []) (e1 : rc = rc' + N.2.2.2.2.2.2.cells) (e2 : rs = rs' + N.2.2.2.2.2.2.slots) (kx : ∀ E h', QX' E h' → QX E h') (kr : ∀ v h', Q' v h' → xW g M Q QX rc' rs' h' (pc + 3) ls (v.toList ++ st)) : xW g M Q QX rc rs h pc ls stk := by
  refine x_run (N := N) (av := As) (index := index) (n := n) (fun p e s m args below meth c H locs lsA cells slots G C0 hh hl' a1 a2 => ?_) hh0 e1 e2 kr kx
  have hW := C0.2.2.2.2.2.2.2.2.1
  exact vx_runS (bytes := N.2.1) (maxL := N.2.2.1) (ret := N.2.2.2.1) (ws := [wc]) (rm := N.2.2.2.2.2.2) (Ts := []) (own := M.1) (n := n) ⟨C0.1, C0.2.1, C0.2.2.1, C0.2.2.2.2.2.2.2.1, fun w hw => by cases hw⟩ hM ⟨callB G hW hc, wd G hW hs rfl⟩ ⟨blind _, pcAt G hW hh⟩ rfl hn (by rw [← C0.2.2.1]; exact hl'.1.trans C0.2.2.1.symm) hstk (lv_room (m := m) (pc := pc) (ls := lsA) (rest := stk) hcat) d ⟨by omega, by omega⟩
theorem x_callI {y : MethodName} {wc : Cond} {index n rc' rs' b : Nat} {As stk : List Value} (d : decode M.2.1 pc = .ok (.invokespecial index, 3)) (hret : N.2.2.2.1 = none) (hc : callOk M N y wc index n) (hi : Cond.instanceMethod y ∈ lw_tbl) (hy : y.name = "<init>") (hM : xM g y wc N (.ref b :: As) h Q' QX') (hn : As.length = n) (hstk : stk = As.reverse ++ .ref b :: st) (hcat : (st.map fun v => v.category).sum ≤ 8)
    (hh0 : M.2.2.2.2.2.1 = []) (e1 : rc = rc' + N.2.2.2.2.2.2.cells) (e2 : rs = rs' + N.2.2.2.2.2.2.slots) (kx : ∀ E h', QX' E h' → QX E h') (kr : ∀ v h', Q' v h' → xW g M Q QX rc' rs' h' (pc + 3) ls (v.toList ++ st)) : xW g M Q QX rc rs h pc ls stk := by
  refine x_run (N := N) (av := .ref b :: As) (index := index) (n := n) (fun p e s m args below meth c H locs lsA cells slots G C0 hh hl' a1 a2 => ?_) hh0 e1 e2 kr kx
  have hW := C0.2.2.2.2.2.2.2.2.1
  have hB := callB (args := args) G hW hc
  rw [hret] at hB
  exact vx_runI (bytes := N.2.1) (maxL := N.2.2.1) (ws := [wc]) (rm := N.2.2.2.2.2.2) (Ts := []) (own := M.1) (n := n) ⟨C0.1, C0.2.1, C0.2.2.1, C0.2.2.2.2.2.2.2.1, fun w hw => by cases hw⟩ hM ⟨hB, hy, wd G hW hi rfl⟩ ⟨blind _, pcAt G hW hh⟩ rfl hn (by rw [← C0.2.2.1]; exact hl'.1.trans C0.2.2.1.symm) hstk (lv_room (m := m) (pc := pc) (ls := lsA) (rest := stk) hcat) d ⟨by omega, by omega⟩
-- throws
def wOk (w : Cond) : Bool := match w with
  | .castable _ _ => true
  | .declares _ => true
  | w => goodWord w
theorem wdO {w : Cond} {s : State} {args : Array Value} (G : gOk g) (hW : g.2.1.WarmedH s.vm) (hm : w ∈ lw_tbl) (hg : wOk w = true) : w.before args s = true := by
  cases w with
  | castable a b => exact va_Nw.use rfl (castW G hW hm)
  | declares a => exact va_Nw.use rfl (va_Nw.warmD hW (va_Nw.of rfl (G.2.1 _ hm)))
  | _ => exact wd G hW hm hg
theorem vS_at {s : State} {H : Heap} {locs : List Loc} (h1 : va_S (gA g) g.2.1.heap s.heap []) (h2 : va_S (gA g) g.2.1.heap H locs) (hz : s.heap.size ≤ H.size) : va_S (gA g) s.heap H locs := by
  refine ⟨hz, fun q hq hA => ?_, h2.2.2⟩
  have hlt : q < g.2.1.heap.size := Nat.not_le.mp hA
  rw [h2.2.1 q hlt hA, h1.2.1 q hlt hA]
theorem xkept {H : Heap} {locs : List Loc} {t : State} (hh : xHp g h H locs) (hz : H.size ≤ t.heap.size) (hk : ∀ q : Nat, q < H.size → t.heap[q]? = H[q]?) : xHp g h t.heap [] := by
  obtain ⟨ws, hS, hP, hD, hV⟩ := hh
  exact ⟨ws, ⟨Nat.le_trans hS.1 hz, fun q h1 h2 => (hk q (Nat.lt_of_lt_of_le h1 hS.1)).trans (hS.2.1 q h1 h2), fun l hl => by cases hl⟩, hP.kept (fun k x hx => hk x.1 ((hP k x hx).lt)), hD, hV⟩
def excNames : List String := ["java/lang/RuntimeException", "java/lang/Exception"]
theorem excFit : ∀ n ∈ excNames, Bundle.fit n = true := by decide +kernel
theorem x_throw {cls text : String} {ik is ic : Nat} (hcls : Bundle.fit cls = true) (hk : Cond.classLink M.1 ik cls ∈ lw_tbl) (hini : Cond.initialized cls ∈ lw_tbl) (hstr : Cond.stringRef M.1 is text ∈ lw_tbl) (hat : ∀ w ∈ vx_atS M.1 ic cls excNames, w ∈ lw_tbl ∧ wOk w = true) (hgood : ∀ w ∈ Cond.classLink M.1 ik cls :: Cond.initialized cls :: vx_atS M.1 ic cls excNames, vx_ot w = true)
    (d0 : decode M.2.1 pc = .ok (.new ik, 3)) (d3 : decode M.2.1 (pc + 3) = .ok (.dup, 1)) (d4 : decode M.2.1 (pc + 4) = .ok (.ldc is, 2)) (d6 : decode M.2.1 (pc + 6) = .ok (.invokespecial ic, 3)) (d9 : decode M.2.1 (pc + 9) = .ok (.athrow, 1))
    (hh0 : M.2.2.2.2.2.1 = []) (hf : 5 < M.2.2.2.2.2.2.frames) (hlo : (st.map fun v => v.category).sum + 82 ≤ M.2.2.2.2.2.2.locals) (h1 : 1 ≤ rc) (h2 : 6 ≤ rs) (hq : QX cls h) : xW g M Q QX rc rs h pc ls st := by
  intro G p e s m args below meth c H locs lsA cells slots C0 hh hl' a1 a2
  have hW := C0.2.2.2.2.2.2.2.2.1
  have hS0 := C0.2.2.2.2.2.2.2.2.2
  obtain ⟨sa, hsa⟩ := G.2.2.2.2.2 M.1 is text hstr
  intro T hT X
  have hz : s.heap.size ≤ H.size := by
    have := (vx_frame (U := T) X.same).1
    rw [hT] at this
    exact this
  have hS : va_S (gA g) g.2.1.heap H locs := by
    obtain ⟨ws, hS, -⟩ := hh
    exact hS
  exact vx_throwS (text := text) C0.1 C0.2.1 G.1 C0.2.2.2.2.2.2.2.1 hcls excFit (wd G hW hk rfl) (wd G hW hini rfl) (vk_R.warm hW hsa) (fun w hw => wdO G hW (hat w hw).1 (hat w hw).2) hgood
    ((G.2.2.2.1.moved hW.alike).kept (fun a b1 b2 => hS0.2.1 a b1 b2)) ((G.2.2.2.2.1.moved hW.alike).kept (fun a b1 b2 => hS0.2.1 a b1 b2)) (vS_at hS0 hS hz) (by rw [C0.2.2.1]; exact hl'.1) d0 d3 d4 d6 d9 (fun x hx => by rw [C0.2.2.2.2.2.2.1, hh0] at hx; cases hx) hf hlo (by omega) (by omega) C0.2.2.2.2.2.1
    (fun t _ z1 z2 => ⟨h, hq, xkept hh z1 z2⟩) (xlocs hh) (by omega) (by omega) T hT X
theorem x_throwW {cls text : String} {ik is ic : Nat} (hcls : Bundle.fit cls = true) (hk : Cond.classLink M.1 ik cls ∈ lw_tbl) (hini : Cond.initialized cls ∈ lw_tbl) (hstr : Cond.stringRef M.1 is text ∈ lw_tbl) (hat : ∀ w ∈ vx_atS M.1 ic cls excNames, w ∈ lw_tbl ∧ wOk w = true) (hgood : ∀ w ∈ Cond.classLink M.1 ik cls :: Cond.initialized cls :: vx_atS M.1 ic cls excNames, vx_ot w = true)
    (d0 : decode M.2.1 pc = .ok (.new ik, 3)) (d3 : decode M.2.1 (pc + 3) = .ok (.dup, 1)) (d4 : decode M.2.1 (pc + 4) = .ok (.ldc_w is, 3)) (d7 : decode M.2.1 (pc + 7) = .ok (.invokespecial ic, 3)) (d10 : decode M.2.1 (pc + 10) = .ok (.athrow, 1))
    (hh0 : M.2.2.2.2.2.1 = []) (hf : 5 < M.2.2.2.2.2.2.frames) (hlo : (st.map fun v => v.category).sum + 82 ≤ M.2.2.2.2.2.2.locals) (h1 : 1 ≤ rc) (h2 : 6 ≤ rs) (hq : QX cls h) : xW g M Q QX rc rs h pc ls st := by
  intro G p e s m args below meth c H locs lsA cells slots C0 hh hl' a1 a2
  have hW := C0.2.2.2.2.2.2.2.2.1
  have hS0 := C0.2.2.2.2.2.2.2.2.2
  obtain ⟨sa, hsa⟩ := G.2.2.2.2.2 M.1 is text hstr
  intro T hT X
  have hz : s.heap.size ≤ H.size := by
    have := (vx_frame (U := T) X.same).1
    rw [hT] at this
    exact this
  have hS : va_S (gA g) g.2.1.heap H locs := by
    obtain ⟨ws, hS, -⟩ := hh
    exact hS
  exact vx_throwSW (text := text) C0.1 C0.2.1 G.1 C0.2.2.2.2.2.2.2.1 hcls excFit (wd G hW hk rfl) (wd G hW hini rfl) (vk_R.warm hW hsa) (fun w hw => wdO G hW (hat w hw).1 (hat w hw).2) hgood
    ((G.2.2.2.1.moved hW.alike).kept (fun a b1 b2 => hS0.2.1 a b1 b2)) ((G.2.2.2.2.1.moved hW.alike).kept (fun a b1 b2 => hS0.2.1 a b1 b2)) (vS_at hS0 hS hz) (by rw [C0.2.2.1]; exact hl'.1) d0 d3 d4 d7 d10 (fun x hx => by rw [C0.2.2.2.2.2.2.1, hh0] at hx; cases hx) hf hlo (by omega) (by omega) C0.2.2.2.2.2.1
    (fun t _ z1 z2 => ⟨h, hq, xkept hh z1 z2⟩) (xlocs hh) (by omega) (by omega) T hT X
end XD
