/-! calls of the law's own method: nothing is thrown; the script; draw; the loop; the start -/
section XN
variable {g : xG} {M N : xMeth} {Q Q' : qP} {QX QX' : qE} {rc rs : Nat} {h : hp} {pc : Nat} {ls : List (Option Value)} {st : List Value}
theorem xW.post {Q2 : qP} (k : xW g M Q QX rc rs h pc ls st) (hq : ∀ v h', Q v h' → Q2 v h') : xW g M Q2 QX rc rs h pc ls st := by
  intro G p e s m args below meth c H locs lsA cells slots C0 hh hl' a1 a2 T hT X
  obtain ⟨t, a, o, h1, h2, h3⟩ := k G p e s m args below meth c H locs lsA cells slots C0 hh hl' a1 a2 T hT X
  refine ⟨t, a, o, h1, h2, ?_⟩
  rcases h3 with ⟨⟨v, h', e1, e2, e3⟩, z⟩ | z
  · exact Or.inl ⟨⟨v, h', e1, hq _ _ e2, e3⟩, z⟩
  · exact Or.inr z
theorem x_runN {index n rc' rs' : Nat} {av : List Value} {stk : List Value}
    (hr : ∀ (p : Program) (e : Env) (s : State) (m : MethodId) (args : Array Value) (below : List Frame) (meth : Method) (c : Code) (H : Heap) (locs : List Loc) (lsA : Array Slot) (cells slots : Nat), gOk g → xC g M p s m meth c → xHp g h H locs → xL lsA M.2.2.1 ls → cells + rc ≤ M.2.2.2.2.2.2.cells → slots + rs ≤ M.2.2.2.2.2.2.slots →
      vx_Run p g.1 e M.2.2.2.2.2.2 s m args below meth c H locs cells slots N.2.2.2.2.2.2.cells N.2.2.2.2.2.2.slots (F0 m pc lsA stk) st (qC g Q' av.toArray) (qX g QX') (gA g))
    (e1 : rc = rc' + N.2.2.2.2.2.2.cells) (e2 : rs = rs' + N.2.2.2.2.2.2.slots)
    (kr : ∀ v h', Q' v h' → xW g M Q QX rc' rs' h' (pc + 3) ls (v.toList ++ st)) (kx : ∀ E h', QX' E h' → False) : xW g M Q QX rc rs h pc ls stk := by
  intro G p e s m args below meth c H locs lsA cells slots C0 hh hl' a1 a2
  intro T hT X
  have hW := C0.2.2.2.2.2.2.2.2.1
  rcases hr p e s m args below meth c H locs lsA cells slots G C0 hh hl' a1 a2 T hT X with ⟨v, st₀, t, T', L, h0, X', hL, q1, q2, ⟨v', h', hv, hq, hhp⟩, stp⟩ | ⟨q, st₀, t, T', L, E, ce, h0, X', hL, q1, q2, ⟨h', hq, hhp⟩, hce, hcv, hcl, stp⟩
  · cases hv
    obtain ⟨t2, b1, b2⟩ := kr v h' hq G p e s m args below meth c T'.heap (locs ++ L) lsA _ _ C0 (xback (H := H) (xlocs hh) hL hhp q1) hl' (by omega) (by omega) T' rfl X'
    exact ⟨t2, stp t2 b1, b2⟩
  · exact (kx E h' hq).elim
theorem x_callVN {y : MethodName} {wc : Cond} {index n rc' rs' b ci : Nat} {As stk : List Value} {fs : List Value} {r : vw_C} (d : decode M.2.1 pc = .ok (.invokevirtual index, 3)) (hc : callOk M N y wc index n) (hi : Cond.instanceMethod y ∈ lw_tbl) (hs : Cond.selects y.cls y y ∈ lw_tbl) (hM : xM g y wc N (.ref b :: As) h Q' QX') (hb : h b = some (.inr (ci, fs))) (hci : vwCl[ci]? = some r) (hr : r.1 = y.cls) (hn : As.length = n) (hstk : stk = As.reverse ++ .ref b :: st) (hcat : (st.map fun v => v.category).sum ≤ 8)
    (e1 : rc = rc' + N.2.2.2.2.2.2.cells) (e2 : rs = rs' + N.2.2.2.2.2.2.slots) (kx : ∀ E h', QX' E h' → False) (kr : ∀ v h', Q' v h' → xW g M Q QX rc' rs' h' (pc + 3) ls (v.toList ++ st)) : xW g M Q QX rc rs h pc ls stk := by
  refine x_runN (N := N) (av := .ref b :: As) (index := index) (n := n) (fun p e s m args below meth c H locs lsA cells slots G C0 hh hl' a1 a2 => ?_) e1 e2 kr kx
  have hW := C0.2.2.2.2.2.2.2.2.1
  exact vx_runV (C := y.cls) (bytes := N.2.1) (maxL := N.2.2.1) (ret := N.2.2.2.1) (ws := [wc]) (rm := N.2.2.2.2.2.2) (Ts := []) (own := M.1) (n := n) ⟨C0.1, C0.2.1, C0.2.2.1, C0.2.2.2.2.2.2.2.1, fun w hw => by cases hw⟩ hM ⟨callB G hW hc, wd G hW hi rfl, wd G hW hs rfl⟩ ⟨blind _, by rw [← hr]; exact recv G hW hh hb hci, pcAt G hW hh⟩ rfl hn (by rw [← C0.2.2.1]; exact hl'.1.trans C0.2.2.1.symm) hstk (lv_room (m := m) (pc := pc) (ls := lsA) (rest := stk) hcat) d ⟨by omega, by omega⟩
theorem x_callSN {y : MethodName} {wc : Cond} {index n rc' rs' : Nat} {As stk : List Value} (d : decode M.2.1 pc = .ok (.invokestatic index, 3)) (hc : callOk M N y wc index n) (hs : Cond.static y ∈ lw_tbl) (hM : xM g y wc N As h Q' QX') (hn : As.length = n) (hstk : stk = As.reverse ++ st) (hcat : (st.map fun v => v.category).sum ≤ 8)
    (e1 : rc = rc' + N.2.2.2.2.2.2.cells) (e2 : rs = rs' + N.2.2.2.2.2.2.slots) (kx : ∀ E h', QX' E h' → False) (kr : ∀ v h', Q' v h' → xW g M Q QX rc' rs' h' (pc + 3) ls (v.toList ++ st)) : xW g M Q QX rc rs h pc ls stk := by
  refine x_runN (N := N) (av := As) (index := index) (n := n) (fun p e s m args below meth c H locs lsA cells slots G C0 hh hl' a1 a2 => ?_) e1 e2 kr kx
  have hW := C0.2.2.2.2.2.2.2.2.1
  exact vx_runS (bytes := N.2.1) (maxL := N.2.2.1) (ret := N.2.2.2.1) (ws := [wc]) (rm := N.2.2.2.2.2.2) (Ts := []) (own := M.1) (n := n) ⟨C0.1, C0.2.1, C0.2.2.1, C0.2.2.2.2.2.2.2.1, fun w hw => by cases hw⟩ hM ⟨callB G hW hc, wd G hW hs rfl⟩ ⟨blind _, pcAt G hW hh⟩ rfl hn (by rw [← C0.2.2.1]; exact hl'.1.trans C0.2.2.1.symm) hstk (lv_room (m := m) (pc := pc) (ls := lsA) (rest := stk) hcat) d ⟨by omega, by omega⟩
theorem x_callIN {y : MethodName} {wc : Cond} {index n rc' rs' b : Nat} {As stk : List Value} (d : decode M.2.1 pc = .ok (.invokespecial index, 3)) (hret : N.2.2.2.1 = none) (hc : callOk M N y wc index n) (hi : Cond.instanceMethod y ∈ lw_tbl) (hy : y.name = "<init>") (hM : xM g y wc N (.ref b :: As) h Q' QX') (hn : As.length = n) (hstk : stk = As.reverse ++ .ref b :: st) (hcat : (st.map fun v => v.category).sum ≤ 8)
    (e1 : rc = rc' + N.2.2.2.2.2.2.cells) (e2 : rs = rs' + N.2.2.2.2.2.2.slots) (kx : ∀ E h', QX' E h' → False) (kr : ∀ v h', Q' v h' → xW g M Q QX rc' rs' h' (pc + 3) ls (v.toList ++ st)) : xW g M Q QX rc rs h pc ls stk := by
  refine x_runN (N := N) (av := .ref b :: As) (index := index) (n := n) (fun p e s m args below meth c H locs lsA cells slots G C0 hh hl' a1 a2 => ?_) e1 e2 kr kx
  have hW := C0.2.2.2.2.2.2.2.2.1
  have hB := callB (args := args) G hW hc
  rw [hret] at hB
  exact vx_runI (bytes := N.2.1) (maxL := N.2.2.1) (ws := [wc]) (rm := N.2.2.2.2.2.2) (Ts := []) (own := M.1) (n := n) ⟨C0.1, C0.2.1, C0.2.2.1, C0.2.2.2.2.2.2.2.1, fun w hw => by cases hw⟩ hM ⟨hB, hy, wd G hW hi rfl⟩ ⟨blind _, pcAt G hW hh⟩ rfl hn (by rw [← C0.2.2.1]; exact hl'.1.trans C0.2.2.1.symm) hstk (lv_room (m := m) (pc := pc) (ls := lsA) (rest := stk) hcat) d ⟨by omega, by omega⟩
/-- the script's cell -/
theorem x_sld {b L : Nat} {xs : Nat → Int32} {i : Int} (hX : va_X b L xs g.2.1 g.2.1.heap) (hb : b < g.2.1.heap.size) (hL : L ≤ 260) (h0 : 0 ≤ i) (h1 : i < L) (d : decode M.2.1 pc = .ok (.iaload, 1)) (kk : xW g M Q QX rc rs h (pc + 1) ls (.int (xs i.toNat) :: st)) : xW g M Q QX rc rs h pc ls (.int (iI i) :: .ref b :: st) := by
  intro G p e s m args below meth c H locs lsA cells slots C0 hh hl' a1 a2
  obtain ⟨ws, hS, hP, hD, hV⟩ := id hh
  have hW := C0.2.2.2.2.2.2.2.2.1
  refine va_sld C0.1 C0.2.1 (hX.moved hW.alike) hb (by show ¬ g.2.1.heap.size ≤ b; omega) hS (iI_in (by omega) h0 h1) d ?_
  rw [iI_cl ⟨by omega, by omega⟩]
  exact kk G p e s m args below meth c H locs lsA cells slots C0 hh hl' a1 a2
theorem x_slen {b L : Nat} {xs : Nat → Int32} (hX : va_X b L xs g.2.1 g.2.1.heap) (hb : b < g.2.1.heap.size) (d : decode M.2.1 pc = .ok (.arraylength, 1)) (kk : xW g M Q QX rc rs h (pc + 1) ls (.int (iI (L : Int)) :: st)) : xW g M Q QX rc rs h pc ls (.ref b :: st) := by
  intro G p e s m args below meth c H locs lsA cells slots C0 hh hl' a1 a2
  obtain ⟨ws, hS, hP, hD, hV⟩ := id hh
  have hW := C0.2.2.2.2.2.2.2.2.1
  exact va_slen C0.1 C0.2.1 (hX.moved hW.alike) hb (by show ¬ g.2.1.heap.size ≤ b; omega) hS d (kk G p e s m args below meth c H locs lsA cells slots C0 hh hl' a1 a2)
end XN
section LN
variable {g : xG} {M N : xMeth} {t u : Nat} {Q Q' : qL} {rc rs : Nat} {ad : cA} {S : gS} {ft fu : Int → Int} {pc : Nat} {ls : List (Option Value)} {st : List Value}
theorem l_callHN {y : MethodName} {wc : Cond} {index n rc' rs' : Nat} {As stk : List Value} {Qh : qK} {QX : qKE} (d : decode M.2.1 pc = .ok (.invokevirtual index, 3)) (hc : callOk M N y wc index n) (hi : Cond.instanceMethod y ∈ lw_tbl) (hs : Cond.selects y.cls y y ∈ lw_tbl) (hM : cM g y wc N (KL g t u ft fu) (.ref (ad 0 0) :: As) ad S Qh QX) (hx : ∀ E ad9 S9, ¬ QX E ad9 S9) (h0 : S 50 0 = 1) (hy : RX6 = y.cls) (hn : As.length = n) (hstk : stk = As.reverse ++ .ref (g.2.2.2.2 5) :: st) (hcat : (st.map fun v => v.category).sum ≤ 8)
    (e1 : rc = rc' + N.2.2.2.2.2.2.cells) (e2 : rs = rs' + N.2.2.2.2.2.2.slots) (kr : ∀ v ad9 S9, Qh v ad9 S9 → lW g M t u Q rc' rs' ad9 S9 ft fu (pc + 3) ls (v.toList ++ st)) : lW g M t u Q rc rs ad S ft fu pc ls stk := by
  intro hn9 h hc0
  exact x_callVN (r := (RX6, TX6, 7)) d hc hi hs (hM h hc0) (hc0.at 0 (by decide) h0) rfl hy hn (by rw [hc0.2.2.2.2.2]; exact hstk) hcat e1 e2 (fun E h' ⟨ad', S', q1, q2⟩ => hx E ad' S' q1) (fun v h' ⟨ad', S', q1, q2⟩ => kr v ad' S' q1 hn9 h' q2)
theorem l_callLN {y : MethodName} {wc : Cond} {index n rc' rs' : Nat} {As stk : List Value} (d : decode M.2.1 pc = .ok (.invokestatic index, 3)) (hc : callOk M N y wc index n) (hs : Cond.static y ∈ lw_tbl) (hM : lM g y wc N t u As ad S ft fu Q') (hn : As.length = n) (hstk : stk = As.reverse ++ st) (hcat : (st.map fun v => v.category).sum ≤ 8)
    (e1 : rc = rc' + N.2.2.2.2.2.2.cells) (e2 : rs = rs' + N.2.2.2.2.2.2.slots) (kr : ∀ v ad9 S9 ft9 fu9, Q' v ad9 S9 ft9 fu9 → lW g M t u Q rc' rs' ad9 S9 ft9 fu9 (pc + 3) ls (v.toList ++ st)) : lW g M t u Q rc rs ad S ft fu pc ls stk := by
  intro hn9 h hc0
  exact x_callSN d hc hs (hM hn9 h hc0) hn hstk hcat e1 e2 (fun E h' z => z) (fun v h' ⟨ad', S', ft', fu', q1, q2⟩ => kr v ad' S' ft' fu' q1 hn9 h' q2)
theorem l_sld {b L : Nat} {xs : Nat → Int32} {i : Int} (hX : va_X b L xs g.2.1 g.2.1.heap) (hb : b < g.2.1.heap.size) (hL : L ≤ 260) (h0 : 0 ≤ i) (h1 : i < L) (d : decode M.2.1 pc = .ok (.iaload, 1)) (kk : lW g M t u Q rc rs ad S ft fu (pc + 1) ls (.int (xs i.toNat) :: st)) : lW g M t u Q rc rs ad S ft fu pc ls (.int (iI i) :: .ref b :: st) := fun hn h hc => x_sld hX hb hL h0 h1 d (kk hn h hc)
theorem l_slen {b L : Nat} {xs : Nat → Int32} (hX : va_X b L xs g.2.1 g.2.1.heap) (hb : b < g.2.1.heap.size) (d : decode M.2.1 pc = .ok (.arraylength, 1)) (kk : lW g M t u Q rc rs ad S ft fu (pc + 1) ls (.int (iI (L : Int)) :: st)) : lW g M t u Q rc rs ad S ft fu pc ls (.ref b :: st) := fun hn h hc => x_slen hX hb d (kk hn h hc)
theorem l_ldcI {index : Nat} {v : Int32} (d : decode M.2.1 pc = .ok (.ldc index, 2)) (hl : Cond.constant M.1 index v ∈ lw_tbl) (kk : lW g M t u Q rc rs ad S ft fu (pc + 2) ls (.int v :: st)) : lW g M t u Q rc rs ad S ft fu pc ls st := fun hn h hc => x_ldcI d hl (kk hn h hc)
end LN
theorem and31 (x : Int32) : 0 ≤ (x &&& 2147483647).toInt := by
  show 0 ≤ (x.toBitVec &&& (2147483647 : Int32).toBitVec).toInt
  rw [BitVec.toInt_eq_msb_cond, BitVec.msb_and, show (2147483647 : Int32).toBitVec.msb = false from by decide, Bool.and_false, if_neg (by decide)]
  exact Int.natCast_nonneg _
/-- an int of the script, without its sign -/
def qDraw (S : gS) (ad : cA) (ft fu : Int → Int) : qL := fun v ad9 S9 ft9 fu9 => ad = ad9 ∧ S = S9 ∧ ft = ft9 ∧ fu = fu9 ∧ ∃ z : Int, (0 ≤ z ∧ z < 2147483648) ∧ v = some (.int (iI z))
theorem t_L_draw {g : xG} {t u : Nat} {ad : cA} {S : gS} {ft fu : Int → Int} {b L : Nat} {xs : Nat → Int32} {k : Int} (hX : va_X b L xs g.2.1 g.2.1.heap) (hb : b < g.2.1.heap.size) (hL : L ≤ 260) (k0 : 0 ≤ k) (k1 : k < L) : lM g y_L_draw k_L_draw M_L_draw t u [.ref b, .int (iI k)] ad S ft fu (qDraw S ad ft fu) := by
  refine lM.of rfl (by decide) rfl rfl rfl (by simp [Value.category]) (Nat.le_of_ble_eq_true rfl) rfl ?_
  refine l_iload_n d_L_draw_0 rfl ?_
  refine l_aload_n d_L_draw_1 rfl ?_
  refine l_slen hX hb d_L_draw_2 ?_
  refine l_icmp_ge (tgt := 15) d_L_draw_3 (by decide) (by unfold R32; omega) (by unfold R32; omega) (fun z => by exfalso; omega) (fun _ => ?_)
  refine l_aload_n d_L_draw_6 rfl ?_
  refine l_iload_n d_L_draw_7 rfl ?_
  refine l_sld hX hb hL k0 k1 d_L_draw_8 ?_
  refine l_ldcI d_L_draw_9 wl346 ?_
  refine l_iand d_L_draw_11 rfl ?_
  refine l_goto (tgt := 24) d_L_draw_12 (by decide) ?_
  refine l_iret rfl d_L_draw_24 ⟨rfl, rfl, rfl, rfl, (xs k.toNat &&& 2147483647).toInt, ⟨and31 _, Int32.toInt_lt _⟩, ?_⟩
  rw [show iI (xs k.toNat &&& 2147483647).toInt = xs k.toNat &&& 2147483647 from Int32.ofInt_toInt _]
def qLaw : qL := fun v _ _ _ _ => v = some (.int 1)
def lawQ : qP := fun v _ => v = some (.int 1)
theorem W_law {g : xG} {t u b L : Nat} {xs : Nat → Int32} {nm : String} {hh : List (Nat × Nat × Nat × Nat)} {sv : Int} (hX : va_X b L xs g.2.1 g.2.1.heap) (hb : b < g.2.1.heap.size) (hLL : L ≤ 260) (hs0 : 0 ≤ sv) (hs1 : sv ≤ 60) (hs3 : 3 * sv ≤ L) : ∀ (n k : Nat) {ad : cA} {S : gS} {ft fu : Int → Int}, LI S ft fu → Ext S → (k : Int) + n = sv → lW g (M_law nm hh) t u qLaw (4369 * n) (32592 * n) ad S ft fu 96 [some (.ref b), some (.ref (g.2.2.2.2 5)), some (.ref t), some (.ref u), some (.int (iI 1)), some (.int (iI sv)), some (.int (iI (k : Int)))] [] := by
  intro n
  induction n with
  | zero =>
    intro k ad S ft fu hL hE hk
    refine l_iload d_law_96 rfl ?_
    refine l_iload d_law_98 rfl ?_
    refine l_icmp_ge (tgt := 174) d_law_100 (by decide) (by unfold R32; omega) (by unfold R32; omega) (fun z100 => ?_) (fun z100 => by exfalso; omega)
    refine l_iload d_law_174 rfl ?_
    exact l_zret rfl (Or.inr rfl) d_law_176 (rfl)
  | succ n ih =>
    intro k ad S ft fu hL hE hk
    refine l_iload d_law_96 rfl ?_
    refine l_iload d_law_98 rfl ?_
    refine l_icmp_ge (tgt := 174) d_law_100 (by decide) (by unfold R32; omega) (by unfold R32; omega) (fun z100 => by exfalso; omega) (fun z100 => ?_)
    refine l_iload d_law_103 rfl ?_
    refine l_if_eq (tgt := 174) d_law_105 (by decide) (by unfold R32; omega) (fun z105 => by exfalso; omega) (fun z105 => ?_)
    refine l_aload_n d_law_108 rfl ?_
    refine l_aload_n d_law_109 rfl ?_
    refine l_aload_n d_law_110 rfl ?_
    refine l_aload_n d_law_111 rfl ?_
    refine l_iconst d_law_112 ?_
    refine l_iload d_law_113 rfl ?_
    refine l_imul d_law_115 ?_
    refine l_callLN (rc' := 4369 * (n + 1)) (rs' := 32592 * (n + 1)) d_law_116 (q_law_180 nm hh) s_L_draw (t_L_draw (k := 3 * (k : Int)) hX hb hLL (by omega) (by omega)) rfl rfl (Nat.le_of_ble_eq_true rfl) (show 4369 * (n + 1) = 4369 * (n + 1) + 0 from (Nat.add_zero _).symm) (show 32592 * (n + 1) = 32592 * (n + 1) + 0 from (Nat.add_zero _).symm) ?_
    rintro _ _ _ _ _ ⟨rfl, rfl, rfl, rfl, z1, hz1, rfl⟩
    refine l_aload_n d_law_119 rfl ?_
    refine l_iconst d_law_120 ?_
    refine l_iload d_law_121 rfl ?_
    refine l_imul d_law_123 ?_
    refine l_iconst d_law_124 ?_
    refine l_iadd d_law_125 ?_
    refine l_callLN (rc' := 4369 * (n + 1)) (rs' := 32592 * (n + 1)) d_law_126 (q_law_180 nm hh) s_L_draw (t_L_draw (k := 3 * (k : Int) + 1) hX hb hLL (by omega) (by omega)) rfl rfl (Nat.le_of_ble_eq_true rfl) (show 4369 * (n + 1) = 4369 * (n + 1) + 0 from (Nat.add_zero _).symm) (show 32592 * (n + 1) = 32592 * (n + 1) + 0 from (Nat.add_zero _).symm) ?_
    rintro _ _ _ _ _ ⟨rfl, rfl, rfl, rfl, z2, hz2, rfl⟩
    refine l_aload_n d_law_129 rfl ?_
    refine l_iconst d_law_130 ?_
    refine l_iload d_law_131 rfl ?_
    refine l_imul d_law_133 ?_
    refine l_iconst d_law_134 ?_
    refine l_iadd d_law_135 ?_
    refine l_callLN (rc' := 4369 * (n + 1)) (rs' := 32592 * (n + 1)) d_law_136 (q_law_180 nm hh) s_L_draw (t_L_draw (k := 3 * (k : Int) + 2) hX hb hLL (by omega) (by omega)) rfl rfl (Nat.le_of_ble_eq_true rfl) (show 4369 * (n + 1) = 4369 * (n + 1) + 0 from (Nat.add_zero _).symm) (show 32592 * (n + 1) = 32592 * (n + 1) + 0 from (Nat.add_zero _).symm) ?_
    rintro _ _ _ _ _ ⟨rfl, rfl, rfl, rfl, z3, hz3, rfl⟩
    refine l_callLN (rc' := 4369 * n + 3414) (rs' := 32592 * n + 20484) d_law_139 (q_law_184 nm hh) s_L_step (t_L_step hL hE hz1 hz2 hz3) rfl rfl (Nat.le_of_ble_eq_true rfl) (by show 4369 * (n + 1) = 4369 * n + 3414 + 955; omega) (by show 32592 * (n + 1) = 32592 * n + 20484 + 12108; omega) ?_
    rintro _ ad9 S9 ft9 fu9 ⟨rfl, hL9, hE9⟩
    refine l_if_eq (tgt := 165) d_law_142 (by decide) (by unfold R32; omega) (fun z142 => by exfalso; omega) (fun z142 => ?_)
    refine l_aload_n d_law_145 rfl ?_
    refine l_aload_n d_law_146 rfl ?_
    refine l_aload_n d_law_147 rfl ?_
    refine l_callLN (rc' := 4369 * n + 3210) (rs' := 32592 * n + 19260) d_law_148 (q_law_187 nm hh) s_L_areGroups (t_L_areGroups hL9 hE9) rfl rfl (Nat.le_of_ble_eq_true rfl) (by show 4369 * n + 3414 = 4369 * n + 3210 + 204; omega) (by show 32592 * n + 20484 = 32592 * n + 19260 + 1224; omega) ?_
    rintro _ _ _ _ _ ⟨rfl, rfl, rfl, rfl, rfl⟩
    refine l_if_eq (tgt := 165) d_law_151 (by decide) (by unfold R32; omega) (fun z151 => by exfalso; omega) (fun z151 => ?_)
    refine l_aload_n d_law_154 rfl ?_
    refine l_callLN (rc' := 4369 * n) (rs' := 32592 * n) d_law_155 (q_law_191 nm hh) s_L_areContainers (t_L_areContainers hL9 hE9) rfl rfl (Nat.le_of_ble_eq_true rfl) (by show 4369 * n + 3210 = 4369 * n + 3210; rfl) (by show 32592 * n + 19260 = 32592 * n + 19260; rfl) ?_
    rintro _ _ _ _ _ ⟨rfl, rfl, rfl, rfl, rfl⟩
    refine l_if_eq (tgt := 165) d_law_158 (by decide) (by unfold R32; omega) (fun z158 => by exfalso; omega) (fun z158 => ?_)
    refine l_iconst d_law_161 ?_
    refine l_goto (tgt := 166) d_law_162 (by decide) ?_
    refine l_istore d_law_166 (Nat.le_of_ble_eq_true rfl) ?_
    refine l_iinc d_law_168 rfl (Nat.le_of_ble_eq_true rfl) ?_
    refine l_goto (tgt := 96) d_law_171 (by decide) ?_
    have e := ih (k + 1) (ad := ad9) hL9 hE9 (by omega)
    rw [show ((k + 1 : Nat) : Int) = (k : Int) + 1 by omega] at e
    exact e
theorem KL_start {g : xG} {t u : Nat} {ad : cA} {S : gS} {h1 : hp} {f1 f2 : Int → Int} (hc : cls g (fun _ => none) ad S h1) (ht : h1 t = none) (hu : hset h1 t (iarr g 64 f1) u = none) : t ≠ u ∧ cls g (KL g t u f1 f2) ad S (hset (hset h1 t (iarr g 64 f1)) u (iarr g 24 f2)) := by
  have hn : t ≠ u := fun z => by rw [← z, hset_s] at hu; cases hu
  have hu1 : h1 u = none := by rw [hset_n _ _ (Ne.symm hn)] at hu; exact hu
  refine ⟨hn, fun k i hk9 hl => ?_, hc.2.1, fun a x ha => ?_, hc.2.2.2⟩
  · have q := hc.1 k i hk9 hl
    have n1 : ad k i ≠ t := fun z => by rw [z, ht] at q; cases q.1
    have n2 : ad k i ≠ u := fun z => by rw [z, hu1] at q; cases q.1
    rw [hset_n _ _ n2, hset_n _ _ n1]
    refine ⟨q.1, ?_, q.2.2⟩
    unfold KL
    rw [if_neg n1, if_neg n2]
  · unfold KL at ha
    by_cases z : a = t
    · rw [if_pos z] at ha
      rw [z, hset_n _ _ hn, hset_s]
      exact ha
    · rw [if_neg z] at ha
      by_cases y : a = u
      · rw [if_pos y] at ha
        rw [y, hset_s]
        exact ha
      · rw [if_neg y] at ha
        cases ha
theorem LI_start {S : gS} (ha : agr S S0) (hE : Ext S) : LI S (fset (fset (fset (fun _ => 0) 20 (-1)) 28 10000) 36 100) (fset (fun _ => 0) 21 1) := by
  have hV := IV_S0 ha hE
  have e : ∀ k, (decide (k < 28)) = true → S k = S0 k := fun k hk => ha k (of_decide_eq_true hk)
  have e3 : S 3 0 = 0 := by rw [e 3 rfl]; rfl
  have e6 : S 6 0 = 1 := by rw [e 6 rfl]; rfl
  have e7 : S 7 0 = -1 := by rw [e 7 rfl]; rfl
  have e8 : S 8 0 = 10000 := by rw [e 8 rfl]; rfl
  have e9 : S 9 0 = 100 := by rw [e 9 rfl]; rfl
  have e11 : S 11 0 = 0 := by rw [e 11 rfl]; rfl
  have e23 : S 23 0 = 0 := by rw [e 23 rfl]; rfl
  refine ⟨hV, fun p h0 h1 => ?_, fun k hk => ?_, ?_, fun i h0 h1 => by omega, fun p h0 h1 => ?_, fun c h0 h1 => by omega⟩
  · have : p = 0 := by omega
    subst this
    rw [e8, show memI S 0 = 0 by unfold memI; rw [e11]; rfl]
    decide
  · unfold isCK at hk
    rw [e11, e23] at hk
    omega
  · unfold LA
    rw [e3, e6, e11, e23]
    exact ⟨rfl, rfl, rfl, rfl⟩
  · have : p = 0 := by omega
    subst this
    rw [e7, e8, e9]
    exact ⟨rfl, rfl, rfl⟩
/-- the host's address laid down in g -/
def gp (g : xG) (x : Nat) : xG := (g.1, g.2.1, g.2.2.1, g.2.2.2.1, fun k => if k = 5 then x else g.2.2.2.2 k)
theorem xW_gp {g : xG} {x : Nat} {M : xMeth} {Q : qP} {QX : qE} {rc rs : Nat} {h : hp} {pc : Nat} {ls : List (Option Value)} {st : List Value} (k : xW (gp g x) M Q QX rc rs h pc ls st) : xW g M Q QX rc rs h pc ls st := k
abbrev zfX6 : List Value := [.null, .null, .null, .null, .null, .null, .null]
theorem sched_0 {S : gS} (hI : Inv S) (h : S 11 0 = 0) (hcd : cd_schedule S 10000 = 0) : vl_schedule S 10000 = 0 := by
  rw [sched_vl hI hcd, rnN_e hI, h]
  rfl
theorem W_head {g : xG} {t u b L : Nat} {xs : Nat → Int32} {nm : String} {hh : List (Nat × Nat × Nat × Nat)} {ad : cA} {S : gS} (hX : va_X b L xs g.2.1 g.2.1.heap) (hb : b < g.2.1.heap.size) (hLL : L ≤ 260) (hag : agr S S0) (hE : Ext S) : lW g (M_law nm hh) t u qLaw 600092 7301084 ad S (fun _ => 0) (fun _ => 0) 18 [some (.ref b), some (.ref (g.2.2.2.2 5)), some (.ref t), some (.ref u), none, none, none] [] := by
  have hL := LI_start hag hE
  have hI := hL.1.1
  have hR := hI.1
  have h0 := hE.h
  have e6 : S 6 0 = 1 := by rw [hag 6 (by decide)]; rfl
  have e11 : S 11 0 = 0 := by rw [hag 11 (by decide)]; rfl
  have hm0 : memI S 0 = 0 := by unfold memI; rw [e11]; rfl
  have hcd : cd_schedule S 10000 = 0 := by unfold cd_schedule; (repeat' split) <;> omega
  have hv0 := sched_0 hI e11 hcd
  refine l_aload_n d_law_18 rfl ?_
  refine l_bipush d_law_19 (by decide) ?_
  refine l_iconst d_law_21 ?_
  refine l_tst d_law_22 (by omega) (by omega) ?_
  refine l_aload_n d_law_23 rfl ?_
  refine l_bipush d_law_24 (by decide) ?_
  refine l_sipush d_law_26 (by decide) ?_
  refine l_tst d_law_29 (by omega) (by omega) ?_
  refine l_aload_n d_law_30 rfl ?_
  refine l_bipush d_law_31 (by decide) ?_
  refine l_bipush d_law_33 (by decide) ?_
  refine l_tst d_law_35 (by omega) (by omega) ?_
  refine l_aload_n d_law_36 rfl ?_
  refine l_bipush d_law_37 (by decide) ?_
  refine l_iconst d_law_39 ?_
  refine l_ust d_law_40 (by omega) (by omega) ?_
  refine l_aload_n d_law_41 rfl ?_
  refine l_callHN d_law_42 (q_law_46 nm hh) s_h_containers v_h_containers (t_h_containers (QX := cN) hE) (fun _ _ _ z => z) h0 rfl rfl rfl (Nat.le_of_ble_eq_true rfl) rfl rfl ?_
  rintro _ _ _ ⟨rfl, rfl, rfl⟩
  refine l_if_ne (tgt := 70) d_law_45 (by decide) (by first | exact hR _ _ (by decide) | (unfold R32; omega)) (fun z45 => by exfalso; omega) (fun z45 => ?_)
  refine l_aload_n d_law_48 rfl ?_
  refine l_iconst d_law_49 ?_
  refine l_callHN d_law_50 (q_law_33 nm hh) s_h_groupMemory v_h_groupMemory (t_h_groupMemory hI hE (by unfold R32; omega)) (opX.no (show cd_groupMemory S (0) = 0 by unfold cd_groupMemory; (repeat' split) <;> omega)) h0 rfl rfl rfl (Nat.le_of_ble_eq_true rfl) rfl rfl ?_
  rintro _ _ _ ⟨-, rfl, rfl, rfl⟩
  refine l_eqv (v := vl_groupMemory S (0)) (w := 0) hm0 ?_
  refine l_if_ne (tgt := 70) d_law_53 (by decide) (by first | exact hR _ _ (by decide) | (unfold R32; omega)) (fun z53 => by exfalso; omega) (fun z53 => ?_)
  refine l_aload_n d_law_56 rfl ?_
  refine l_sipush d_law_57 (by decide) ?_
  refine l_callHN d_law_60 (q_law_75 nm hh) s_h_schedule v_h_schedule (t_h_schedule hI hE (by unfold R32; omega)) (opX.no hcd) h0 rfl rfl rfl (Nat.le_of_ble_eq_true rfl) rfl rfl ?_
  rintro _ ad9 S9 ⟨-, rfl, hag9, hE9⟩
  have hL9 := LI.agr (LI_schedule hL hcd) hag9 hE9
  have hI9 := hL9.1.1
  have hR9 := hI9.1
  have h09 := hE9.h
  refine l_eqv (v := vl_schedule S (10000)) (w := 0) hv0 ?_
  refine l_if_ne (tgt := 70) d_law_63 (by decide) (by first | exact hR _ _ (by decide) | (unfold R32; omega)) (fun z63 => by exfalso; omega) (fun z63 => ?_)
  refine l_iconst d_law_66 ?_
  refine l_goto (tgt := 71) d_law_67 (by decide) ?_
  refine l_istore d_law_71 (Nat.le_of_ble_eq_true rfl) ?_
  refine l_aload_n d_law_73 rfl ?_
  refine l_slen hX hb d_law_74 ?_
  refine l_iconst d_law_75 ?_
  refine l_idivI d_law_76 (by omega) (by first | exact hR _ _ (by decide) | (unfold R32; omega)) (by omega) (by first | exact hR _ _ (by decide) | (unfold R32; omega)) ?_
  refine l_bipush d_law_77 (by decide) ?_
  refine l_icmp_le (tgt := 87) d_law_79 (by decide) (by first | exact hR _ _ (by decide) | (unfold R32; omega)) (by first | exact hR _ _ (by decide) | (unfold R32; omega)) (fun z79 => ?_) (fun z79 => ?_)
  · refine l_aload_n d_law_87 rfl ?_
    refine l_slen hX hb d_law_88 ?_
    refine l_iconst d_law_89 ?_
    refine l_idivI d_law_90 (by omega) (by first | exact hR _ _ (by decide) | (unfold R32; omega)) (by omega) (by first | exact hR _ _ (by decide) | (unfold R32; omega)) ?_
    refine l_istore d_law_91 (Nat.le_of_ble_eq_true rfl) ?_
    refine l_iconst d_law_93 ?_
    refine l_istore d_law_94 (Nat.le_of_ble_eq_true rfl) ?_
    refine l_mono (rc := 4369 * ((L : Int) / 3).toNat) (rs := 32592 * ((L : Int) / 3).toNat) ?_ (by omega) (by omega)
    exact W_law (sv := (L : Int) / 3) hX hb hLL (by omega) (by omega) (by omega) ((L : Int) / 3).toNat 0 hL9 hE9 (by omega)
  · refine l_bipush d_law_82 (by decide) ?_
    refine l_goto (tgt := 91) d_law_84 (by decide) ?_
    refine l_istore d_law_91 (Nat.le_of_ble_eq_true rfl) ?_
    refine l_iconst d_law_93 ?_
    refine l_istore d_law_94 (Nat.le_of_ble_eq_true rfl) ?_
    refine l_mono (rc := 4369 * ((60 : Int)).toNat) (rs := 32592 * ((60 : Int)).toNat) ?_ (by omega) (by omega)
    exact W_law (sv := (60 : Int)) hX hb hLL (by omega) (by omega) (by omega) ((60 : Int)).toNat 0 hL9 hE9 (by omega)
theorem S_law {g : xG} {b L d : Nat} {xs : Nat → Int32} {nm : String} {hh : List (Nat × Nat × Nat × Nat)} (hD : isD g d) (hMi : ∃ mi, va_Mi "[Ljava/lang/Object;" mi g.2.1) (hXs : va_X b L xs g.2.1 g.2.1.heap) (hb : b < g.2.1.heap.size) (hL : L ≤ 260) : xW g (M_law nm hh) lawQ mN 600104 7301314 (fun _ => none) 0 [some (.ref b), none, none, none, none, none, none] [] := by
  refine x_new (ci := 6) (rc' := 600103) (rs' := 7301307) (fs := zfX6) d_law_0 inTX6 tyX6_ok rfl wl24 wl25 wl1 (AllLt.mk (P := fun j => defaultValue (tyX6 j) = vp_V zfX6 j) (N := 7) ⟨⟨⟨⟨⟨⟨⟨trivial, rfl⟩, rfl⟩, rfl⟩, rfl⟩, rfl⟩, rfl⟩, rfl⟩) rfl rfl (fun x hx => ?_)
  refine xW_gp (x := x) ?_
  refine x_dup d_law_3 rfl ?_
  refine x_callIN (QX' := mN) (rc' := 600094) (rs' := 7301172) d_law_4 rfl (q_law_179 nm hh) s_h_init rfl (t_h_init (g := gp g x) (K := fun _ => none) (d := d) hD hMi rfl (hset_s _ _ _) rfl (fun _ _ z => by cases z)) rfl (by rfl) (Nat.le_of_ble_eq_true rfl) rfl rfl (fun _ _ z => z) ?_
  rintro _ h1 ⟨rfl, ad, S, hx0, hc, hag, hE⟩
  refine x_astore_n d_law_7 (Nat.le_of_ble_eq_true rfl) ?_
  refine x_bipush d_law_8 (by decide) ?_
  refine x_newarr (at0 := .int) (ty := .int) (t := 0) (N' := 64) (rc' := 600093) (rs' := 7301108) (a0 := (64, .inl (fun _ => iI 0))) rfl rfl (fun _ z => by cases z) wI (fun _ => rfl) rfl (by decide) (by decide) rfl rfl d_law_10 (fun t ht => ?_)
  refine x_astore_n d_law_12 (Nat.le_of_ble_eq_true rfl) ?_
  refine x_bipush d_law_13 (by decide) ?_
  refine x_newarr (at0 := .int) (ty := .int) (t := 0) (N' := 24) (rc' := 600092) (rs' := 7301084) (a0 := (24, .inl (fun _ => iI 0))) rfl rfl (fun _ z => by cases z) wI (fun _ => rfl) rfl (by decide) (by decide) rfl rfl d_law_15 (fun u hu => ?_)
  refine x_astore_n d_law_17 (Nat.le_of_ble_eq_true rfl) ?_
  obtain ⟨hn, hc2⟩ := KL_start (f1 := fun _ => 0) (f2 := fun _ => 0) hc ht hu
  exact xW.post (W_head (g := gp g x) (t := t) (u := u) (nm := nm) (hh := hh) hXs hb hL hag hE hn _ hc2) (fun v h' ⟨_, _, _, _, q, _⟩ => q)
