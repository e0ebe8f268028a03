/-! the law's own judgement: its two rows t (64 places) and u (24) stand beside the host's objects -/
def KL (g : xG) (t u : Nat) (ft fu : Int → Int) : hp := fun a => if a = t then some (iarr g 64 ft) else if a = u then some (iarr g 24 fu) else none
theorem KL_t (g : xG) (t u : Nat) (ft fu : Int → Int) : KL g t u ft fu t = some (iarr g 64 ft) := if_pos rfl
theorem KL_u (g : xG) {t u : Nat} (ft fu : Int → Int) (hn : t ≠ u) : KL g t u ft fu u = some (iarr g 24 fu) := by
  unfold KL
  rw [if_neg (fun e => hn e.symm), if_pos rfl]
abbrev qL : Type := Option Value → cA → gS → (Int → Int) → (Int → Int) → Prop
def lQ (g : xG) (t u : Nat) (Q : qL) : qP := fun v h' => ∃ ad S ft fu, Q v ad S ft fu ∧ cls g (KL g t u ft fu) ad S h'
def lW (g : xG) (M : xMeth) (t u : Nat) (Q : qL) (rc rs : Nat) (ad : cA) (S : gS) (ft fu : Int → Int) (pc : Nat) (ls : List (Option Value)) (st : List Value) : Prop := t ≠ u → ∀ h, cls g (KL g t u ft fu) ad S h → xW g M (lQ g t u Q) mN rc rs h pc ls st
def lM (g : xG) (y : MethodName) (wc : Cond) (N : xMeth) (t u : Nat) (av : List Value) (ad : cA) (S : gS) (ft fu : Int → Int) (Q : qL) : Prop := t ≠ u → ∀ h, cls g (KL g t u ft fu) ad S h → xM g y wc N av h (lQ g t u Q) mN
theorem opX.no {es : List String} {ad : cA} {S : gS} {cd : Int} (h : cd = 0) (E : String) (ad9 : cA) (S9 : gS) : ¬ opX es ad S cd E ad9 S9 := fun z => by
  obtain ⟨_, _, k, _, h2⟩ := z
  omega
theorem cls_upT {g : xG} {t u : Nat} {ft fu f' : Int → Int} {ad : cA} {S : gS} {h : hp} (hc : cls g (KL g t u ft fu) ad S h) (hn : t ≠ u) : cls g (KL g t u f' fu) ad S (hset h t (iarr g 64 f')) := by
  have hk : ∀ k i, k ≤ 10 → S (50 + k) i = 1 → ad k i ≠ t := fun k i hk hl z => by
    have := (hc.1 k i hk hl).2.1
    rw [z, KL_t] at this; cases this
  refine ⟨fun k i hk9 hl => ?_, hc.2.1, fun a y ha => ?_, hc.2.2.2⟩
  · have q := hc.1 k i hk9 hl
    have hx := hk k i hk9 hl
    rw [hset_n _ _ hx]
    refine ⟨q.1, ?_, q.2.2⟩
    have q2 := q.2.1
    unfold KL at q2 ⊢
    rw [if_neg hx] at q2 ⊢
    split at q2
    · cases q2
    · rename_i z; rw [if_neg z]
  · by_cases z : a = t
    · subst z
      rw [hset_s]
      rw [KL_t] at ha
      exact ha
    · rw [hset_n _ _ z]
      refine hc.2.2.1 a y ?_
      unfold KL at ha ⊢
      rw [if_neg z] at ha ⊢
      exact ha
theorem cls_upU {g : xG} {t u : Nat} {ft fu f' : Int → Int} {ad : cA} {S : gS} {h : hp} (hc : cls g (KL g t u ft fu) ad S h) (hn : t ≠ u) : cls g (KL g t u ft f') ad S (hset h u (iarr g 24 f')) := by
  have hk : ∀ k i, k ≤ 10 → S (50 + k) i = 1 → ad k i ≠ u := fun k i hk hl z => by
    have := (hc.1 k i hk hl).2.1
    rw [z, KL_u g ft fu hn] at this; cases this
  refine ⟨fun k i hk9 hl => ?_, hc.2.1, fun a y ha => ?_, hc.2.2.2⟩
  · have q := hc.1 k i hk9 hl
    have hx := hk k i hk9 hl
    rw [hset_n _ _ hx]
    refine ⟨q.1, ?_, q.2.2⟩
    have q2 := q.2.1
    unfold KL at q2 ⊢
    rw [if_neg hx] at q2 ⊢
    exact q2
  · by_cases z : a = u
    · subst z
      rw [hset_s]
      rw [KL_u g ft f' hn] at ha
      exact ha
    · rw [hset_n _ _ z]
      refine hc.2.2.1 a y ?_
      unfold KL at ha ⊢
      rw [if_neg z] at ha ⊢
      exact ha
section LW
variable {g : xG} {M N : xMeth} {t u : Nat} {Q Q' : qL} {rc rs : Nat} {ad : cA} {S : gS} {ft fu : Int → Int} {pc : Nat} {ls : List (Option Value)} {st : List Value}
theorem lM.of {y : MethodName} {wc : Cond} {av : List Value} (hwc : wc = Cond.code y M.2.1 M.2.2.1 M.2.2.2.1) (hy : plainName y.cls = true) (hcl : y.cls = M.1) (hnm : y.name = M.2.2.2.2.1) (hh : M.2.2.2.2.2.1 = []) (hv : ∀ v ∈ av, v.category = 1) (hn : av.length ≤ M.2.2.1) (hls : av.map some ++ List.replicate (M.2.2.1 - av.length) none = ls) (body : lW g M t u Q M.2.2.2.2.2.2.cells M.2.2.2.2.2.2.slots ad S ft fu 0 ls []) : lM g y wc M t u av ad S ft fu Q := fun hn9 h hc => xM.of hwc hy hcl hnm hh hv hn hls (body hn9 h hc)
theorem l_callH {y : MethodName} {wc : Cond} {index n rc' rs' : Nat} {As stk : List Value} {Qh : qK} {QX : qKE} (d : decode M.2.1 pc = .ok (.invokevirtual index, 3)) (hc : callOk M N y wc index n) (hi : Cond.instanceMethod y ∈ lw_tbl) (hs : Cond.selects y.cls y y ∈ lw_tbl) (hM : cM g y wc N (KL g t u ft fu) (.ref (ad 0 0) :: As) ad S Qh QX) (hx : ∀ E ad9 S9, ¬ QX E ad9 S9) (h0 : S 50 0 = 1) (hy : RX6 = y.cls) (hn : As.length = n) (hstk : stk = As.reverse ++ .ref (g.2.2.2.2 5) :: st) (hcat : (st.map fun v => v.category).sum ≤ 8)
    (hh0 : M.2.2.2.2.2.1 = []) (e1 : rc = rc' + N.2.2.2.2.2.2.cells) (e2 : rs = rs' + N.2.2.2.2.2.2.slots) (kr : ∀ v ad9 S9, Qh v ad9 S9 → lW g M t u Q rc' rs' ad9 S9 ft fu (pc + 3) ls (v.toList ++ st)) : lW g M t u Q rc rs ad S ft fu pc ls stk := by
  intro hn9 h hc0
  exact x_callV (r := (RX6, TX6, 7)) d hc hi hs (hM h hc0) (hc0.at 0 (by decide) h0) rfl hy hn (by rw [hc0.2.2.2.2.2]; exact hstk) hcat hh0 e1 e2 (fun E h' ⟨ad', S', q1, q2⟩ => (hx E ad' S' q1).elim) (fun v h' ⟨ad', S', q1, q2⟩ => kr v ad' S' q1 hn9 h' q2)
theorem l_callL {y : MethodName} {wc : Cond} {index n rc' rs' : Nat} {As stk : List Value} (d : decode M.2.1 pc = .ok (.invokestatic index, 3)) (hc : callOk M N y wc index n) (hs : Cond.static y ∈ lw_tbl) (hM : lM g y wc N t u As ad S ft fu Q') (hn : As.length = n) (hstk : stk = As.reverse ++ st) (hcat : (st.map fun v => v.category).sum ≤ 8)
    (hh0 : M.2.2.2.2.2.1 = []) (e1 : rc = rc' + N.2.2.2.2.2.2.cells) (e2 : rs = rs' + N.2.2.2.2.2.2.slots) (kr : ∀ v ad9 S9 ft9 fu9, Q' v ad9 S9 ft9 fu9 → lW g M t u Q rc' rs' ad9 S9 ft9 fu9 (pc + 3) ls (v.toList ++ st)) : lW g M t u Q rc rs ad S ft fu pc ls stk := by
  intro hn9 h hc0
  exact x_callS d hc hs (hM hn9 h hc0) hn hstk hcat hh0 e1 e2 (fun E h' z => False.elim z) (fun v h' ⟨ad', S', ft', fu', q1, q2⟩ => kr v ad' S' ft' fu' q1 hn9 h' q2)
theorem l_iret {v : Int32} (hr : M.2.2.2.1 = some .int) (d : decode M.2.1 pc = .ok (.ireturn, 1)) (hq : Q (some (.int v)) ad S ft fu) : lW g M t u Q rc rs ad S ft fu pc ls [.int v] := fun hn h hc => x_iret hr d ⟨ad, S, ft, fu, hq, hc⟩
theorem l_zret {b : Int} (hr : M.2.2.2.1 = some .boolean) (hb : b = 0 ∨ b = 1) (d : decode M.2.1 pc = .ok (.ireturn, 1)) (hq : Q (some (.int (iI b))) ad S ft fu) : lW g M t u Q rc rs ad S ft fu pc ls [.int (iI b)] := fun hn h hc => x_zret hr hb d ⟨ad, S, ft, fu, hq, hc⟩
theorem l_mono {rc' rs' : Nat} (k : lW g M t u Q rc rs ad S ft fu pc ls st) (h1 : rc ≤ rc') (h2 : rs ≤ rs') : lW g M t u Q rc' rs' ad S ft fu pc ls st := fun hn h hc => (k hn h hc).mono h1 h2
theorem l_tld {i v : Int} (he : ft i = v) (d : decode M.2.1 pc = .ok (.iaload, 1)) (h0 : 0 ≤ i) (h1 : i < 64) (kk : lW g M t u Q rc rs ad S ft fu (pc + 1) ls (.int (iI v) :: st)) : lW g M t u Q rc rs ad S ft fu pc ls (.int (iI i) :: .ref t :: st) := fun hn h hc => x_iald (n := 64) (f := ft) d (hc.2.2.1 t _ (KL_t g t u ft fu)) (by decide) h0 h1 (by rw [he]; exact kk hn h hc)
theorem l_uld {i v : Int} (he : fu i = v) (d : decode M.2.1 pc = .ok (.iaload, 1)) (h0 : 0 ≤ i) (h1 : i < 24) (kk : lW g M t u Q rc rs ad S ft fu (pc + 1) ls (.int (iI v) :: st)) : lW g M t u Q rc rs ad S ft fu pc ls (.int (iI i) :: .ref u :: st) := fun hn h hc => x_iald (n := 24) (f := fu) d (hc.2.2.1 u _ (KL_u g ft fu hn)) (by decide) h0 h1 (by rw [he]; exact kk hn h hc)
theorem l_tst {i v : Int} (d : decode M.2.1 pc = .ok (.iastore, 1)) (h0 : 0 ≤ i) (h1 : i < 64) (kk : lW g M t u Q rc rs ad S (fset ft i v) fu (pc + 1) ls st) : lW g M t u Q rc rs ad S ft fu pc ls (.int (iI v) :: .int (iI i) :: .ref t :: st) := fun hn h hc => x_iast (n := 64) (f := ft) d (hc.2.2.1 t _ (KL_t g t u ft fu)) (by decide) h0 h1 (kk hn _ (cls_upT hc hn))
theorem l_ust {i v : Int} (d : decode M.2.1 pc = .ok (.iastore, 1)) (h0 : 0 ≤ i) (h1 : i < 24) (kk : lW g M t u Q rc rs ad S ft (fset fu i v) (pc + 1) ls st) : lW g M t u Q rc rs ad S ft fu pc ls (.int (iI v) :: .int (iI i) :: .ref u :: st) := fun hn h hc => x_iast (n := 24) (f := fu) d (hc.2.2.1 u _ (KL_u g ft fu hn)) (by decide) h0 h1 (kk hn _ (cls_upU hc hn))
theorem l_eqv {v w : Int} (e : v = w) (kk : lW g M t u Q rc rs ad S ft fu pc ls (.int (iI w) :: st)) : lW g M t u Q rc rs ad S ft fu pc ls (.int (iI v) :: st) := by rw [e]; exact kk
theorem l_tabOut {dflt lo hi : Int} {offs : Array Int} {len tgt : Nat} {x : Int32} (d : decode M.2.1 pc = .ok (.tableswitch dflt lo hi offs, len)) (hx : x.toInt < lo ∨ hi < x.toInt) (ht : (pc : Int) + dflt = (tgt : Int)) (kk : lW g M t u Q rc rs ad S ft fu tgt ls st) : lW g M t u Q rc rs ad S ft fu pc ls (.int x :: st) := fun hn h hc G p e s m args below meth c H locs lsA cells slots C0 hh hl' a1 a2 => lv_tableOut C0.1 C0.2.1 d hx ht (kk hn h hc G p e s m args below meth c H locs lsA cells slots C0 hh hl' a1 a2)
theorem l_tabIn {dflt lo hi off : Int} {offs : Array Int} {len tgt : Nat} {x : Int32} (d : decode M.2.1 pc = .ok (.tableswitch dflt lo hi offs, len)) (h1 : ¬ x.toInt < lo) (h2 : ¬ hi < x.toInt) (ho : offs[(x.toInt - lo).toNat]? = some off) (ht : (pc : Int) + off = (tgt : Int)) (kk : lW g M t u Q rc rs ad S ft fu tgt ls st) : lW g M t u Q rc rs ad S ft fu pc ls (.int x :: st) := fun hn h hc G p e s m args below meth c H locs lsA cells slots C0 hh hl' a1 a2 => lv_tableIn C0.1 C0.2.1 d h1 h2 ho ht (kk hn h hc G p e s m args below meth c H locs lsA cells slots C0 hh hl' a1 a2)
theorem l_iconst {n : Int} (d : decode M.2.1 pc = .ok (.iconst n, 1)) (k : lW g M t u Q rc rs ad S ft fu (pc + 1) ls (.int (iI n) :: st)) : lW g M t u Q rc rs ad S ft fu pc ls (st) := fun hn9 h hc => x_iconst d (k hn9 h hc)
theorem l_bipush {n : Int} (d : decode M.2.1 pc = .ok (.bipush n, 2)) (hv : (Int8.ofInt n).toInt32 = iI n) (k : lW g M t u Q rc rs ad S ft fu (pc + 2) ls (.int (iI n) :: st)) : lW g M t u Q rc rs ad S ft fu pc ls (st) := fun hn9 h hc => x_bipush d hv (k hn9 h hc)
theorem l_sipush {n : Int} (d : decode M.2.1 pc = .ok (.sipush n, 3)) (hv : (Int16.ofInt n).toInt32 = iI n) (k : lW g M t u Q rc rs ad S ft fu (pc + 3) ls (.int (iI n) :: st)) : lW g M t u Q rc rs ad S ft fu pc ls (st) := fun hn9 h hc => x_sipush d hv (k hn9 h hc)
theorem l_null (d : decode M.2.1 pc = .ok (.aconst_null, 1)) (k : lW g M t u Q rc rs ad S ft fu (pc + 1) ls (.null :: st)) : lW g M t u Q rc rs ad S ft fu pc ls (st) := fun hn9 h hc => x_null d (k hn9 h hc)
theorem l_iload_n {n : Fin 4} {x : Int32} (d : decode M.2.1 pc = .ok (.iload_n n, 1)) (hx : ls[(n : Nat)]? = some (some (.int x))) (k : lW g M t u Q rc rs ad S ft fu (pc + 1) ls (.int x :: st)) : lW g M t u Q rc rs ad S ft fu pc ls (st) := fun hn9 h hc => x_iload_n d hx (k hn9 h hc)
theorem l_iload {n : Nat} {x : Int32} (d : decode M.2.1 pc = .ok (.iload n, 2)) (hx : ls[n]? = some (some (.int x))) (k : lW g M t u Q rc rs ad S ft fu (pc + 2) ls (.int x :: st)) : lW g M t u Q rc rs ad S ft fu pc ls (st) := fun hn9 h hc => x_iload d hx (k hn9 h hc)
theorem l_aload_n {n : Fin 4} {x : Nat} (d : decode M.2.1 pc = .ok (.aload_n n, 1)) (hx : ls[(n : Nat)]? = some (some (.ref x))) (k : lW g M t u Q rc rs ad S ft fu (pc + 1) ls (.ref x :: st)) : lW g M t u Q rc rs ad S ft fu pc ls (st) := fun hn9 h hc => x_aload_n d hx (k hn9 h hc)
theorem l_aload {n : Nat} {x : Nat} (d : decode M.2.1 pc = .ok (.aload n, 2)) (hx : ls[n]? = some (some (.ref x))) (k : lW g M t u Q rc rs ad S ft fu (pc + 2) ls (.ref x :: st)) : lW g M t u Q rc rs ad S ft fu pc ls (st) := fun hn9 h hc => x_aload d hx (k hn9 h hc)
theorem l_aload_nN {n : Fin 4} (d : decode M.2.1 pc = .ok (.aload_n n, 1)) (hx : ls[(n : Nat)]? = some (some .null)) (k : lW g M t u Q rc rs ad S ft fu (pc + 1) ls (.null :: st)) : lW g M t u Q rc rs ad S ft fu pc ls (st) := fun hn9 h hc => x_aload_nN d hx (k hn9 h hc)
theorem l_aloadN {n : Nat} (d : decode M.2.1 pc = .ok (.aload n, 2)) (hx : ls[n]? = some (some .null)) (k : lW g M t u Q rc rs ad S ft fu (pc + 2) ls (.null :: st)) : lW g M t u Q rc rs ad S ft fu pc ls (st) := fun hn9 h hc => x_aloadN d hx (k hn9 h hc)
theorem l_iadd {a b : Int} (d : decode M.2.1 pc = .ok (.iadd, 1)) (k : lW g M t u Q rc rs ad S ft fu (pc + 1) ls (.int (iI (a + b)) :: st)) : lW g M t u Q rc rs ad S ft fu pc ls (.int (iI b) :: .int (iI a) :: st) := fun hn9 h hc => x_iadd d (k hn9 h hc)
theorem l_isub {a b : Int} (d : decode M.2.1 pc = .ok (.isub, 1)) (k : lW g M t u Q rc rs ad S ft fu (pc + 1) ls (.int (iI (a - b)) :: st)) : lW g M t u Q rc rs ad S ft fu pc ls (.int (iI b) :: .int (iI a) :: st) := fun hn9 h hc => x_isub d (k hn9 h hc)
theorem l_imul {a b : Int} (d : decode M.2.1 pc = .ok (.imul, 1)) (k : lW g M t u Q rc rs ad S ft fu (pc + 1) ls (.int (iI (a * b)) :: st)) : lW g M t u Q rc rs ad S ft fu pc ls (.int (iI b) :: .int (iI a) :: st) := fun hn9 h hc => x_imul d (k hn9 h hc)
theorem l_ineg {a : Int} (d : decode M.2.1 pc = .ok (.ineg, 1)) (k : lW g M t u Q rc rs ad S ft fu (pc + 1) ls (.int (iI (-a)) :: st)) : lW g M t u Q rc rs ad S ft fu pc ls (.int (iI a) :: st) := fun hn9 h hc => x_ineg d (k hn9 h hc)
theorem l_iand {x y v : Int32} (d : decode M.2.1 pc = .ok (.iand, 1)) (hv : x &&& y = v) (k : lW g M t u Q rc rs ad S ft fu (pc + 1) ls (.int v :: st)) : lW g M t u Q rc rs ad S ft fu pc ls (.int y :: .int x :: st) := fun hn9 h hc => x_iand d hv (k hn9 h hc)
theorem l_ior {x y v : Int32} (d : decode M.2.1 pc = .ok (.ior, 1)) (hv : x ||| y = v) (k : lW g M t u Q rc rs ad S ft fu (pc + 1) ls (.int v :: st)) : lW g M t u Q rc rs ad S ft fu pc ls (.int y :: .int x :: st) := fun hn9 h hc => x_ior d hv (k hn9 h hc)
theorem l_ixor {x y v : Int32} (d : decode M.2.1 pc = .ok (.ixor, 1)) (hv : x ^^^ y = v) (k : lW g M t u Q rc rs ad S ft fu (pc + 1) ls (.int v :: st)) : lW g M t u Q rc rs ad S ft fu pc ls (.int y :: .int x :: st) := fun hn9 h hc => x_ixor d hv (k hn9 h hc)
theorem l_ishl {x y v : Int32} (d : decode M.2.1 pc = .ok (.ishl, 1)) (hv : x <<< (y &&& 31) = v) (k : lW g M t u Q rc rs ad S ft fu (pc + 1) ls (.int v :: st)) : lW g M t u Q rc rs ad S ft fu pc ls (.int y :: .int x :: st) := fun hn9 h hc => x_ishl d hv (k hn9 h hc)
theorem l_ishr {x y v : Int32} (d : decode M.2.1 pc = .ok (.ishr, 1)) (hv : x >>> (y &&& 31) = v) (k : lW g M t u Q rc rs ad S ft fu (pc + 1) ls (.int v :: st)) : lW g M t u Q rc rs ad S ft fu pc ls (.int y :: .int x :: st) := fun hn9 h hc => x_ishr d hv (k hn9 h hc)
theorem l_iushr {x y v : Int32} (d : decode M.2.1 pc = .ok (.iushr, 1)) (hv : (x.toUInt32 >>> (y.toUInt32 &&& Int32.toUInt32 31)).toInt32 = v) (k : lW g M t u Q rc rs ad S ft fu (pc + 1) ls (.int v :: st)) : lW g M t u Q rc rs ad S ft fu pc ls (.int y :: .int x :: st) := fun hn9 h hc => x_iushr d hv (k hn9 h hc)
theorem l_idiv {x y v : Int32} (d : decode M.2.1 pc = .ok (.idiv, 1)) (hy : ¬ y = 0) (hv : x / y = v) (k : lW g M t u Q rc rs ad S ft fu (pc + 1) ls (.int v :: st)) : lW g M t u Q rc rs ad S ft fu pc ls (.int y :: .int x :: st) := fun hn9 h hc => x_idiv d hy hv (k hn9 h hc)
theorem l_irem {x y v : Int32} (d : decode M.2.1 pc = .ok (.irem, 1)) (hy : ¬ y = 0) (hv : x - x / y * y = v) (k : lW g M t u Q rc rs ad S ft fu (pc + 1) ls (.int v :: st)) : lW g M t u Q rc rs ad S ft fu pc ls (.int y :: .int x :: st) := fun hn9 h hc => x_irem d hy hv (k hn9 h hc)
theorem l_i2l {x : Int32} (d : decode M.2.1 pc = .ok (.i2l, 1)) (k : lW g M t u Q rc rs ad S ft fu (pc + 1) ls (.long x.toInt64 :: st)) : lW g M t u Q rc rs ad S ft fu pc ls (.int x :: st) := fun hn9 h hc => x_i2l d (k hn9 h hc)
theorem l_lcmp {x y : Int64} (d : decode M.2.1 pc = .ok (.lcmp, 1)) (k : lW g M t u Q rc rs ad S ft fu (pc + 1) ls (.int (lg_cmp x y) :: st)) : lW g M t u Q rc rs ad S ft fu pc ls (.long y :: .long x :: st) := fun hn9 h hc => x_lcmp d (k hn9 h hc)
theorem l_dup {v : Value} (d : decode M.2.1 pc = .ok (.dup, 1)) (hv : v.category = 1) (k : lW g M t u Q rc rs ad S ft fu (pc + 1) ls (v :: v :: st)) : lW g M t u Q rc rs ad S ft fu pc ls (v :: st) := fun hn9 h hc => x_dup d hv (k hn9 h hc)
theorem l_pop {v : Value} (d : decode M.2.1 pc = .ok (.pop, 1)) (hv : v.category = 1) (k : lW g M t u Q rc rs ad S ft fu (pc + 1) ls st) : lW g M t u Q rc rs ad S ft fu pc ls (v :: st) := fun hn9 h hc => x_pop d hv (k hn9 h hc)
theorem l_dup_x1 {v w : Value} (d : decode M.2.1 pc = .ok (.dup_x1, 1)) (hv : v.category = 1) (hw : w.category = 1) (k : lW g M t u Q rc rs ad S ft fu (pc + 1) ls (v :: w :: v :: st)) : lW g M t u Q rc rs ad S ft fu pc ls (v :: w :: st) := fun hn9 h hc => x_dup_x1 d hv hw (k hn9 h hc)
theorem l_dup2 {v w : Value} (d : decode M.2.1 pc = .ok (.dup2, 1)) (hv : v.category = 1) (hw : w.category = 1) (k : lW g M t u Q rc rs ad S ft fu (pc + 1) ls (v :: w :: v :: w :: st)) : lW g M t u Q rc rs ad S ft fu pc ls (v :: w :: st) := fun hn9 h hc => x_dup2 d hv hw (k hn9 h hc)
theorem l_icmp_eq {a b : Int} {off : Int} {tgt : Nat} (d : decode M.2.1 pc = .ok (.if_icmp .eq off, 3)) (ht : (pc : Int) + off = (tgt : Int)) (ha : R32 a) (hb : R32 b) (kt : a = b → lW g M t u Q rc rs ad S ft fu tgt ls st) (kf : ¬ a = b → lW g M t u Q rc rs ad S ft fu (pc + 3) ls st) : lW g M t u Q rc rs ad S ft fu pc ls (.int (iI b) :: .int (iI a) :: st) := fun hn9 h hc => x_icmp_eq d ht ha hb (fun z => kt z hn9 h hc) (fun z => kf z hn9 h hc)
theorem l_if_eq {a : Int} {off : Int} {tgt : Nat} (d : decode M.2.1 pc = .ok (.ifCond .eq off, 3)) (ht : (pc : Int) + off = (tgt : Int)) (ha : R32 a) (kt : a = 0 → lW g M t u Q rc rs ad S ft fu tgt ls st) (kf : ¬ a = 0 → lW g M t u Q rc rs ad S ft fu (pc + 3) ls st) : lW g M t u Q rc rs ad S ft fu pc ls (.int (iI a) :: st) := fun hn9 h hc => x_if_eq d ht ha (fun z => kt z hn9 h hc) (fun z => kf z hn9 h hc)
theorem l_icmp_ne {a b : Int} {off : Int} {tgt : Nat} (d : decode M.2.1 pc = .ok (.if_icmp .ne off, 3)) (ht : (pc : Int) + off = (tgt : Int)) (ha : R32 a) (hb : R32 b) (kt : ¬ a = b → lW g M t u Q rc rs ad S ft fu tgt ls st) (kf : a = b → lW g M t u Q rc rs ad S ft fu (pc + 3) ls st) : lW g M t u Q rc rs ad S ft fu pc ls (.int (iI b) :: .int (iI a) :: st) := fun hn9 h hc => x_icmp_ne d ht ha hb (fun z => kt z hn9 h hc) (fun z => kf z hn9 h hc)
theorem l_if_ne {a : Int} {off : Int} {tgt : Nat} (d : decode M.2.1 pc = .ok (.ifCond .ne off, 3)) (ht : (pc : Int) + off = (tgt : Int)) (ha : R32 a) (kt : ¬ a = 0 → lW g M t u Q rc rs ad S ft fu tgt ls st) (kf : a = 0 → lW g M t u Q rc rs ad S ft fu (pc + 3) ls st) : lW g M t u Q rc rs ad S ft fu pc ls (.int (iI a) :: st) := fun hn9 h hc => x_if_ne d ht ha (fun z => kt z hn9 h hc) (fun z => kf z hn9 h hc)
theorem l_icmp_lt {a b : Int} {off : Int} {tgt : Nat} (d : decode M.2.1 pc = .ok (.if_icmp .lt off, 3)) (ht : (pc : Int) + off = (tgt : Int)) (ha : R32 a) (hb : R32 b) (kt : a < b → lW g M t u Q rc rs ad S ft fu tgt ls st) (kf : ¬ a < b → lW g M t u Q rc rs ad S ft fu (pc + 3) ls st) : lW g M t u Q rc rs ad S ft fu pc ls (.int (iI b) :: .int (iI a) :: st) := fun hn9 h hc => x_icmp_lt d ht ha hb (fun z => kt z hn9 h hc) (fun z => kf z hn9 h hc)
theorem l_if_lt {a : Int} {off : Int} {tgt : Nat} (d : decode M.2.1 pc = .ok (.ifCond .lt off, 3)) (ht : (pc : Int) + off = (tgt : Int)) (ha : R32 a) (kt : a < 0 → lW g M t u Q rc rs ad S ft fu tgt ls st) (kf : ¬ a < 0 → lW g M t u Q rc rs ad S ft fu (pc + 3) ls st) : lW g M t u Q rc rs ad S ft fu pc ls (.int (iI a) :: st) := fun hn9 h hc => x_if_lt d ht ha (fun z => kt z hn9 h hc) (fun z => kf z hn9 h hc)
theorem l_icmp_ge {a b : Int} {off : Int} {tgt : Nat} (d : decode M.2.1 pc = .ok (.if_icmp .ge off, 3)) (ht : (pc : Int) + off = (tgt : Int)) (ha : R32 a) (hb : R32 b) (kt : b ≤ a → lW g M t u Q rc rs ad S ft fu tgt ls st) (kf : ¬ b ≤ a → lW g M t u Q rc rs ad S ft fu (pc + 3) ls st) : lW g M t u Q rc rs ad S ft fu pc ls (.int (iI b) :: .int (iI a) :: st) := fun hn9 h hc => x_icmp_ge d ht ha hb (fun z => kt z hn9 h hc) (fun z => kf z hn9 h hc)
theorem l_if_ge {a : Int} {off : Int} {tgt : Nat} (d : decode M.2.1 pc = .ok (.ifCond .ge off, 3)) (ht : (pc : Int) + off = (tgt : Int)) (ha : R32 a) (kt : 0 ≤ a → lW g M t u Q rc rs ad S ft fu tgt ls st) (kf : ¬ 0 ≤ a → lW g M t u Q rc rs ad S ft fu (pc + 3) ls st) : lW g M t u Q rc rs ad S ft fu pc ls (.int (iI a) :: st) := fun hn9 h hc => x_if_ge d ht ha (fun z => kt z hn9 h hc) (fun z => kf z hn9 h hc)
theorem l_icmp_gt {a b : Int} {off : Int} {tgt : Nat} (d : decode M.2.1 pc = .ok (.if_icmp .gt off, 3)) (ht : (pc : Int) + off = (tgt : Int)) (ha : R32 a) (hb : R32 b) (kt : b < a → lW g M t u Q rc rs ad S ft fu tgt ls st) (kf : ¬ b < a → lW g M t u Q rc rs ad S ft fu (pc + 3) ls st) : lW g M t u Q rc rs ad S ft fu pc ls (.int (iI b) :: .int (iI a) :: st) := fun hn9 h hc => x_icmp_gt d ht ha hb (fun z => kt z hn9 h hc) (fun z => kf z hn9 h hc)
theorem l_if_gt {a : Int} {off : Int} {tgt : Nat} (d : decode M.2.1 pc = .ok (.ifCond .gt off, 3)) (ht : (pc : Int) + off = (tgt : Int)) (ha : R32 a) (kt : 0 < a → lW g M t u Q rc rs ad S ft fu tgt ls st) (kf : ¬ 0 < a → lW g M t u Q rc rs ad S ft fu (pc + 3) ls st) : lW g M t u Q rc rs ad S ft fu pc ls (.int (iI a) :: st) := fun hn9 h hc => x_if_gt d ht ha (fun z => kt z hn9 h hc) (fun z => kf z hn9 h hc)
theorem l_icmp_le {a b : Int} {off : Int} {tgt : Nat} (d : decode M.2.1 pc = .ok (.if_icmp .le off, 3)) (ht : (pc : Int) + off = (tgt : Int)) (ha : R32 a) (hb : R32 b) (kt : a ≤ b → lW g M t u Q rc rs ad S ft fu tgt ls st) (kf : ¬ a ≤ b → lW g M t u Q rc rs ad S ft fu (pc + 3) ls st) : lW g M t u Q rc rs ad S ft fu pc ls (.int (iI b) :: .int (iI a) :: st) := fun hn9 h hc => x_icmp_le d ht ha hb (fun z => kt z hn9 h hc) (fun z => kf z hn9 h hc)
theorem l_if_le {a : Int} {off : Int} {tgt : Nat} (d : decode M.2.1 pc = .ok (.ifCond .le off, 3)) (ht : (pc : Int) + off = (tgt : Int)) (ha : R32 a) (kt : a ≤ 0 → lW g M t u Q rc rs ad S ft fu tgt ls st) (kf : ¬ a ≤ 0 → lW g M t u Q rc rs ad S ft fu (pc + 3) ls st) : lW g M t u Q rc rs ad S ft fu pc ls (.int (iI a) :: st) := fun hn9 h hc => x_if_le d ht ha (fun z => kt z hn9 h hc) (fun z => kf z hn9 h hc)
theorem l_goto {off : Int} {tgt : Nat} (d : decode M.2.1 pc = .ok (.goto off, 3)) (ht : (pc : Int) + off = (tgt : Int)) (k : lW g M t u Q rc rs ad S ft fu tgt ls st) : lW g M t u Q rc rs ad S ft fu pc ls st := fun hn9 h hc => x_goto d ht (k hn9 h hc)
theorem l_ifnull {x : Nat} {off : Int} (d : decode M.2.1 pc = .ok (.ifnull off, 3)) (k : lW g M t u Q rc rs ad S ft fu (pc + 3) ls st) : lW g M t u Q rc rs ad S ft fu pc ls (.ref x :: st) := fun hn9 h hc => x_ifnull d (k hn9 h hc)
theorem l_ifnullN {off : Int} {tgt : Nat} (d : decode M.2.1 pc = .ok (.ifnull off, 3)) (ht : (pc : Int) + off = (tgt : Int)) (k : lW g M t u Q rc rs ad S ft fu tgt ls st) : lW g M t u Q rc rs ad S ft fu pc ls (.null :: st) := fun hn9 h hc => x_ifnullN d ht (k hn9 h hc)
theorem l_ifnonnull {x : Nat} {off : Int} {tgt : Nat} (d : decode M.2.1 pc = .ok (.ifnonnull off, 3)) (ht : (pc : Int) + off = (tgt : Int)) (k : lW g M t u Q rc rs ad S ft fu tgt ls st) : lW g M t u Q rc rs ad S ft fu pc ls (.ref x :: st) := fun hn9 h hc => x_ifnonnull d ht (k hn9 h hc)
theorem l_ifnonnullN {off : Int} (d : decode M.2.1 pc = .ok (.ifnonnull off, 3)) (k : lW g M t u Q rc rs ad S ft fu (pc + 3) ls st) : lW g M t u Q rc rs ad S ft fu pc ls (.null :: st) := fun hn9 h hc => x_ifnonnullN d (k hn9 h hc)
theorem l_acmp_eq {rx ry : Option Nat} {vx vy : Value} {off : Int} {tgt : Nat} (d : decode M.2.1 pc = .ok (.if_acmp .eq off, 3)) (ht : (pc : Int) + off = (tgt : Int)) (ex : vx = va_rf rx) (ey : vy = va_rf ry) (kt : rx = ry → lW g M t u Q rc rs ad S ft fu tgt ls st) (kf : ¬ rx = ry → lW g M t u Q rc rs ad S ft fu (pc + 3) ls st) : lW g M t u Q rc rs ad S ft fu pc ls (vy :: vx :: st) := fun hn9 h hc => x_acmp_eq d ht ex ey (fun z => kt z hn9 h hc) (fun z => kf z hn9 h hc)
theorem l_acmp_ne {rx ry : Option Nat} {vx vy : Value} {off : Int} {tgt : Nat} (d : decode M.2.1 pc = .ok (.if_acmp .ne off, 3)) (ht : (pc : Int) + off = (tgt : Int)) (ex : vx = va_rf rx) (ey : vy = va_rf ry) (kt : ¬ rx = ry → lW g M t u Q rc rs ad S ft fu tgt ls st) (kf : rx = ry → lW g M t u Q rc rs ad S ft fu (pc + 3) ls st) : lW g M t u Q rc rs ad S ft fu pc ls (vy :: vx :: st) := fun hn9 h hc => x_acmp_ne d ht ex ey (fun z => kt z hn9 h hc) (fun z => kf z hn9 h hc)
theorem l_istore_n {n : Fin 4} {x : Int32} (d : decode M.2.1 pc = .ok (.istore_n n, 1)) (hn : (n : Nat) < M.2.2.1) (k : lW g M t u Q rc rs ad S ft fu (pc + 1) (ls.set (n : Nat) (some (.int x))) st) : lW g M t u Q rc rs ad S ft fu pc ls (.int x :: st) := fun hn9 h hc => x_istore_n d hn (k hn9 h hc)
theorem l_istore {n : Nat} {x : Int32} (d : decode M.2.1 pc = .ok (.istore n, 2)) (hn : n < M.2.2.1) (k : lW g M t u Q rc rs ad S ft fu (pc + 2) (ls.set n (some (.int x))) st) : lW g M t u Q rc rs ad S ft fu pc ls (.int x :: st) := fun hn9 h hc => x_istore d hn (k hn9 h hc)
theorem l_astore_n {n : Fin 4} {x : Nat} (d : decode M.2.1 pc = .ok (.astore_n n, 1)) (hn : (n : Nat) < M.2.2.1) (k : lW g M t u Q rc rs ad S ft fu (pc + 1) (ls.set (n : Nat) (some (.ref x))) st) : lW g M t u Q rc rs ad S ft fu pc ls (.ref x :: st) := fun hn9 h hc => x_astore_n d hn (k hn9 h hc)
theorem l_astore_nN {n : Fin 4} (d : decode M.2.1 pc = .ok (.astore_n n, 1)) (hn : (n : Nat) < M.2.2.1) (k : lW g M t u Q rc rs ad S ft fu (pc + 1) (ls.set (n : Nat) (some .null)) st) : lW g M t u Q rc rs ad S ft fu pc ls (.null :: st) := fun hn9 h hc => x_astore_nN d hn (k hn9 h hc)
theorem l_astore {n : Nat} {x : Nat} (d : decode M.2.1 pc = .ok (.astore n, 2)) (hn : n < M.2.2.1) (k : lW g M t u Q rc rs ad S ft fu (pc + 2) (ls.set n (some (.ref x))) st) : lW g M t u Q rc rs ad S ft fu pc ls (.ref x :: st) := fun hn9 h hc => x_astore d hn (k hn9 h hc)
theorem l_astoreN {n : Nat} (d : decode M.2.1 pc = .ok (.astore n, 2)) (hn : n < M.2.2.1) (k : lW g M t u Q rc rs ad S ft fu (pc + 2) (ls.set n (some .null)) st) : lW g M t u Q rc rs ad S ft fu pc ls (.null :: st) := fun hn9 h hc => x_astoreN d hn (k hn9 h hc)
theorem l_iinc {n : Nat} {q : Int} {a : Int} (d : decode M.2.1 pc = .ok (.iinc n q, 3)) (hx : ls[n]? = some (some (.int (iI a)))) (hn : n < M.2.2.1) (k : lW g M t u Q rc rs ad S ft fu (pc + 3) (ls.set n (some (.int (iI (a + q))))) st) : lW g M t u Q rc rs ad S ft fu pc ls st := fun hn9 h hc => x_iinc d hx hn (k hn9 h hc)
theorem l_idivI {a b : Int} (d : decode M.2.1 pc = .ok (.idiv, 1)) (ha : 0 ≤ a) (ha2 : R32 a) (hb : 0 < b) (hb2 : R32 b) (k : lW g M t u Q rc rs ad S ft fu (pc + 1) ls (.int (iI (a / b)) :: st)) : lW g M t u Q rc rs ad S ft fu pc ls (.int (iI b) :: .int (iI a) :: st) := fun hn9 h hc => x_idivI d ha ha2 hb hb2 (k hn9 h hc)
theorem l_iremI {a b : Int} (d : decode M.2.1 pc = .ok (.irem, 1)) (ha : 0 ≤ a) (ha2 : R32 a) (hb : 0 < b) (hb2 : R32 b) (k : lW g M t u Q rc rs ad S ft fu (pc + 1) ls (.int (iI (a % b)) :: st)) : lW g M t u Q rc rs ad S ft fu pc ls (.int (iI b) :: .int (iI a) :: st) := fun hn9 h hc => x_iremI d ha ha2 hb hb2 (k hn9 h hc)
theorem l_ishrI {a b : Int} (d : decode M.2.1 pc = .ok (.ishr, 1)) (ha : 0 ≤ a) (ha2 : a < 2147483648) (hb : 0 ≤ b) (hb2 : b < 32) (k : lW g M t u Q rc rs ad S ft fu (pc + 1) ls (.int (iI (a / 2 ^ b.toNat)) :: st)) : lW g M t u Q rc rs ad S ft fu pc ls (.int (iI b) :: .int (iI a) :: st) := fun hn9 h hc => x_ishrI d ha ha2 hb hb2 (k hn9 h hc)
theorem l_ishl1 {b : Int} (d : decode M.2.1 pc = .ok (.ishl, 1)) (hb : 0 ≤ b) (hb2 : b < 31) (k : lW g M t u Q rc rs ad S ft fu (pc + 1) ls (.int (iI (2 ^ b.toNat)) :: st)) : lW g M t u Q rc rs ad S ft fu pc ls (.int (iI b) :: .int (iI 1) :: st) := fun hn9 h hc => x_ishl1 d hb hb2 (k hn9 h hc)
theorem l_iand1 {a : Int} (d : decode M.2.1 pc = .ok (.iand, 1)) (ha : 0 ≤ a) (k : lW g M t u Q rc rs ad S ft fu (pc + 1) ls (.int (iI (a % 2)) :: st)) : lW g M t u Q rc rs ad S ft fu pc ls (.int (iI 1) :: .int (iI a) :: st) := fun hn9 h hc => x_iand1 d ha (k hn9 h hc)
theorem l_inot {a : Int} (d : decode M.2.1 pc = .ok (.ixor, 1)) (k : lW g M t u Q rc rs ad S ft fu (pc + 1) ls (.int (iI (-1 - a)) :: st)) : lW g M t u Q rc rs ad S ft fu pc ls (.int (iI (-1)) :: .int (iI a) :: st) := fun hn9 h hc => x_inot d (k hn9 h hc)
theorem l_iandk {a b : Int} (d : decode M.2.1 pc = .ok (.iand, 1)) (ha : 0 ≤ a) (k : lW g M t u Q rc rs ad S ft fu (pc + 1) ls (.int (iI (bit a b * 2 ^ b.toNat)) :: st)) : lW g M t u Q rc rs ad S ft fu pc ls (.int (iI (2 ^ b.toNat)) :: .int (iI a) :: st) := fun hn9 h hc => x_iandk d ha (k hn9 h hc)
theorem l_iandc {a b : Int} (d : decode M.2.1 pc = .ok (.iand, 1)) (ha : 0 ≤ a) (k : lW g M t u Q rc rs ad S ft fu (pc + 1) ls (.int (iI (bclr a b)) :: st)) : lW g M t u Q rc rs ad S ft fu pc ls (.int (iI (-1 - 2 ^ b.toNat)) :: .int (iI a) :: st) := fun hn9 h hc => x_iandc d ha (k hn9 h hc)
theorem l_iork {a b : Int} (d : decode M.2.1 pc = .ok (.ior, 1)) (ha : 0 ≤ a) (k : lW g M t u Q rc rs ad S ft fu (pc + 1) ls (.int (iI (bset a b)) :: st)) : lW g M t u Q rc rs ad S ft fu pc ls (.int (iI (2 ^ b.toNat)) :: .int (iI a) :: st) := fun hn9 h hc => x_iork d ha (k hn9 h hc)
end LW
