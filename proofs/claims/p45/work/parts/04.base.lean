/-! A JUDGEMENT OF ITS OWN over the kit's W: the heap as a function from addresses to known cells, ints as images of integers, what is left of the room as two numbers. -/
abbrev hp : Type := Nat → Option va_E
def hset (h : hp) (a : Nat) (e : va_E) : hp := fun q => if q = a then some e else h q
theorem hset_s (h : hp) (a : Nat) (e : va_E) : hset h a e a = some e := if_pos rfl
theorem hset_n (h : hp) {a q : Nat} (e : va_E) (hq : q ≠ a) : hset h a e q = h q := if_neg hq
def vw (h : hp) (ws : va_W) : Prop := ∀ a e, h a = some e → (a, e) ∈ ws
def iI (z : Int) : Int32 := Int32.ofInt z
def R32 (z : Int) : Prop := -2147483648 ≤ z ∧ z < 2147483648
theorem iI_toInt {z : Int} (h : R32 z) : (iI z).toInt = z := Int32.toInt_ofInt_of_le h.1 h.2
theorem iI_of (x : Int32) : ∃ z : Int, R32 z ∧ x = iI z := ⟨x.toInt, ⟨x.le_toInt, x.toInt_lt⟩, x.ofInt_toInt.symm⟩
theorem iI_inj {a b : Int} (ha : R32 a) (hb : R32 b) (h : iI a = iI b) : a = b := by
  have := congrArg Int32.toInt h
  rwa [iI_toInt ha, iI_toInt hb] at this
theorem iI_eq {a b : Int} (ha : R32 a) (hb : R32 b) : iI a = iI b ↔ a = b := ⟨iI_inj ha hb, fun h => by rw [h]⟩
theorem iI_le {a b : Int} (ha : R32 a) (hb : R32 b) : iI a ≤ iI b ↔ a ≤ b := by rw [Int32.le_iff_toInt_le, iI_toInt ha, iI_toInt hb]
theorem iI_lt {a b : Int} (ha : R32 a) (hb : R32 b) : iI a < iI b ↔ a < b := by rw [Int32.lt_iff_toInt_lt, iI_toInt ha, iI_toInt hb]
theorem R32_0 : R32 0 := ⟨by omega, by omega⟩
theorem iI_cl {z : Int} (h : R32 z) : (iI z).toNatClampNeg = z.toNat := Int32.toNatClampNeg_ofInt_of_le h.1 h.2
theorem iI_in {z : Int} {n : Nat} (hn : n < 2147483648) (h0 : 0 ≤ z) (h1 : z < n) : vp_in (iI z) n := by
  have hR : R32 z := ⟨by omega, by omega⟩
  rintro (h | h)
  · have := (iI_lt hR R32_0).mp h
    omega
  · rw [iI_cl hR] at h
    omega
-- the launch; the state at the law's entry; the script's address; classes and slots; array classes: int, boolean, long, Object, Container
abbrev xG : Type := Launch × State × Nat × va_G × (Nat → ClassId)
abbrev gA (g : xG) : Nat → Prop := fun q => g.2.1.heap.size ≤ q
abbrev gT (g : xG) : List (ClassId × FieldType) := [(g.2.2.2.2 0, .int), (g.2.2.2.2 1, .int), (g.2.2.2.2 2, .int), (g.2.2.2.2 3, .object "java/lang/Object"), (g.2.2.2.2 4, .object "ContainerHost$Container")]
def gWords (g : xG) : Prop := ∀ w ∈ lw_tbl, w.before #[Value.ref g.2.2.1] g.2.1 = true
def gOk (g : xG) : Prop := g.1.stackTraces = false ∧ gWords g ∧ va_K g.2.2.2.1 vwCl (gT g) g.2.1 ∧ vx_Zq Bundle.tN "UNASSIGNED_STACK" Bundle.steD (gA g) g.2.1 g.2.1.heap ∧ vx_Zq Bundle.tN "SUPPRESSED_SENTINEL" Bundle.listD (gA g) g.2.1 g.2.1.heap ∧ (∀ own k tx, Cond.stringRef own k tx ∈ lw_tbl → ∃ a, vk_R own k tx a g.2.1)
-- a method: its class, code, locals, return type, name, table of handlers, room
abbrev xMeth : Type := String × ByteArray × Nat × Option FieldType × String × List (Nat × Nat × Nat × Nat) × Room
def xC (g : xG) (M : xMeth) (p : Program) (s : State) (m : MethodId) (meth : Method) (c : Code) : Prop :=
  p.tables.exec = Jvm.exec ∧ c.code = M.2.1 ∧ c.maxLocals = M.2.2.1 ∧ meth.sig.returnType = M.2.2.2.1 ∧ meth.name = M.2.2.2.2.1 ∧ meth.locks = false ∧ c.exceptionTable.toList = tableOf M.2.2.2.2.2.1 ∧ s.vm.findClass M.1 = some m.cls ∧ g.2.1.WarmedH s.vm ∧ va_S (gA g) g.2.1.heap s.heap []
def xHp (g : xG) (h : hp) (H : Heap) (locs : List Loc) : Prop := ∃ ws : va_W, va_S (gA g) g.2.1.heap H locs ∧ va_P g.2.2.2.1 vwCl ws H ∧ va_D (gA g) ws ∧ vw h ws
def xL (lsA : Array Slot) (nL : Nat) (ls : List (Option Value)) : Prop := lsA.size = nL ∧ lv_wf lsA ∧ ∀ (i : Nat) (v : Value), ls[i]? = some (some v) → v.category = 1 ∧ lsA[i]? = some (Slot.val v)
abbrev qP : Type := Option Value → hp → Prop
abbrev qE : Type := String → hp → Prop
def qC (g : xG) (Q : qP) : Array Value → State → Outcome → State → Prop := fun _ _ oc t => ∃ v h', oc = .returned v ∧ Q v h' ∧ xHp g h' t.heap []
def qX (g : xG) (QX : qE) : String → State → State → Prop := fun E _ t => ∃ h', QX E h' ∧ xHp g h' t.heap []
def xW (g : xG) (M : xMeth) (Q : qP) (QX : qE) (rc rs : Nat) (h : hp) (pc : Nat) (ls : List (Option Value)) (st : List Value) : Prop :=
  gOk g → ∀ (p : Program) (e : Env) (s : State) (m : MethodId) (args : Array Value) (below : List Frame) (meth : Method) (c : Code) (H : Heap) (locs : List Loc) (lsA : Array Slot) (cells slots : Nat),
    xC g M p s m meth c → xHp g h H locs → xL lsA M.2.2.1 ls → cells + rc ≤ M.2.2.2.2.2.2.cells → slots + rs ≤ M.2.2.2.2.2.2.slots →
    W p g.1 e M.2.2.2.2.2.2 s m args below meth c H locs cells slots (vx_MQ below (qC g Q) (qX g QX) args s M.2.2.2.2.2.2.cells M.2.2.2.2.2.2.slots (gA g)) (F0 m pc lsA st)
def xPc (g : xG) (h : hp) : State → Prop := fun U => gOk g ∧ g.2.1.WarmedH U.vm ∧ xHp g h U.heap []
def xM (g : xG) (y : MethodName) (wc : Cond) (M : xMeth) (av : List Value) (h : hp) (Q : qP) (QX : qE) : Prop :=
  vx_Met g.1 y [wc] M.2.2.2.2.2.2 (va_Pc av (xPc g h)) (qC g Q) (qX g QX) M.2.2.2.2.2.2.cells M.2.2.2.2.2.2.slots (gA g)
section XB
variable {g : xG} {M : xMeth} {Q : qP} {QX : qE} {rc rs : Nat} {h : hp} {pc : Nat} {ls : List (Option Value)} {st : List Value}
theorem xW.mono {rc' rs' : Nat} (k : xW g M Q QX rc rs h pc ls st) (h1 : rc ≤ rc') (h2 : rs ≤ rs') : xW g M Q QX rc' rs' h pc ls st :=
  fun G p e s m args below meth c H locs lsA cells slots C hh hl a1 a2 => k G p e s m args below meth c H locs lsA cells slots C hh hl (by omega) (by omega)
theorem wd {w : Cond} {s : State} {args : Array Value} (G : gOk g) (hW : g.2.1.WarmedH s.vm) (hm : w ∈ lw_tbl) (hg : goodWord w = true) : w.before args s = true := word_at hW (good_of_word hg) (G.2.1 w hm)
theorem u_good (C : String) (T : u_T) (N : Nat) : ∀ w ∈ u_ws C T N, goodWord w = true := by
  intro w hw
  obtain ⟨k, -, rfl⟩ := List.mem_map.mp hw
  unfold u_lay
  split <;> rfl
theorem wds {s : State} {args : Array Value} {C : String} {T : u_T} {N : Nat} (G : gOk g) (hW : g.2.1.WarmedH s.vm) (hin : ∀ w ∈ u_ws C T N, w ∈ lw_tbl) : ∀ w ∈ u_ws C T N, w.before args s = true := fun w hw => wd G hW (hin w hw) (u_good C T N w hw)
theorem gK {s : State} (G : gOk g) (hW : g.2.1.WarmedH s.vm) : va_K g.2.2.2.1 vwCl (gT g) s := va_K.moved hW.alike G.2.2.1
theorem mt {i : Nat} {w : Cond} (h : tables_1[i]? = some w) : w ∈ lw_tbl := List.mem_append_right _ (List.mem_of_getElem? h)
theorem ms {i : Nat} {q : MethodName × Nat} (h : lw_privs[i]? = some q) : Cond.selects q.1.cls q.1 q.1 ∈ lw_tbl := List.mem_append_left _ (List.mem_map.mpr ⟨q, List.mem_of_getElem? h, rfl⟩)
-- locals
theorem xL.set {lsA : Array Slot} {nL : Nat} {i : Nat} {v : Value} (hl : xL lsA nL ls) (hi : i < nL) (hv : v.category = 1) : ∃ lsB, storeLocals lsA i v = some lsB ∧ xL lsB nL (ls.set i (some v)) := by
  obtain ⟨lsB, e1, h1⟩ := lv_store1 (l := []) (v := v) ⟨hl.1, hl.2.1, fun q hq => by cases hq⟩ hi hv
  refine ⟨lsB, e1, h1.1, h1.2.1, fun j w hj => ?_⟩
  by_cases hji : i = j
  · subst hji
    have hlt : i < ls.length := by
      have := (List.getElem?_eq_some_iff.mp hj).1
      simpa using this
    rw [List.getElem?_set_self hlt] at hj
    cases hj
    exact ⟨hv, h1.2.2 (i, v) List.mem_cons_self⟩
  · rw [List.getElem?_set_ne hji] at hj
    obtain ⟨c1, c2⟩ := hl.2.2 j w hj
    obtain ⟨lsC, e2, h2⟩ := lv_store1 (l := [(j, w)]) (v := v) ⟨hl.1, hl.2.1, fun q hq => by rw [List.mem_singleton.mp hq]; exact c2⟩ hi hv
    cases Option.some.inj (e1.symm.trans e2)
    refine ⟨c1, h2.2.2 (j, w) (List.mem_cons_of_mem _ (List.mem_filter.mpr ⟨List.mem_singleton.mpr rfl, ?_⟩))⟩
    have : ¬ j = i := fun q => hji q.symm
    simp [this, c1]
theorem xL.has {lsA : Array Slot} {nL : Nat} (hl : xL lsA nL ls) : lv_has lsA nL [] := ⟨hl.1, hl.2.1, fun q hq => by cases hq⟩
end XB
