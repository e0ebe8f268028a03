section XL9
variable {g : xG} {M N : xMeth} {Q Q' : qP} {QX QX' : qE} {rc rs : Nat} {h : hp} {pc : Nat} {ls : List (Option Value)} {st : List Value}
theorem x_callSWC {y : MethodName} {wc : Cond} {index n rc' rs' : Nat} {As stk : List Value} (d : decode M.2.1 pc = .ok (.invokestatic index, 3)) (hc : callOkW M N y wc index n) (hs : Cond.static y ∈ lw_tbl) (hM : xM g y wc N As h Q' mN) (hn : As.length = n) (hstk : stk = As.reverse ++ st) (hcat : (st.map fun v => v.category).sum ≤ 8)
    (e1 : rc = rc' + N.2.2.2.2.2.2.cells) (e2 : rs = rs' + N.2.2.2.2.2.2.slots) (kr : ∀ v h', Q' v h' → xW g M Q QX rc' rs' h' (pc + 3) ls (v.toList ++ st)) : xW g M Q QX rc rs h pc ls stk := by
  refine x_runC (QX' := mN) (N := N) (av := As) (index := index) (n := n) (fun p e s m args below meth c H locs lsA cells slots G C0 hh hl' a1 a2 => ?_) e1 e2 kr (fun _ _ z => False.elim z)
  have hW := C0.2.2.2.2.2.2.2.2.1
  obtain ⟨k1, k2, k3, k4, k5, k6, k7, k8⟩ := hc
  have hg : goodWord wc = true := by rw [k1]; rfl
  exact vx_runSX (bytes := N.2.1) (maxL := N.2.2.1) (ret := N.2.2.2.1) (hh := N.2.2.2.2.2.1) (ws := [wc]) (rm := N.2.2.2.2.2.2) (Ts := []) (own := M.1) (n := n) ⟨C0.1, C0.2.1, C0.2.2.1, C0.2.2.2.2.2.2.2.1, fun w hw => by cases hw⟩ hM
    ⟨⟨rfl, rfl, k7, k8, fun w hw a' U hU => by rw [List.mem_singleton.mp hw]; exact word_at hU (good_of_word hg) (wd (args := args) G hW k2 hg), by rw [k1]; exact List.mem_cons_self⟩, by rw [← k1]; exact wd G hW k2 hg, wd G hW k4 rfl, k5, fun sig h9 => by rw [h9] at k6; exact (Option.some.inj k6).symm, wd G hW k3 rfl, wd G hW hs rfl⟩ ⟨blind _, pcAt G hW hh⟩ rfl hn (by rw [← C0.2.2.1]; exact hl'.1.trans C0.2.2.1.symm) hstk (lv_room (m := m) (pc := pc) (ls := lsA) (rest := stk) hcat) d ⟨by omega, by omega⟩
theorem x_callIC {y : MethodName} {wc : Cond} {index n rc' rs' b : Nat} {As stk : List Value} (d : decode M.2.1 pc = .ok (.invokespecial index, 3)) (hret : N.2.2.2.1 = none) (hc : callOk M N y wc index n) (hi : Cond.instanceMethod y ∈ lw_tbl) (hy : y.name = "<init>") (hM : xM g y wc N (.ref b :: As) h Q' mN) (hn : As.length = n) (hstk : stk = As.reverse ++ .ref b :: st) (hcat : (st.map fun v => v.category).sum ≤ 8)
    (e1 : rc = rc' + N.2.2.2.2.2.2.cells) (e2 : rs = rs' + N.2.2.2.2.2.2.slots) (kr : ∀ v h', Q' v h' → xW g M Q QX rc' rs' h' (pc + 3) ls (v.toList ++ st)) : xW g M Q QX rc rs h pc ls stk := by
  refine x_runC (QX' := mN) (N := N) (av := .ref b :: As) (index := index) (n := n) (fun p e s m args below meth c H locs lsA cells slots G C0 hh hl' a1 a2 => ?_) e1 e2 kr (fun _ _ z => False.elim z)
  have hW := C0.2.2.2.2.2.2.2.2.1
  have hB := callB (args := args) G hW hc
  rw [hret] at hB
  exact vx_runI (bytes := N.2.1) (maxL := N.2.2.1) (ws := [wc]) (rm := N.2.2.2.2.2.2) (Ts := []) (own := M.1) (n := n) ⟨C0.1, C0.2.1, C0.2.2.1, C0.2.2.2.2.2.2.2.1, fun w hw => by cases hw⟩ hM ⟨hB, hy, wd G hW hi rfl⟩ ⟨blind _, pcAt G hW hh⟩ rfl hn (by rw [← C0.2.2.1]; exact hl'.1.trans C0.2.2.1.symm) hstk (lv_room (m := m) (pc := pc) (ls := lsA) (rest := stk) hcat) d ⟨by omega, by omega⟩
/-- the script's cell -/
theorem x_sld {b L : Nat} {xs : Nat → Int32} {i : Int} (hX : va_X b L xs g.2.1 g.2.1.heap) (hb : b < g.2.1.heap.size) (hL : L ≤ 2560) (h0 : 0 ≤ i) (h1 : i < L) (d : decode M.2.1 pc = .ok (.iaload, 1)) (kk : xW g M Q QX rc rs h (pc + 1) ls (.int (iI (xs i.toNat).toInt) :: st)) : xW g M Q QX rc rs h pc ls (.int (iI i) :: .ref b :: st) := by
  intro G p e s m args below meth c H locs lsA cells slots C0 hh hl' a1 a2
  obtain ⟨ws, hS, hP, hD, hV⟩ := id hh
  have hW := C0.2.2.2.2.2.2.2.2.1
  refine va_sld C0.1 C0.2.1 (hX.moved hW.alike) hb (by show ¬ g.2.1.heap.size ≤ b; omega) hS (iI_in (by omega) h0 h1) d ?_
  rw [iI_cl ⟨by omega, by omega⟩, show xs i.toNat = iI (xs i.toNat).toInt from (Int32.ofInt_toInt _).symm]
  have e9 : (iI (xs i.toNat).toInt).toInt = (xs i.toNat).toInt := by rw [show iI (xs i.toNat).toInt = xs i.toNat from Int32.ofInt_toInt _]
  exact kk G p e s m args below meth c H locs lsA cells slots C0 hh hl' a1 a2
theorem x_slen {b L : Nat} {xs : Nat → Int32} (hX : va_X b L xs g.2.1 g.2.1.heap) (hb : b < g.2.1.heap.size) (d : decode M.2.1 pc = .ok (.arraylength, 1)) (kk : xW g M Q QX rc rs h (pc + 1) ls (.int (iI (L : Int)) :: st)) : xW g M Q QX rc rs h pc ls (.ref b :: st) := by
  intro G p e s m args below meth c H locs lsA cells slots C0 hh hl' a1 a2
  obtain ⟨ws, hS, hP, hD, hV⟩ := id hh
  have hW := C0.2.2.2.2.2.2.2.2.1
  exact va_slen C0.1 C0.2.1 (hX.moved hW.alike) hb (by show ¬ g.2.1.heap.size ≤ b; omega) hS d (kk G p e s m args below meth c H locs lsA cells slots C0 hh hl' a1 a2)
theorem x_tabOut {dflt lo hi : Int} {offs : Array Int} {len tgt : Nat} {x : Int32} (d : decode M.2.1 pc = .ok (.tableswitch dflt lo hi offs, len)) (hx : x.toInt < lo ∨ hi < x.toInt) (ht : (pc : Int) + dflt = (tgt : Int)) (kk : xW g M Q QX rc rs h tgt ls st) : xW g M Q QX rc rs h pc ls (.int x :: st) := fun G p e s m args below meth c H locs lsA cells slots C0 hh hl' a1 a2 => lv_tableOut C0.1 C0.2.1 d hx ht (kk G p e s m args below meth c H locs lsA cells slots C0 hh hl' a1 a2)
theorem x_tabIn {dflt lo hi off : Int} {offs : Array Int} {len tgt : Nat} {x : Int32} (d : decode M.2.1 pc = .ok (.tableswitch dflt lo hi offs, len)) (h1 : ¬ x.toInt < lo) (h2 : ¬ hi < x.toInt) (ho : offs[(x.toInt - lo).toNat]? = some off) (ht : (pc : Int) + off = (tgt : Int)) (kk : xW g M Q QX rc rs h tgt ls st) : xW g M Q QX rc rs h pc ls (.int x :: st) := fun G p e s m args below meth c H locs lsA cells slots C0 hh hl' a1 a2 => lv_tableIn C0.1 C0.2.1 d h1 h2 ho ht (kk G p e s m args below meth c H locs lsA cells slots C0 hh hl' a1 a2)
end XL9
theorem lg_cmp_self (x : Int64) : lg_cmp x x = iI 0 := by
  unfold lg_cmp
  simp
  try rfl
/-- both sides stand: the class over S, the reference over S in K, the answers' cell -/
def LInv (g : xG) (mo out : Nat) (adm : Nat → Nat) (h : hp) : Prop := ∃ (ad : cA) (S : gS) (K : hp) (o : Nat → Int64) (tt : Int), cls g (hset K out (larr g 1 o)) ad S h ∧ mdl g mo adm tt S K ∧ K out = none ∧ IV S ∧ Ext S
/-- the reference stands in the heap -/
theorem mdl_in {g : xG} {mo out : Nat} {adm : Nat → Nat} {K h : hp} {ad : cA} {S S' : gS} {tt : Int} {e : va_E} (hc : cls g (hset K out e) ad S' h) (hm : mdl g mo adm tt S K) (hK : K out = none) : mdl g mo adm tt S h := by
  have up : ∀ a x, K a = some x → h a = some x := fun a x hx => hc.2.2.1 a x (by
    rw [hset_n _ _ (fun z => by rw [z, hK] at hx; cases hx)]
    exact hx)
  exact ⟨up _ _ hm.1, fun k hk => up _ _ (hm.2.1 k hk), hm.2.2⟩
theorem mdl_agr {g : xG} {mo : Nat} {adm : Nat → Nat} {h : hp} {S T : gS} {tt : Int} (hm : mdl g mo adm tt T h) (ha : agr S T) : mdl g mo adm tt S h := by
  refine ⟨?_, fun k hk => ?_, hm.2.2⟩
  · rw [hm.1]
    unfold mobj
    rw [ha 3 (by decide), ha 6 (by decide), ha 11 (by decide), ha 23 (by decide)]
  · rw [hm.2.1 k hk, ha k (misA_lt hk)]
/-- what K holds, as it stands in h -/
def rst (K h : hp) : hp := fun a => match K a with
  | none => none
  | some _ => h a
theorem turn_end {g : xG} {mo out : Nat} {adm : Nat → Nat} {K h9 h11 : hp} {ad9 : cA} {S0 S9 S' : gS} {tt0 t' : Int} {o1 : Nat → Int64} (hc : cls g (hset K out (larr g 1 o1)) ad9 S9 h9) (hm0 : mdl g mo adm tt0 S0 K) (hK : K out = none) (hm : mdl g mo adm t' S' h11) (hf : mfr mo adm h9 h11) (ha : agr S9 S') (hV : IV S9) (hE : Ext S9) : LInv g mo out adm h11 := by
  have hn : ∀ a, K a = none → h11 a = h9 a := fun a hk => hf a (fun z => by rw [z, hm0.1] at hk; cases hk) (fun k hk2 z => by rw [z, hm0.2.1 k hk2] at hk; cases hk)
  have hr : ∀ a, K a = none → rst K h11 a = none := fun a hk => by unfold rst; rw [hk]
  have hs : ∀ a x, K a = some x → rst K h11 a = h11 a := fun a x hk => by unfold rst; rw [hk]
  refine ⟨ad9, S9, rst K h11, o1, t', ⟨fun k i hk hl => ?_, hc.2.1, fun a x hx => ?_, hc.2.2.2⟩, ?_, hr _ hK, hV, hE⟩
  · have q := hc.1 k i hk hl
    have hno : ad9 k i ≠ out := fun z => by
      have := q.2.1
      rw [z, hset_s] at this; cases this
    have q2 := q.2.1
    rw [hset_n _ _ hno] at q2
    rw [hn _ q2, hset_n _ _ hno, hr _ q2]
    exact ⟨q.1, rfl, q.2.2⟩
  · by_cases z : a = out
    · subst z
      rw [hset_s] at hx
      rw [hn _ hK]
      exact (hc.2.2.1 a (larr g 1 o1) (hset_s _ _ _)).trans hx
    · rw [hset_n _ _ z] at hx
      cases hk : K a with
      | none => rw [hr a hk] at hx; cases hx
      | some y => rw [hs a y hk] at hx; exact hx
  · refine mdl_agr (T := S') ⟨?_, fun k hk => ?_, hm.2.2⟩ ha
    · rw [hs _ _ hm0.1]; exact hm.1
    · rw [hs _ _ (hm0.2.1 k hk)]; exact hm.2.1 k hk
