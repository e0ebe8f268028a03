/-! the rules that touch the heap: fields, arrays, makings; entry and ends of a method; calls; throws -/
theorem vw_set {h : hp} {ws : va_W} {q0 a : Nat} {e e' : va_E} (hV : vw h ws) (he : ws[q0]? = some (a, e)) : vw (hset h a e') (ws.set q0 (a, e')) := by
  have hlt : q0 < ws.length := (List.getElem?_eq_some_iff.mp he).1
  intro b x hb
  by_cases hba : b = a
  · subst hba
    rw [hset_s] at hb
    cases hb
    exact List.mem_of_getElem? (i := q0) (by rw [List.getElem?_set_self hlt])
  · rw [hset_n h e' hba] at hb
    obtain ⟨i, hi⟩ := List.getElem?_of_mem (hV b x hb)
    have hne : q0 ≠ i := by
      rintro rfl
      rw [he] at hi
      cases hi
      exact hba rfl
    exact List.mem_of_getElem? (i := i) (by rw [List.getElem?_set_ne hne]; exact hi)
theorem vw_push {h : hp} {ws : va_W} {q : Nat} {e : va_E} (hV : vw h ws) : vw (hset h q e) (ws ++ [(q, e)]) := by
  intro b x hb
  by_cases hba : b = q
  · subst hba
    rw [hset_s] at hb
    cases hb
    exact List.mem_append_right _ (List.mem_singleton.mpr rfl)
  · rw [hset_n h e hba] at hb
    exact List.mem_append_left _ (hV b x hb)
theorem vw_fresh {A : Nat → Prop} {h : hp} {ws : va_W} {q : Nat} {e : va_E} (hV : vw h ws) (hD : va_D A (ws ++ [(q, e)])) : h q = none := by
  cases hq : h q with
  | none => rfl
  | some x =>
    obtain ⟨i, hi⟩ := List.getElem?_of_mem (hV q x hq)
    have hlt : i < ws.length := (List.getElem?_eq_some_iff.mp hi).1
    have h1 : (ws ++ [(q, e)])[i]? = some (q, x) := by rw [List.getElem?_append_left hlt]; exact hi
    have h2 : (ws ++ [(q, e)])[ws.length]? = some (q, e) := by rw [List.getElem?_append_right (Nat.le_refl _), Nat.sub_self]; rfl
    have := hD.1 i ws.length (q, x) (q, e) h1 h2 rfl
    omega
-- an array of ints (booleans) as a function of integers
abbrev iarr (g : xG) (n : Nat) (f : Int → Int) : va_E := .inl (g.2.2.2.2 0, n, .inl (fun j => iI (f (j : Int))))
abbrev zarr (g : xG) (n : Nat) (f : Int → Int) : va_E := .inl (g.2.2.2.2 1, n, .inl (fun j => iI (f (j : Int))))
abbrev larr (g : xG) (n : Nat) (f : Nat → Int64) : va_E := .inl (g.2.2.2.2 2, n, .inr (.inl f))
abbrev oarr (g : xG) (n : Nat) (f : Nat → Option Nat) : va_E := .inl (g.2.2.2.2 3, n, .inr (.inr (.inr (.inr f))))
abbrev carr (g : xG) (n : Nat) (f : Nat → Option Nat) : va_E := .inl (g.2.2.2.2 4, n, .inr (.inr (.inr (.inr f))))
def fset (f : Int → Int) (i v : Int) : Int → Int := fun j => if j = i then v else f j
theorem fset_fun (f : Int → Int) {i : Int} (v : Int) (hi : 0 ≤ i) : upd (fun j : Nat => iI (f (j : Int))) i.toNat (iI v) = fun j : Nat => iI (fset f i v (j : Int)) := by
  funext j
  unfold upd fset
  by_cases hj : j = i.toNat
  · rw [if_pos hj, if_pos (by omega)]
  · rw [if_neg hj, if_neg (by omega)]
section XH
variable {g : xG} {M : xMeth} {Q : qP} {QX : qE} {rc rs : Nat} {h : hp} {pc : Nat} {ls : List (Option Value)} {st : List Value}
theorem xsame {own ref dcl nm ds : String} {s : State} {args : Array Value} (G : gOk g) (hW : g.2.1.WarmedH s.vm) (hsm : ref = dcl ∨ Cond.sameField ref dcl nm ds ∈ lw_tbl) : ∀ x, s.fieldFound? dcl nm ds = some x → s.fieldFound? ref nm ds = some x := by
  intro x hx
  rcases hsm with e | e
  · rw [e]; exact hx
  · exact u_same (args := args) (wd G hW e rfl) x hx
theorem x_get {C ref : String} {T : u_T} {N ci index a k : Nat} {fs : List Value} {v : Value} (d : decode M.2.1 pc = .ok (.getfield index, 3)) (hin : ∀ w ∈ u_ws C T N, w ∈ lw_tbl) (hc : vwCl[ci]? = some (C, T, N)) (hk : k < N) (hl : Cond.fieldLink M.1 index ref (T k).2.1 (T k).2.2.1 ∈ lw_tbl) (hsm : ref = (T k).1 ∨ Cond.sameField ref (T k).1 (T k).2.1 (T k).2.2.1 ∈ lw_tbl)
    (ha : h a = some (.inr (ci, fs))) (hv : fs[k]? = some v) (kk : xW g M Q QX rc rs h (pc + 3) ls (v :: st)) : xW g M Q QX rc rs h pc ls (.ref a :: st) := by
  intro G p e s m args below meth c H locs lsA cells slots C0 hh hl' a1 a2
  obtain ⟨ws, hS, hP, hD, hV⟩ := id hh
  obtain ⟨hx, hb, hml, hr, hn, hlk, ht, hown, hW, hS0⟩ := id C0
  obtain ⟨q0, he⟩ := List.getElem?_of_mem (hV a _ ha)
  exact va_get (Ts := u_ws C T N) hx hb (wds G hW hin) (fun w h => h) hown (gK G hW) hP q0 he hc k hk (wd G hW hl rfl) (xsame (own := M.1) (args := args) G hW hsm) hv d (kk G p e s m args below meth c H locs lsA cells slots C0 hh hl' a1 a2)
theorem x_put {C ref : String} {T : u_T} {ty0 : Nat → FieldType} {N ci index a k : Nat} {fs : List Value} {v : Value} (d : decode M.2.1 pc = .ok (.putfield index, 3)) (hin : ∀ w ∈ u_ws C T N, w ∈ lw_tbl) (hty : ∀ k, k < N → parseFieldDescriptor (T k).2.2.1 = some (ty0 k)) (hnm : ∀ a, a < N → ∀ b, b < N → a ≠ b → (T a).2.1 ≠ (T b).2.1) (hc : vwCl[ci]? = some (C, T, N)) (hk : k < N) (hl : Cond.fieldLink M.1 index ref (T k).2.1 (T k).2.2.1 ∈ lw_tbl) (hsm : ref = (T k).1 ∨ Cond.sameField ref (T k).1 (T k).2.1 (T k).2.2.1 ∈ lw_tbl)
    (hfin : (T k).2.2.2 = false) (hn : narrow (ty0 k) v = v) (hfit : fits (ty0 k) v = true) (ha : h a = some (.inr (ci, fs))) (hlen : k < fs.length) (kk : xW g M Q QX rc rs (hset h a (.inr (ci, fs.set k v))) (pc + 3) ls st) : xW g M Q QX rc rs h pc ls (v :: .ref a :: st) := by
  intro G p e s m args below meth c H locs lsA cells slots C0 hh hl' a1 a2
  obtain ⟨ws, hS, hP, hD, hV⟩ := id hh
  obtain ⟨hx, hb, hml, hr, hn', hlk, ht, hown, hW, hS0⟩ := id C0
  obtain ⟨q0, he⟩ := List.getElem?_of_mem (hV a _ ha)
  exact va_put (Ts := u_ws C T N) hx hb (wds G hW hin) (fun w h => h) ty0 hty hnm hown (gK G hW) hP hD hS q0 he hc k hk (wd G hW hl rfl) (xsame (own := M.1) (args := args) G hW hsm) hfin (hty k hk) hn hfit hlen d
    (fun H1 locs1 hP1 hD1 hS1 => kk G p e s m args below meth c H1 locs1 lsA cells slots C0 ⟨_, hS1, hP1, hD1, vw_set hV he⟩ hl' a1 a2)
theorem x_putF {C ref : String} {T : u_T} {ty0 : Nat → FieldType} {N ci index a k : Nat} {fs : List Value} {v : Value} (d : decode M.2.1 pc = .ok (.putfield index, 3)) (hin : ∀ w ∈ u_ws C T N, w ∈ lw_tbl) (hty : ∀ k, k < N → parseFieldDescriptor (T k).2.2.1 = some (ty0 k)) (hnm : ∀ a, a < N → ∀ b, b < N → a ≠ b → (T a).2.1 ≠ (T b).2.1) (hc : vwCl[ci]? = some (C, T, N)) (hk : k < N) (hl : Cond.fieldLink M.1 index ref (T k).2.1 (T k).2.2.1 ∈ lw_tbl) (hsm : ref = (T k).1 ∨ Cond.sameField ref (T k).1 (T k).2.1 (T k).2.2.1 ∈ lw_tbl)
    (hfin : (T k).2.2.2 = true) (hini : M.2.2.2.2.1 = "<init>") (hdecl : (T k).1 = M.1) (hn : narrow (ty0 k) v = v) (hfit : fits (ty0 k) v = true) (ha : h a = some (.inr (ci, fs))) (hlen : k < fs.length) (kk : xW g M Q QX rc rs (hset h a (.inr (ci, fs.set k v))) (pc + 3) ls st) : xW g M Q QX rc rs h pc ls (v :: .ref a :: st) := by
  intro G p e s m args below meth c H locs lsA cells slots C0 hh hl' a1 a2
  obtain ⟨ws, hS, hP, hD, hV⟩ := id hh
  obtain ⟨hx, hb, hml, hr, hn', hlk, ht, hown, hW, hS0⟩ := id C0
  obtain ⟨q0, he⟩ := List.getElem?_of_mem (hV a _ ha)
  exact va_putF (Ts := u_ws C T N) hx hb (wds G hW hin) (fun w h => h) ty0 hty hnm hown (gK G hW) hP hD hS q0 he hc k hk (wd G hW hl rfl) (xsame (own := M.1) (args := args) G hW hsm) hfin (hn'.trans hini) hdecl (hty k hk) hn hfit hlen d
    (fun H1 locs1 hP1 hD1 hS1 => kk G p e s m args below meth c H1 locs1 lsA cells slots C0 ⟨_, hS1, hP1, hD1, vw_set hV he⟩ hl' a1 a2)
theorem x_iald {a n : Nat} {f : Int → Int} {i : Int} (d : decode M.2.1 pc = .ok (.iaload, 1)) (ha : h a = some (iarr g n f)) (hn : n < 2147483648) (h0 : 0 ≤ i) (h1 : i < n) (kk : xW g M Q QX rc rs h (pc + 1) ls (.int (iI (f i)) :: st)) : xW g M Q QX rc rs h pc ls (.int (iI i) :: .ref a :: st) := by
  intro G p e s m args below meth c H locs lsA cells slots C0 hh hl' a1 a2
  obtain ⟨ws, hS, hP, hD, hV⟩ := id hh
  obtain ⟨q0, he⟩ := List.getElem?_of_mem (hV a _ ha)
  refine va_iald C0.1 C0.2.1 (gK G C0.2.2.2.2.2.2.2.2.1) hP q0 0 he rfl (iI_in hn h0 h1) d ?_
  rw [iI_cl ⟨by omega, by omega⟩, Int.toNat_of_nonneg h0]
  exact kk G p e s m args below meth c H locs lsA cells slots C0 hh hl' a1 a2
theorem x_iast {a n : Nat} {f : Int → Int} {i v : Int} (d : decode M.2.1 pc = .ok (.iastore, 1)) (ha : h a = some (iarr g n f)) (hn : n < 2147483648) (h0 : 0 ≤ i) (h1 : i < n) (kk : xW g M Q QX rc rs (hset h a (iarr g n (fset f i v))) (pc + 1) ls st) : xW g M Q QX rc rs h pc ls (.int (iI v) :: .int (iI i) :: .ref a :: st) := by
  intro G p e s m args below meth c H locs lsA cells slots C0 hh hl' a1 a2
  obtain ⟨ws, hS, hP, hD, hV⟩ := id hh
  obtain ⟨q0, he⟩ := List.getElem?_of_mem (hV a _ ha)
  refine va_iast C0.1 C0.2.1 (gK G C0.2.2.2.2.2.2.2.2.1) hP hD hS q0 0 he rfl (iI_in hn h0 h1) d ?_
  rw [iI_cl ⟨by omega, by omega⟩, fset_fun f v h0]
  exact fun H1 locs1 hP1 hD1 hS1 => kk G p e s m args below meth c H1 locs1 lsA cells slots C0 ⟨_, hS1, hP1, hD1, vw_set hV he⟩ hl' a1 a2
-- rows of references: t is the kind: 3 for Object, 4 for Container
theorem x_aald {a n t : Nat} {C : String} {f : Nat → Option Nat} {i : Int} (ht : (gT g)[t]? = some (g.2.2.2.2 t, .object C)) (d : decode M.2.1 pc = .ok (.aaload, 1)) (ha : h a = some (.inl (g.2.2.2.2 t, n, .inr (.inr (.inr (.inr f)))))) (hn : n < 2147483648) (h0 : 0 ≤ i) (h1 : i < n) (kk : xW g M Q QX rc rs h (pc + 1) ls (va_rf (f i.toNat) :: st)) : xW g M Q QX rc rs h pc ls (.int (iI i) :: .ref a :: st) := by
  intro G p e s m args below meth c H locs lsA cells slots C0 hh hl' a1 a2
  obtain ⟨ws, hS, hP, hD, hV⟩ := id hh
  obtain ⟨q0, he⟩ := List.getElem?_of_mem (hV a _ ha)
  refine va_aldq C0.1 C0.2.1 (gK G C0.2.2.2.2.2.2.2.2.1) hP q0 t he ht (iI_in hn h0 h1) d ?_
  rw [iI_cl ⟨by omega, by omega⟩]
  exact kk G p e s m args below meth c H locs lsA cells slots C0 hh hl' a1 a2
theorem x_aastN {a n t : Nat} {C : String} {f : Nat → Option Nat} {i : Int} (ht : (gT g)[t]? = some (g.2.2.2.2 t, .object C)) (d : decode M.2.1 pc = .ok (.aastore, 1)) (ha : h a = some (.inl (g.2.2.2.2 t, n, .inr (.inr (.inr (.inr f)))))) (hn : n < 2147483648) (h0 : 0 ≤ i) (h1 : i < n) (kk : xW g M Q QX rc rs (hset h a (.inl (g.2.2.2.2 t, n, .inr (.inr (.inr (.inr (va_up f i.toNat none))))))) (pc + 1) ls st) : xW g M Q QX rc rs h pc ls (.null :: .int (iI i) :: .ref a :: st) := by
  intro G p e s m args below meth c H locs lsA cells slots C0 hh hl' a1 a2
  obtain ⟨ws, hS, hP, hD, hV⟩ := id hh
  obtain ⟨q0, he⟩ := List.getElem?_of_mem (hV a _ ha)
  refine va_astqN C0.1 C0.2.1 (gK G C0.2.2.2.2.2.2.2.2.1) hP hD hS q0 t he ht (iI_in hn h0 h1) d ?_
  rw [iI_cl ⟨by omega, by omega⟩]
  exact fun H1 locs1 hP1 hD1 hS1 => kk G p e s m args below meth c H1 locs1 lsA cells slots C0 ⟨_, hS1, hP1, hD1, vw_set hV he⟩ hl' a1 a2
theorem castW {C E : String} {s : State} (G : gOk g) (hW : g.2.1.WarmedH s.vm) (hm : Cond.castable C E ∈ lw_tbl) : va_Nw (.castable C E) s := va_Nw.warmC hW (va_Nw.of rfl (G.2.1 _ hm))
-- a container into a row of containers
theorem x_aast {a n v ci : Nat} {r : vw_C} {fs : List Value} {f : Nat → Option Nat} {i : Int} (hr : r.1 = "ContainerHost$Container") (hc : vwCl[ci]? = some r) (d : decode M.2.1 pc = .ok (.aastore, 1)) (ha : h a = some (carr g n f)) (hv : h v = some (.inr (ci, fs))) (hn : n < 2147483648) (h0 : 0 ≤ i) (h1 : i < n) (kk : xW g M Q QX rc rs (hset h a (carr g n (va_up f i.toNat (some v)))) (pc + 1) ls st) : xW g M Q QX rc rs h pc ls (.ref v :: .int (iI i) :: .ref a :: st) := by
  intro G p e s m args below meth c H locs lsA cells slots C0 hh hl' a1 a2
  obtain ⟨ws, hS, hP, hD, hV⟩ := id hh
  obtain ⟨q0, he⟩ := List.getElem?_of_mem (hV a _ ha)
  obtain ⟨q1, he1⟩ := List.getElem?_of_mem (hV v _ hv)
  refine va_astq (r := r) C0.1 C0.2.1 (gK G C0.2.2.2.2.2.2.2.2.1) hP hD hS q0 4 q1 ci he (by rw [hr]; rfl) he1 hc (iI_in hn h0 h1) d ?_
  rw [iI_cl ⟨by omega, by omega⟩]
  exact fun H1 locs1 hP1 hD1 hS1 => kk G p e s m args below meth c H1 locs1 lsA cells slots C0 ⟨_, hS1, hP1, hD1, vw_set hV he⟩ hl' a1 a2
-- anything into a row of Objects
theorem x_aastO {a n v ci : Nat} {r : vw_C} {fs : List Value} {f : Nat → Option Nat} {i : Int} (hca : Cond.castable r.1 "java/lang/Object" ∈ lw_tbl) (hc : vwCl[ci]? = some r) (d : decode M.2.1 pc = .ok (.aastore, 1)) (ha : h a = some (oarr g n f)) (hv : h v = some (.inr (ci, fs))) (hn : n < 2147483648) (h0 : 0 ≤ i) (h1 : i < n) (kk : xW g M Q QX rc rs (hset h a (oarr g n (va_up f i.toNat (some v)))) (pc + 1) ls st) : xW g M Q QX rc rs h pc ls (.ref v :: .int (iI i) :: .ref a :: st) := by
  intro G p e s m args below meth c H locs lsA cells slots C0 hh hl' a1 a2
  obtain ⟨ws, hS, hP, hD, hV⟩ := id hh
  obtain ⟨q0, he⟩ := List.getElem?_of_mem (hV a _ ha)
  obtain ⟨q1, he1⟩ := List.getElem?_of_mem (hV v _ hv)
  refine va_astqO (r := r) C0.1 C0.2.1 (gK G C0.2.2.2.2.2.2.2.2.1) hP hD hS q0 3 q1 ci he rfl (castW G C0.2.2.2.2.2.2.2.2.1 hca) he1 hc (iI_in hn h0 h1) d ?_
  rw [iI_cl ⟨by omega, by omega⟩]
  exact fun H1 locs1 hP1 hD1 hS1 => kk G p e s m args below meth c H1 locs1 lsA cells slots C0 ⟨_, hS1, hP1, hD1, vw_set hV he⟩ hl' a1 a2
theorem x_alen {a t : Nat} {ty : FieldType} {x : vp_A} (ht : (gT g)[t]? = some (g.2.2.2.2 t, ty)) (d : decode M.2.1 pc = .ok (.arraylength, 1)) (ha : h a = some (.inl (g.2.2.2.2 t, x))) (kk : xW g M Q QX rc rs h (pc + 1) ls (.int (iI x.1) :: st)) : xW g M Q QX rc rs h pc ls (.ref a :: st) := by
  intro G p e s m args below meth c H locs lsA cells slots C0 hh hl' a1 a2
  obtain ⟨ws, hS, hP, hD, hV⟩ := id hh
  obtain ⟨q0, he⟩ := List.getElem?_of_mem (hV a _ ha)
  exact va_alen C0.1 C0.2.1 (gK G C0.2.2.2.2.2.2.2.2.1) hP q0 t he ht (Int32.ofInt_eq_ofNat (n := x.1)).symm d (kk G p e s m args below meth c H locs lsA cells slots C0 hh hl' a1 a2)
theorem x_new {C : String} {T : u_T} {ty0 : Nat → FieldType} {N ci index rc' rs' : Nat} {fs : List Value} (d : decode M.2.1 pc = .ok (.new index, 3)) (hin : ∀ w ∈ u_ws C T N, w ∈ lw_tbl) (hty : ∀ k, k < N → parseFieldDescriptor (T k).2.2.1 = some (ty0 k)) (hc : vwCl[ci]? = some (C, T, N)) (hcl : Cond.classLink M.1 index C ∈ lw_tbl) (hinst : Cond.instantiable C N ∈ lw_tbl) (hini : Cond.initialized C ∈ lw_tbl) (hfs : ∀ j, j < N → defaultValue (ty0 j) = vp_V fs j) (e1 : rc = rc' + 1) (e2 : rs = rs' + N)
    (kk : ∀ q, h q = none → xW g M Q QX rc' rs' (hset h q (.inr (ci, fs))) (pc + 3) ls (.ref q :: st)) : xW g M Q QX rc rs h pc ls st := by
  intro G p e s m args below meth c H locs lsA cells slots C0 hh hl' a1 a2
  obtain ⟨ws, hS, hP, hD, hV⟩ := id hh
  have hW := C0.2.2.2.2.2.2.2.2.1
  exact va_new (Ts := u_ws C T N) C0.1 C0.2.1 (wds G hW hin) (fun w h => h) ty0 hty C0.2.2.2.2.2.2.2.1 (wd G hW hcl rfl) (wd G hW hinst rfl) (wd G hW hini rfl) (gK G hW) hP hD hS (fun q h => h) hc hfs (by omega) (by omega) d
    (fun q H1 hP1 hD1 hS1 => kk q (vw_fresh hV hD1) G p e s m args below meth c H1 locs lsA (cells + 1) (slots + N) C0 ⟨_, hS1, hP1, hD1, vw_push hV⟩ hl' (by omega) (by omega))
theorem x_newarr {at0 : ArrayType} {ty : FieldType} {t N' rc' rs' : Nat} {n : Int} (ht : (gT g)[t]? = some (g.2.2.2.2 t, ty)) (hty : newarray.typeOf at0 = ty) (hobj : ∀ C, ty ≠ .object C) (hw : Cond.arrayClass ty ∈ lw_tbl) {a0 : vp_A} (h0a : ∀ cA : ClassId, vp_cell cA a0 = arrV cA N' (fun _ => defaultValue ty)) (hN : n = (N' : Int)) (hb : N' * componentBytes ty ≤ 536870912) (hb2 : N' < 2147483648) (e1 : rc = rc' + 1) (e2 : rs = rs' + N') (d : decode M.2.1 pc = .ok (.newarray at0, 2))
    (kk : ∀ q, h q = none → xW g M Q QX rc' rs' (hset h q (.inl (g.2.2.2.2 t, a0))) (pc + 2) ls (.ref q :: st)) : xW g M Q QX rc rs h pc ls (.int (iI n) :: st) := by
  intro G p e s m args below meth c H locs lsA cells slots C0 hh hl' a1 a2
  obtain ⟨ws, hS, hP, hD, hV⟩ := id hh
  have hW := C0.2.2.2.2.2.2.2.2.1
  have hK := gK (s := s) G hW
  subst hN
  refine va_newa (N' := N') (a0 := a0) C0.1 C0.2.1 (by rw [hty]; exact wd G hW hw rfl) hty hK hP hD hS (fun q h => h) h0a (fun z => by have := (iI_lt ⟨by omega, by omega⟩ R32_0).mp z; omega) (by rw [iI_cl ⟨by omega, by omega⟩]; omega) hb (by omega) (by omega) d ?_
  intro q cA H1 hK1 hP1 hD1 hS1
  have hA : cA = g.2.2.2.2 t := by
    have h1 := (hK1.2 5 _ rfl).2
    have h2 := (hK.2 t _ ht).2
    cases ty with
    | object C => exact absurd rfl (hobj C)
    | _ => exact Option.some.inj (Eq.trans (Eq.symm h1) h2)
  subst hA
  exact kk q (vw_fresh hV hD1) G p e s m args below meth c H1 locs lsA (cells + 1) (slots + N') C0 ⟨_, hS1, hP1, hD1, vw_push hV⟩ hl' (by omega) (by omega)
theorem x_anew {C : String} {index t N' rc' rs' : Nat} {n : Int} (ht : (gT g)[t]? = some (g.2.2.2.2 t, .object C)) (hcl : Cond.classLink M.1 index C ∈ lw_tbl) (hov : Cond.arrayOver (.object C) ∈ lw_tbl) (hN : n = (N' : Int)) (hb2 : N' < 65536) (e1 : rc = rc' + 1) (e2 : rs = rs' + N') (d : decode M.2.1 pc = .ok (.anewarray index, 3))
    (kk : ∀ q, h q = none → xW g M Q QX rc' rs' (hset h q (.inl (g.2.2.2.2 t, N', .inr (.inr (.inr (.inr (fun _ => none))))))) (pc + 3) ls (.ref q :: st)) : xW g M Q QX rc rs h pc ls (.int (iI n) :: st) := by
  intro G p e s m args below meth c H locs lsA cells slots C0 hh hl' a1 a2
  obtain ⟨ws, hS, hP, hD, hV⟩ := id hh
  have hW := C0.2.2.2.2.2.2.2.2.1
  have hK := gK (s := s) G hW
  subst hN
  refine va_newq (N' := N') C0.1 C0.2.1 C0.2.2.2.2.2.2.2.1 (wd G hW hcl rfl) (va_AO.moved hW.alike (va_AO.of (G.2.1 _ hov))) hK hP hD hS (fun q h => h) (fun z => by have := (iI_lt ⟨by omega, by omega⟩ R32_0).mp z; omega) (by rw [iI_cl ⟨by omega, by omega⟩]; omega) (by omega) (by omega) (by omega) d ?_
  intro q cA H1 hK1 hP1 hD1 hS1
  have hA : cA = g.2.2.2.2 t := by
    obtain ⟨_, _, _, _, _, h1⟩ := (hK1.2 5 _ rfl).2
    obtain ⟨_, _, _, _, _, h2⟩ := (hK.2 t _ ht).2
    exact Option.some.inj (h1.symm.trans h2)
  subst hA
  exact kk q (vw_fresh hV hD1) G p e s m args below meth c H1 locs lsA (cells + 1) (slots + N') C0 ⟨_, hS1, hP1, hD1, vw_push hV⟩ hl' (by omega) (by omega)
theorem recv {a ci : Nat} {fs : List Value} {r : vw_C} {H : Heap} {locs : List Loc} {s : State} (G : gOk g) (hW : g.2.1.WarmedH s.vm) (hh : xHp g h H locs) (ha : h a = some (.inr (ci, fs))) (hc : vwCl[ci]? = some r) : ∃ cell : Cell, H[a]? = some cell ∧ cell.vm.isStatics = false ∧ s.vm.findClass r.1 = some cell.cls := by
  obtain ⟨ws, hS, hP, hD, hV⟩ := hh
  obtain ⟨q0, he⟩ := List.getElem?_of_mem (hV a _ ha)
  exact va_recv (gK G hW) hP hc he
theorem x_castS {a ci index : Nat} {fs : List Value} {C : String} {T : u_T} {N : Nat} (d : decode M.2.1 pc = .ok (.checkcast index, 3)) (hc : vwCl[ci]? = some (C, T, N)) (hcl : Cond.classLink M.1 index C ∈ lw_tbl) (ha : h a = some (.inr (ci, fs))) (kk : xW g M Q QX rc rs h (pc + 3) ls (.ref a :: st)) : xW g M Q QX rc rs h pc ls (.ref a :: st) := by
  intro G p e s m args below meth c H locs lsA cells slots C0 hh hl' a1 a2
  have hW := C0.2.2.2.2.2.2.2.2.1
  exact va_castS C0.1 C0.2.1 C0.2.2.2.2.2.2.2.1 (wd G hW hcl rfl) ((gK (s := s) G hW).1 ci _ hc).2 (recv G hW hh ha hc) d (kk G p e s m args below meth c H locs lsA cells slots C0 hh hl' a1 a2)
theorem x_castY {a ci index : Nat} {fs : List Value} {C nm : String} {T : u_T} {N : Nat} (d : decode M.2.1 pc = .ok (.checkcast index, 3)) (hc : vwCl[ci]? = some (C, T, N)) (hcl : Cond.classLink M.1 index nm ∈ lw_tbl) (hca : Cond.castable C nm ∈ lw_tbl) (ha : h a = some (.inr (ci, fs))) (kk : xW g M Q QX rc rs h (pc + 3) ls (.ref a :: st)) : xW g M Q QX rc rs h pc ls (.ref a :: st) := by
  intro G p e s m args below meth c H locs lsA cells slots C0 hh hl' a1 a2
  have hW := C0.2.2.2.2.2.2.2.2.1
  exact va_castY C0.1 C0.2.1 C0.2.2.2.2.2.2.2.1 (wd G hW hcl rfl) (castW G hW hca) (recv G hW hh ha hc) d (kk G p e s m args below meth c H locs lsA cells slots C0 hh hl' a1 a2)
theorem x_castN {index : Nat} (d : decode M.2.1 pc = .ok (.checkcast index, 3)) (kk : xW g M Q QX rc rs h (pc + 3) ls (.null :: st)) : xW g M Q QX rc rs h pc ls (.null :: st) := fun G p e s m args below meth c H locs lsA cells slots C hh hl a1 a2 => lv_castN C.1 C.2.1 d (kk G p e s m args below meth c H locs lsA cells slots C hh hl a1 a2)
theorem x_objInit {a index : Nat} (d : decode M.2.1 pc = .ok (.invokespecial index, 3)) (hl : Cond.methodLink M.1 index Lib.objectInit ∈ lw_tbl) (hi : Cond.instanceMethod Lib.objectInit ∈ lw_tbl) (hcd : Cond.code Lib.objectInit ⟨#[0xb1]⟩ 1 none ∈ lw_tbl) (hf : 1 ≤ M.2.2.2.2.2.2.frames) (hlo : 20 ≤ M.2.2.2.2.2.2.locals) (hst : (st.map fun v => v.category).sum ≤ 8) (kk : xW g M Q QX rc rs h (pc + 3) ls st) : xW g M Q QX rc rs h pc ls (.ref a :: st) := by
  intro G p e s m args below meth c H locs lsA cells slots C0 hh hl' a1 a2
  have hW := C0.2.2.2.2.2.2.2.2.1
  refine W.objInit C0.1 C0.2.1 C0.2.2.2.2.2.2.2.1 (wd G hW hl rfl) (wd G hW hi rfl) (wd G hW hcd rfl) rfl (by rw [C0.2.2.1]; exact hl'.1) rfl d hf (by have := lv_room (m := m) (pc := pc) (ls := lsA) (rest := .ref a :: st) hst; omega) ?_
  exact kk G p e s m args below meth c H locs lsA cells slots C0 hh hl' a1 a2
-- ends
theorem xend {H : Heap} {locs : List Loc} {t : State} (hh : xHp g h H locs) (ht : t.heap = H) : xHp g h t.heap [] := by
  obtain ⟨ws, hS, r⟩ := hh
  rw [ht]
  exact ⟨ws, ⟨hS.1, hS.2.1, fun l hl => by cases hl⟩, r⟩
theorem xlocs {H : Heap} {locs : List Loc} (hh : xHp g h H locs) : ∀ z ∈ locs, gA g z.base := by
  obtain ⟨ws, hS, -⟩ := hh
  exact hS.2.2
theorem x_iret {v : Int32} (hr : M.2.2.2.1 = some .int) (d : decode M.2.1 pc = .ok (.ireturn, 1)) (hq : Q (some (.int v)) h) : xW g M Q QX rc rs h pc ls [.int v] := by
  intro G p e s m args below meth c H locs lsA cells slots C0 hh hl' a1 a2
  refine vx_ret (W.widen (k := M.2.2.2.2.2.2.cells) (n := M.2.2.2.2.2.2.slots) (by omega) (by omega) (W.iret C0.1 C0.2.1 (C0.2.2.2.1.trans hr) (fun t ht _ => ⟨_, h, rfl, hq, xend hh ht⟩) (xlocs hh) d C0.2.2.2.2.2.1))
theorem x_zret {b : Int} (hr : M.2.2.2.1 = some .boolean) (hb : b = 0 ∨ b = 1) (d : decode M.2.1 pc = .ok (.ireturn, 1)) (hq : Q (some (.int (iI b))) h) : xW g M Q QX rc rs h pc ls [.int (iI b)] := by
  intro G p e s m args below meth c H locs lsA cells slots C0 hh hl' a1 a2
  refine vx_ret (W.widen (k := M.2.2.2.2.2.2.cells) (n := M.2.2.2.2.2.2.slots) (by omega) (by omega) (W.zret C0.1 C0.2.1 (C0.2.2.2.1.trans hr) (by rcases hb with rfl | rfl <;> rfl) (fun t ht _ => ⟨_, h, rfl, hq, xend hh ht⟩) (xlocs hh) d C0.2.2.2.2.2.1))
theorem x_vret (hr : M.2.2.2.1 = none) (d : decode M.2.1 pc = .ok (.return_, 1)) (hq : Q none h) : xW g M Q QX rc rs h pc ls [] := by
  intro G p e s m args below meth c H locs lsA cells slots C0 hh hl' a1 a2
  refine vx_ret (W.widen (k := M.2.2.2.2.2.2.cells) (n := M.2.2.2.2.2.2.slots) (by omega) (by omega) (W.vret C0.1 C0.2.1 (C0.2.2.2.1.trans hr) (fun t ht _ => ⟨_, h, rfl, hq, xend hh ht⟩) (xlocs hh) d C0.2.2.2.2.2.1))
theorem x_aret {v : Value} {rt : FieldType} (hr : M.2.2.2.1 = some rt) (hrt : (∃ n, rt = .object n) ∨ ∃ t, rt = .array t) (hv : v = .null ∨ ∃ a, v = .ref a) (d : decode M.2.1 pc = .ok (.areturn, 1)) (hq : Q (some v) h) : xW g M Q QX rc rs h pc ls [v] := by
  intro G p e s m args below meth c H locs lsA cells slots C0 hh hl' a1 a2
  refine vx_ret (W.widen (k := M.2.2.2.2.2.2.cells) (n := M.2.2.2.2.2.2.slots) (by omega) (by omega) (W.aret C0.1 C0.2.1 (C0.2.2.2.1.trans hr) hrt hv (fun t ht _ => ⟨_, h, rfl, hq, xend hh ht⟩) (xlocs hh) d C0.2.2.2.2.2.1))
end XH
