/-! what the entry gives: the classes, the rows' classes, the words -/
theorem arrP {args : Array Value} {s : State} {ty : FieldType} (h : (Cond.arrayClass ty).before args s = true) : ∃ c, ArrOfT s c ty ∧ s.vm.findClass ("[" ++ ty.toString) = some c := by
  obtain ⟨c, k, comp, h1, h2, h3⟩ := Cond.arrayClass_spec h
  exact ⟨c, fun N z => ⟨(fun _ h => by cases h), k, h2, comp, h3⟩, h1⟩
theorem arrO {args : Array Value} {s : State} {C : String} (h : (Cond.arrayOver (.object C)).before args s = true) : ∃ c, ArrOfT s c (.object C) ∧ va_RA s c (.object C) := by
  obtain ⟨comp, c, k, h1, -, h2, h3, h4⟩ := Cond.arrayOver_spec h
  exact ⟨c, fun N z => ⟨(fun _ h => by cases h), k, h2, comp, h3⟩, k, comp, h2, h3, h1, h4⟩
theorem clsK {args : Array Value} {s : State} (hts : ∀ w ∈ lw_tbl, w.before args s = true) : ∃ (dC : Nat → ClassId) (dI : Nat → Nat → Nat), ∀ (c : Nat) (q : vw_C), vwCl[c]? = some q → u_Kn s q.1 q.2.1 q.2.2 (dC c) (dI c) := by
  have h : ∀ c : Nat, ∃ r : ClassId × (Nat → Nat), ∀ q : vw_C, vwCl[c]? = some q → u_Kn s q.1 q.2.1 q.2.2 r.1 r.2 := fun c => by
    match c with
    | 0 => obtain ⟨a, b, h⟩ := u_known (n := 3) hts inTJx4a65c (hts (.instantiable RJx4a65c 3) (by decide +kernel)); exact ⟨(a, b), fun q hq => by cases hq; exact h⟩
    | 1 => obtain ⟨a, b, h⟩ := u_known (n := 7) hts inTX0 (hts (.instantiable RX0 7) (by decide +kernel)); exact ⟨(a, b), fun q hq => by cases hq; exact h⟩
    | 2 => obtain ⟨a, b, h⟩ := u_known (n := 13) hts inTX1 (hts (.instantiable RX1 13) (by decide +kernel)); exact ⟨(a, b), fun q hq => by cases hq; exact h⟩
    | 3 => obtain ⟨a, b, h⟩ := u_known (n := 7) hts inTX2 (hts (.instantiable RX2 7) (by decide +kernel)); exact ⟨(a, b), fun q hq => by cases hq; exact h⟩
    | 4 => obtain ⟨a, b, h⟩ := u_known (n := 2) hts inTX3 (hts (.instantiable RX3 2) (by decide +kernel)); exact ⟨(a, b), fun q hq => by cases hq; exact h⟩
    | 5 => obtain ⟨a, b, h⟩ := u_known (n := 4) hts inTX4 (hts (.instantiable RX4 4) (by decide +kernel)); exact ⟨(a, b), fun q hq => by cases hq; exact h⟩
    | 6 => obtain ⟨a, b, h⟩ := u_known (n := 7) hts inTX6 (hts (.instantiable RX6 7) (by decide +kernel)); exact ⟨(a, b), fun q hq => by cases hq; exact h⟩
    | c + 7 => exact ⟨(0, fun _ => 0), fun q hq => by cases hq⟩
  obtain ⟨f, hf⟩ := Classical.axiomOfChoice h
  exact ⟨fun c => (f c).1, fun c => (f c).2, fun c q hq => hf c q hq⟩
theorem arrK {args : Array Value} {s : State} (hts : ∀ w ∈ lw_tbl, w.before args s = true) : ∃ ty : Nat → ClassId, ∀ (k : Nat) (q : ClassId × FieldType), ([(ty 0, .int), (ty 1, .int), (ty 2, .int), (ty 3, .object "java/lang/Object"), (ty 4, .object "ContainerHost$Container")] : List (ClassId × FieldType))[k]? = some q → ArrOfT s q.1 q.2 ∧ va_RA s q.1 q.2 := by
  obtain ⟨c0, a0, b0⟩ := arrP (hts (.arrayClass .int) (by decide +kernel))
  obtain ⟨c3, a3, b3⟩ := arrO (hts (.arrayOver (.object "java/lang/Object")) (by decide +kernel))
  obtain ⟨c4, a4, b4⟩ := arrO (hts (.arrayOver (.object "ContainerHost$Container")) (by decide +kernel))
  refine ⟨fun k => match k with | 0 => c0 | 1 => c0 | 2 => c0 | 3 => c3 | _ => c4, fun k q hq => ?_⟩
  match k, hq with
  | 0, hq => cases hq; exact ⟨a0, b0⟩
  | 1, hq => cases hq; exact ⟨a0, b0⟩
  | 2, hq => cases hq; exact ⟨a0, b0⟩
  | 3, hq => cases hq; exact ⟨a3, b3⟩
  | 4, hq => cases hq; exact ⟨a4, b4⟩
  | k + 5, hq => cases hq
theorem flg {l : Launch} (h : l.flags = flags0) : l.stackTraces = false := by
  unfold Launch.stackTraces
  rw [h]
  decide +kernel
