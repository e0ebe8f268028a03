/-! from the judgement to the claim's own W -/
theorem law_W {p : Program} {e : Env} {s : State} {m : MethodId} {below : List Frame} {meth : Method} {c : Code} {l : Launch} {b L d : Nat} {xs : Nat → Int32} {D : va_G} {ty : Nat → ClassId} (hL : L ≤ 260) (C0 : lw_At p s m meth c b L xs) (G : gOk (l, s, b, D, ty)) (hD : isD (l, s, b, D, ty) d) (hMi : ∃ mi, va_Mi "[Ljava/lang/Object;" mi s) : W p l e room_1 s m #[Value.ref b] below meth c s.heap [] 0 0 (lw_Z below #[Value.ref b] s) (entryFrame m ([Value.ref b] : List Value).toArray 7) := by
  obtain ⟨hx, hb, hr, hml, hown, hts, hX, hbl, hlocks, hgv⟩ := id C0
  have k := S_law (g := (l, s, b, D, ty)) (nm := meth.name) (hh := c.exceptionTable.toList.map fun h => (h.startPc, h.endPc, h.handlerPc, h.catchType)) hD hMi hX hbl hL
  rw [lg_entry_eq]
  have k2 := k G p e s m #[Value.ref b] below meth c s.heap [] _ 0 0 ⟨hx, hb, hml, hr, rfl, hlocks, (table_eq _).symm, hown, State.WarmedH.refl s, va_S.rf⟩ ⟨[], va_S.rf, fun k q h => by simp at h, ⟨fun i j p q h => by simp at h, fun k q h => by simp at h⟩, fun a e h => by cases h⟩ (xL.entry (vs := [Value.ref b]) (nL := 7) (by simp [Value.category]) (Nat.le_of_ble_eq_true rfl)) (by show 0 + 600104 ≤ 600104; omega) (by show 0 + 7301314 ≤ 7301314; omega)
  intro T hT X
  obtain ⟨t, st, o, h1, h2, h3⟩ := k2 T hT X
  rcases h3 with ⟨⟨v, h', rfl, hq, -⟩, Lc, hF, hL9⟩ | ⟨q, rfl, E, ce, L9, ⟨h', z, _⟩, _⟩
  · have hq9 : v = some (.int 1) := hq
    subst hq9
    exact ⟨t, st, .returned (some (.int 1)), h1, h2, rfl, ⟨_, rfl⟩, hF.2.1, State.sameButNew.drop_fresh (L := []) (J := Lc) hF.2.2 (fun x hx => hL9 x hx)⟩
  · exact False.elim z
