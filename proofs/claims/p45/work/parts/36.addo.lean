theorem addP.pre {g : xG} {h h9 : hp} {l e d N : Nat} {mc : Int32} {n : Int} {f : Nat → Option Nat} {Y : va_E} (H : addP g (hset h l Y) l e d N mc n f h9) : addP g h l e d N mc n f h9 := by
  obtain ⟨d', N', f', a1, a2, a3, a4, a5, a6, a7, a8, a9, a10⟩ := H
  refine ⟨d', N', f', a1, a2, a3, a4, a5, a6, a7, ?_, a9, fun a h1 h2 => (a10 a h1 h2).trans (hset_n _ _ h1)⟩
  rcases a8 with q | q
  · exact Or.inl q
  · rw [hset_n _ _ a9] at q
    exact Or.inr q
/-- the elements of a list of n: where they lie -/
def datP (g : xG) (h : hp) (d N : Nat) (n : Int) (f : Nat → Option Nat) : Prop := ((N = 0 ∧ isD g d) ∨ (capOk N ∧ h d = some (oarr g N f))) ∧ 0 ≤ n ∧ n ≤ N ∧ (∀ i : Nat, n ≤ (i : Int) → f i = none) ∧ ∀ i y, f i = some y → elOk h y
theorem t_al_add_gObjectI41 {g : xG} {h : hp} {QX : qE} {l e d N mi : Nat} {n : Int} {mc : Int32} {f : Nat → Option Nat} (hl : h l = some (.inr (0, [.int mc, .ref d, .int (iI n)]))) {ci : Nat} {r : vw_C} {fs : List Value} (he : h e = some (.inr (ci, fs))) (hci : vwCl[ci]? = some r) (hca : Cond.castable r.1 "java/lang/Object" ∈ lw_tbl) (hle : e ≠ l) (hM : va_Mi "[Ljava/lang/Object;" mi g.2.1) (hP : datP g h d N n f) (hn33 : n < 33) : xM g y_al_add_gObjectI41 k_al_add_gObjectI41 M_al_add_gObjectI41 [.ref l, .ref e, .ref d, .int (iI n)] h (fun v h9 => v = none ∧ addP g h l e d N mc n f h9) QX := by
  obtain ⟨hN, h0, hn, hf, hel⟩ := hP
  rcases hN with ⟨e0, hD⟩ | ⟨hc, hd⟩
  · subst e0
    exact t_addA hl he hci hca hle hD (by omega)
  · by_cases q : n < N
    · exact t_add1 hl he hci hca hd h0 q hc hf
    · have e1 : n = (N : Int) := by omega
      subst e1
      refine t_addB (C := if N = 10 then 15 else if N = 15 then 22 else 33) hl he hci hca hle hM hd ?_ hel
      rcases hc with e2 | e2 | e2 | e2
      · left; exact ⟨e2, if_pos e2⟩
      · right; left; exact ⟨e2, by rw [if_neg (by omega), if_pos e2]⟩
      · right; right; exact ⟨e2, by rw [if_neg (by omega), if_neg (by omega)]⟩
      · exfalso; omega
theorem t_al_add_ngObject21 {g : xG} {h : hp} {QX : qE} {l e d N mi : Nat} {n m : Int} {f : Nat → Option Nat} (hl : h l = some (.inr (0, [.int (iI m), .ref d, .int (iI n)]))) {ci : Nat} {r : vw_C} {fs : List Value} (he : h e = some (.inr (ci, fs))) (hci : vwCl[ci]? = some r) (hca : Cond.castable r.1 "java/lang/Object" ∈ lw_tbl) (hle : e ≠ l) (hld : d ≠ l) (hM : va_Mi "[Ljava/lang/Object;" mi g.2.1) (hP : datP g h d N n f) (hn33 : n < 33) : xM g y_al_add_ngObject21 k_al_add_ngObject21 M_al_add_ngObject21 [.ref l, .ref e] h (fun v h9 => v = some (.int (iI 1)) ∧ addP g h l e d N (iI (m + 1)) n f h9) QX := by
  refine xM.of rfl (by decide) rfl rfl rfl (by simp [Value.category]) (Nat.le_of_ble_eq_true rfl) rfl ?_
  have hP1 : datP g (hset h l (.inr (0, [.int (iI (m + 1)), .ref d, .int (iI n)]))) d N n f := by
    obtain ⟨hN, h0, hn, hf, hel⟩ := hP
    refine ⟨?_, h0, hn, hf, fun i y hy => ?_⟩
    · rcases hN with q | q
      · exact Or.inl q
      · exact Or.inr ⟨q.1, (hset_n _ _ hld).trans q.2⟩
    · obtain ⟨cy, fy, ry, y1, y2, y3⟩ := hel i y hy
      by_cases z : y = l
      · subst z
        rw [hl] at y1
        cases y1
        exact ⟨0, _, _, hset_s _ _ _, y2, y3⟩
      · exact ⟨cy, fy, ry, (hset_n _ _ z).trans y1, y2, y3⟩
  refine x_aload_n d_al_add_ngObject21_0 rfl ?_
  refine x_dup d_al_add_ngObject21_1 rfl ?_
  refine fg_al_63_0 d_al_add_ngObject21_2 rfl hl rfl ?_
  refine x_iconst d_al_add_ngObject21_5 ?_
  refine x_iadd d_al_add_ngObject21_6 ?_
  refine fp_al_63_0 d_al_add_ngObject21_7 rfl hl (Nat.le_of_ble_eq_true rfl) ?_
  refine x_aload_n d_al_add_ngObject21_10 rfl ?_
  refine x_aload_n d_al_add_ngObject21_11 rfl ?_
  refine x_aload_n d_al_add_ngObject21_12 rfl ?_
  refine fg_al_9_0 d_al_add_ngObject21_13 rfl (hset_s _ _ _) rfl ?_
  refine x_aload_n d_al_add_ngObject21_16 rfl ?_
  refine fg_al_48_0 d_al_add_ngObject21_17 rfl (hset_s _ _ _) rfl ?_
  refine x_callV (r := (RJx4a65c, TJx4a65c, 3)) d_al_add_ngObject21_20 q_al_add_ngObject21_131 s_al_add_gObjectI41 v_al_add_gObjectI41 (t_al_add_gObjectI41 (hset_s _ _ _) ((hset_n _ _ hle).trans he) hci hca hle hM hP1 hn33) (hset_s _ _ _) rfl rfl rfl rfl (Nat.le_of_ble_eq_true rfl) rfl rfl rfl (fun _ _ hx9 => hx9) ?_
  rintro _ h9 ⟨rfl, hA⟩
  refine x_iconst d_al_add_ngObject21_23 ?_
  exact x_zret rfl (by omega) d_al_add_ngObject21_24 (⟨rfl, hA.pre⟩)
