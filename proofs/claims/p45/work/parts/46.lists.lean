section CLI
variable {g : xG} {M N : xMeth} {K : hp} {Q Q' : qK} {QX QX' : qKE} {rc rs : Nat} {ad : cA} {S : gS} {pc : Nat} {ls : List (Option Value)} {st : List Value}
theorem c_lsize {n : Int} {ix : Nat} (hl : S 51 n = 1) (d : decode M.2.1 pc = .ok (.invokevirtual ix, 3)) (q : callOk M M_al_size y_al_size k_al_size ix 0) (hcat : (st.map fun v => v.category).sum ≤ 8) (hh0 : M.2.2.2.2.2.1 = []) (kk : cW g M K Q QX rc rs ad S (pc + 3) ls (.int (iI (cnt S n)) :: st)) : cW g M K Q QX rc rs ad S pc ls (.ref (ad 1 n) :: st) :=
  fun h hc => x_callV (r := (RJx4a65c, TJx4a65c, 3)) (As := []) d q s_al_size v_al_size (t_al_size (QX := cE g K QX) (hc.at 1 (by decide) hl)) (hc.at 1 (by decide) hl) rfl rfl rfl rfl hcat hh0 rfl rfl (fun _ _ z => z) (fun v h' e => by obtain ⟨e1, e2⟩ := e; subst e1; subst e2; exact kk h hc)
theorem cls.len {h : hp} (hc : cls g K ad S h) {n : Int} (hl : S 51 n = 1) : 0 ≤ cnt S n ∧ cnt S n ≤ 33 := by
  rcases hc.2.2.2.1 n hl with ⟨-, -, -, e⟩ | ⟨e, -, e0, e1, e2⟩
  · omega
  · unfold capOk at e
    omega
theorem c_lgetE {n i : Int} {ix : Nat} (hl : S 51 n = 1) (h0 : 0 ≤ i) (h1 : i < cnt S n) (d : decode M.2.1 pc = .ok (.invokevirtual ix, 3)) (q : callOk M M_al_get y_al_get k_al_get ix 1) (hcat : (st.map fun v => v.category).sum ≤ 8) (hh0 : M.2.2.2.2.2.1 = []) (kk : cW g M K Q QX rc rs ad S (pc + 3) ls (.ref (ad (elK S n i) (elI S n i)) :: st)) : cW g M K Q QX rc rs ad S pc ls (.int (iI i) :: .ref (ad 1 n) :: st) := by
  intro h hc
  have hD := hc.2.2.2.1 n hl
  rcases hD with ⟨-, -, -, e⟩ | ⟨e, e58, e0, e1, e2⟩
  · omega
  · have hN : (S 41 n).toNat < 2147483648 := by unfold capOk at e; omega
    have he : va_rf (elF S ad n i.toNat) = .ref (ad (elK S n i) (elI S n i)) := by
      unfold elF
      rw [Int.toNat_of_nonneg h0, if_pos h1]
      rfl
    have hM := t_al_get (QX := cE g K QX) (i := i) (hc.at 1 (by decide) hl) (hc.at 8 (by decide) e58) hN h0 h1 (by omega)
    rw [he] at hM
    exact x_callV (r := (RJx4a65c, TJx4a65c, 3)) (As := [.int (iI i)]) d q s_al_get v_al_get hM (hc.at 1 (by decide) hl) rfl rfl rfl rfl hcat hh0 rfl rfl (fun _ _ z => z) (fun v h' e => by obtain ⟨e1, e2⟩ := e; subst e1; subst e2; exact kk h hc)
theorem w711 : Cond.classLink "ContainerHost" (382 : Nat) "ContainerHost$Part" ∈ lw_tbl := mt (i := 321) (by decide +kernel)
theorem w1366 : Cond.castable "ContainerHost$Container" "ContainerHost$Part" ∈ lw_tbl := mt (i := 875) (by decide +kernel)
theorem w1367 : Cond.castable "ContainerHost$Group" "ContainerHost$Part" ∈ lw_tbl := mt (i := 876) (by decide +kernel)
theorem c_lsize1 {ix : Nat} (hl : S 51 1 = 1) (d : decode M.2.1 pc = .ok (.invokevirtual ix, 3)) (q : callOk M M_al_size y_al_size k_al_size ix 0) (hcat : (st.map fun v => v.category).sum ≤ 8) (hh0 : M.2.2.2.2.2.1 = []) (kk : cW g M K Q QX rc rs ad S (pc + 3) ls (.int (iI (S 3 0)) :: st)) : cW g M K Q QX rc rs ad S pc ls (.ref (ad 1 1) :: st) := c_lsize hl d q hcat hh0 kk
theorem c_cast2 {i : Int} (hl : S 52 i = 1) (d : decode M.2.1 pc = .ok (.checkcast 80, 3)) (hM : M.1 = "ContainerHost") (kk : cW g M K Q QX rc rs ad S (pc + 3) ls (.ref (ad 2 i) :: st)) : cW g M K Q QX rc rs ad S pc ls (.ref (ad 2 i) :: st) := fun h hc => x_castS d rfl (by rw [hM]; exact w289) (hc.at 2 (by decide) hl) (kk h hc)
theorem c_lget1 {ix : Nat} {i : Int} (hl : S 51 1 = 1) (hk : S 52 i = 1) (h0 : 0 ≤ i) (h1 : i < S 3 0) (d : decode M.2.1 pc = .ok (.invokevirtual ix, 3)) (d3 : decode M.2.1 (pc + 3) = .ok (.checkcast 80, 3)) (q : callOk M M_al_get y_al_get k_al_get ix 1) (hcat : (st.map fun v => v.category).sum ≤ 8) (hh0 : M.2.2.2.2.2.1 = []) (hM : M.1 = "ContainerHost") (kk : cW g M K Q QX rc rs ad S (pc + 6) ls (.ref (ad 2 i) :: st)) : cW g M K Q QX rc rs ad S pc ls (.int (iI i) :: .ref (ad 1 1) :: st) := c_lgetE hl h0 h1 d q hcat hh0 (c_cast2 (i := i) hk d3 hM kk)
theorem c_lsize2 {ix : Nat} (hl : S 51 2 = 1) (d : decode M.2.1 pc = .ok (.invokevirtual ix, 3)) (q : callOk M M_al_size y_al_size k_al_size ix 0) (hcat : (st.map fun v => v.category).sum ≤ 8) (hh0 : M.2.2.2.2.2.1 = []) (kk : cW g M K Q QX rc rs ad S (pc + 3) ls (.int (iI (S 6 0)) :: st)) : cW g M K Q QX rc rs ad S pc ls (.ref (ad 1 2) :: st) := c_lsize hl d q hcat hh0 kk
theorem c_cast3 {i : Int} (hl : S 53 i = 1) (d : decode M.2.1 pc = .ok (.checkcast 38, 3)) (hM : M.1 = "ContainerHost") (kk : cW g M K Q QX rc rs ad S (pc + 3) ls (.ref (ad 3 i) :: st)) : cW g M K Q QX rc rs ad S pc ls (.ref (ad 3 i) :: st) := fun h hc => x_castS d rfl (by rw [hM]; exact w61) (hc.at 3 (by decide) hl) (kk h hc)
theorem c_lget2 {ix : Nat} {i : Int} (hl : S 51 2 = 1) (hk : S 53 i = 1) (h0 : 0 ≤ i) (h1 : i < S 6 0) (d : decode M.2.1 pc = .ok (.invokevirtual ix, 3)) (d3 : decode M.2.1 (pc + 3) = .ok (.checkcast 38, 3)) (q : callOk M M_al_get y_al_get k_al_get ix 1) (hcat : (st.map fun v => v.category).sum ≤ 8) (hh0 : M.2.2.2.2.2.1 = []) (hM : M.1 = "ContainerHost") (kk : cW g M K Q QX rc rs ad S (pc + 6) ls (.ref (ad 3 i) :: st)) : cW g M K Q QX rc rs ad S pc ls (.int (iI i) :: .ref (ad 1 2) :: st) := c_lgetE hl h0 h1 d q hcat hh0 (c_cast3 (i := i) hk d3 hM kk)
theorem c_lsize3 {ix : Nat} (hl : S 51 3 = 1) (d : decode M.2.1 pc = .ok (.invokevirtual ix, 3)) (q : callOk M M_al_size y_al_size k_al_size ix 0) (hcat : (st.map fun v => v.category).sum ≤ 8) (hh0 : M.2.2.2.2.2.1 = []) (kk : cW g M K Q QX rc rs ad S (pc + 3) ls (.int (iI (S 11 0)) :: st)) : cW g M K Q QX rc rs ad S pc ls (.ref (ad 1 3) :: st) := c_lsize hl d q hcat hh0 kk
theorem c_cast4 {i : Int} (hl : S 54 i = 1) (d : decode M.2.1 pc = .ok (.checkcast 25, 3)) (hM : M.1 = "ContainerHost") (kk : cW g M K Q QX rc rs ad S (pc + 3) ls (.ref (ad 4 i) :: st)) : cW g M K Q QX rc rs ad S pc ls (.ref (ad 4 i) :: st) := fun h hc => x_castS d rfl (by rw [hM]; exact w59) (hc.at 4 (by decide) hl) (kk h hc)
theorem c_lget3 {ix : Nat} {i : Int} (hl : S 51 3 = 1) (hk : S 54 i = 1) (h0 : 0 ≤ i) (h1 : i < S 11 0) (d : decode M.2.1 pc = .ok (.invokevirtual ix, 3)) (d3 : decode M.2.1 (pc + 3) = .ok (.checkcast 25, 3)) (q : callOk M M_al_get y_al_get k_al_get ix 1) (hcat : (st.map fun v => v.category).sum ≤ 8) (hh0 : M.2.2.2.2.2.1 = []) (hM : M.1 = "ContainerHost") (kk : cW g M K Q QX rc rs ad S (pc + 6) ls (.ref (ad 4 i) :: st)) : cW g M K Q QX rc rs ad S pc ls (.int (iI i) :: .ref (ad 1 3) :: st) := c_lgetE hl h0 h1 d q hcat hh0 (c_cast4 (i := i) hk d3 hM kk)
theorem c_lsize4 {ix : Nat} (hl : S 51 4 = 1) (d : decode M.2.1 pc = .ok (.invokevirtual ix, 3)) (q : callOk M M_al_size y_al_size k_al_size ix 0) (hcat : (st.map fun v => v.category).sum ≤ 8) (hh0 : M.2.2.2.2.2.1 = []) (kk : cW g M K Q QX rc rs ad S (pc + 3) ls (.int (iI (S 23 0)) :: st)) : cW g M K Q QX rc rs ad S pc ls (.ref (ad 1 4) :: st) := c_lsize hl d q hcat hh0 kk
theorem c_cast5 {i : Int} (hl : S 55 i = 1) (d : decode M.2.1 pc = .ok (.checkcast 307, 3)) (hM : M.1 = "ContainerHost") (kk : cW g M K Q QX rc rs ad S (pc + 3) ls (.ref (ad 5 i) :: st)) : cW g M K Q QX rc rs ad S pc ls (.ref (ad 5 i) :: st) := fun h hc => x_castS d rfl (by rw [hM]; exact w888) (hc.at 5 (by decide) hl) (kk h hc)
theorem c_lget4 {ix : Nat} {i : Int} (hl : S 51 4 = 1) (hk : S 55 i = 1) (h0 : 0 ≤ i) (h1 : i < S 23 0) (d : decode M.2.1 pc = .ok (.invokevirtual ix, 3)) (d3 : decode M.2.1 (pc + 3) = .ok (.checkcast 307, 3)) (q : callOk M M_al_get y_al_get k_al_get ix 1) (hcat : (st.map fun v => v.category).sum ≤ 8) (hh0 : M.2.2.2.2.2.1 = []) (hM : M.1 = "ContainerHost") (kk : cW g M K Q QX rc rs ad S (pc + 6) ls (.ref (ad 5 i) :: st)) : cW g M K Q QX rc rs ad S pc ls (.int (iI i) :: .ref (ad 1 4) :: st) := c_lgetE hl h0 h1 d q hcat hh0 (c_cast5 (i := i) hk d3 hM kk)
theorem c_lsize5 {ix : Nat} (hl : S 51 5 = 1) (d : decode M.2.1 pc = .ok (.invokevirtual ix, 3)) (q : callOk M M_al_size y_al_size k_al_size ix 0) (hcat : (st.map fun v => v.category).sum ≤ 8) (hh0 : M.2.2.2.2.2.1 = []) (kk : cW g M K Q QX rc rs ad S (pc + 3) ls (.int (iI (S 43 0)) :: st)) : cW g M K Q QX rc rs ad S pc ls (.ref (ad 1 5) :: st) := c_lsize hl d q hcat hh0 kk
/-- a part: group p below 8, container p - 8 -/
def ptA (ad : cA) (p : Int) : Nat := if p < 8 then ad 3 p else ad 4 (p - 8)
def ptL (S : gS) (p : Int) : Prop := (p < 8 ∧ S 53 p = 1) ∨ (8 ≤ p ∧ S 54 (p - 8) = 1)
theorem c_lget5 {ix : Nat} {i : Int} (hl : S 51 5 = 1) (hk : ptL S (S 44 i)) (h0 : 0 ≤ i) (h1 : i < S 43 0) (d : decode M.2.1 pc = .ok (.invokevirtual ix, 3)) (d3 : decode M.2.1 (pc + 3) = .ok (.checkcast 382, 3)) (q : callOk M M_al_get y_al_get k_al_get ix 1) (hcat : (st.map fun v => v.category).sum ≤ 8) (hh0 : M.2.2.2.2.2.1 = []) (hM : M.1 = "ContainerHost") (kk : cW g M K Q QX rc rs ad S (pc + 6) ls (.ref (ptA ad (S 44 i)) :: st)) : cW g M K Q QX rc rs ad S pc ls (.int (iI i) :: .ref (ad 1 5) :: st) := by
  refine c_lgetE hl h0 h1 d q hcat hh0 ?_
  have e5 : ad (elK S 5 i) (elI S 5 i) = ptA ad (S 44 i) := by
    unfold elK elI ptA
    rw [if_neg (by decide), if_neg (by decide), if_neg (by decide), if_neg (by decide), if_pos rfl]
    split <;> rfl
  rw [e5]
  intro h hc
  have kk' := kk h hc
  unfold ptA at kk' ⊢
  rcases hk with ⟨a, b⟩ | ⟨a, b⟩
  · rw [if_pos a] at kk' ⊢
    exact x_castY (nm := "ContainerHost$Part") d3 (rfl : vwCl[3]? = some (RX2, TX2, 7)) (by rw [hM]; exact w711) w1367 (hc.at 3 (by decide) b) kk'
  · rw [if_neg (by omega)] at kk' ⊢
    exact x_castY (nm := "ContainerHost$Part") d3 (rfl : vwCl[2]? = some (RX1, TX1, 13)) (by rw [hM]; exact w711) w1366 (hc.at 4 (by decide) b) kk'
theorem rfo_ref {k : Nat} {i : Int} (h : i ≠ -1) : rfo ad k i = .ref (ad k i) := by unfold rfo; rw [if_neg h]; rfl
theorem rfo_or (k : Nat) (i : Int) : rfo ad k i = .null ∨ ∃ a, rfo ad k i = .ref a := by
  by_cases h : i = -1
  · subst h; exact Or.inl rfl
  · exact Or.inr ⟨_, rfo_ref h⟩
theorem rfo_inj {k : Nat} {i j : Int} {h : hp} (hc : cls g K ad S h) (hk : k ≤ 10) (hi : i = -1 ∨ S (50 + k) i = 1) (hj : j = -1 ∨ S (50 + k) j = 1) (e : (if i = -1 then none else some (ad k i)) = (if j = -1 then none else some (ad k j))) : i = j := by
  by_cases a : i = -1
  · by_cases b : j = -1
    · rw [a, b]
    · rw [if_pos a, if_neg b] at e; cases e
  · by_cases b : j = -1
    · rw [if_neg a, if_pos b] at e; cases e
    · rw [if_neg a, if_neg b] at e
      exact (hc.2.1 k i k j hk hk (hi.resolve_left a) (hj.resolve_left b) (Option.some.inj e)).2
theorem c_astore_nR {n : Fin 4} {k : Nat} {i : Int} (d : decode M.2.1 pc = .ok (.astore_n n, 1)) (hn : (n : Nat) < M.2.2.1) (kk : cW g M K Q QX rc rs ad S (pc + 1) (ls.set (n : Nat) (some (rfo ad k i))) st) : cW g M K Q QX rc rs ad S pc ls (rfo ad k i :: st) := by
  by_cases h : i = -1
  · subst h; exact c_astore_nN d hn kk
  · rw [rfo_ref h] at kk ⊢; exact c_astore_n d hn kk
theorem c_astoreR {n : Nat} {k : Nat} {i : Int} (d : decode M.2.1 pc = .ok (.astore n, 2)) (hn : n < M.2.2.1) (kk : cW g M K Q QX rc rs ad S (pc + 2) (ls.set n (some (rfo ad k i))) st) : cW g M K Q QX rc rs ad S pc ls (rfo ad k i :: st) := by
  by_cases h : i = -1
  · subst h; exact c_astoreN d hn kk
  · rw [rfo_ref h] at kk ⊢; exact c_astore d hn kk
theorem c_aload_nR {n : Fin 4} {k : Nat} {i : Int} (d : decode M.2.1 pc = .ok (.aload_n n, 1)) (hx : ls[(n : Nat)]? = some (some (rfo ad k i))) (kk : cW g M K Q QX rc rs ad S (pc + 1) ls (rfo ad k i :: st)) : cW g M K Q QX rc rs ad S pc ls st := by
  by_cases h : i = -1
  · subst h; exact c_aload_nN d hx kk
  · rw [rfo_ref h] at hx kk; exact c_aload_n d hx kk
theorem c_aloadR {n : Nat} {k : Nat} {i : Int} (d : decode M.2.1 pc = .ok (.aload n, 2)) (hx : ls[n]? = some (some (rfo ad k i))) (kk : cW g M K Q QX rc rs ad S (pc + 2) ls (rfo ad k i :: st)) : cW g M K Q QX rc rs ad S pc ls st := by
  by_cases h : i = -1
  · subst h; exact c_aloadN d hx kk
  · rw [rfo_ref h] at hx kk; exact c_aload d hx kk
theorem c_ifnullR {k : Nat} {i off : Int} {tgt : Nat} (d : decode M.2.1 pc = .ok (.ifnull off, 3)) (ht : (pc : Int) + off = (tgt : Int)) (kt : i = -1 → cW g M K Q QX rc rs ad S tgt ls st) (kf : ¬ i = -1 → cW g M K Q QX rc rs ad S (pc + 3) ls st) : cW g M K Q QX rc rs ad S pc ls (rfo ad k i :: st) := by
  by_cases h : i = -1
  · rw [h]; exact c_ifnullN d ht (kt h)
  · rw [rfo_ref h]; exact c_ifnull d (kf h)
theorem c_ifnonnullR {k : Nat} {i off : Int} {tgt : Nat} (d : decode M.2.1 pc = .ok (.ifnonnull off, 3)) (ht : (pc : Int) + off = (tgt : Int)) (kt : ¬ i = -1 → cW g M K Q QX rc rs ad S tgt ls st) (kf : i = -1 → cW g M K Q QX rc rs ad S (pc + 3) ls st) : cW g M K Q QX rc rs ad S pc ls (rfo ad k i :: st) := by
  by_cases h : i = -1
  · rw [h]; exact c_ifnonnullN d (kf h)
  · rw [rfo_ref h]; exact c_ifnonnull d ht (kt h)
theorem c_acmp_neK {k : Nat} {i j off : Int} {tgt : Nat} (hk : k ≤ 10) (hi : S (50 + k) i = 1) (hj : S (50 + k) j = 1) (d : decode M.2.1 pc = .ok (.if_acmp .ne off, 3)) (ht : (pc : Int) + off = (tgt : Int)) (kt : ¬ i = j → cW g M K Q QX rc rs ad S tgt ls st) (kf : i = j → cW g M K Q QX rc rs ad S (pc + 3) ls st) : cW g M K Q QX rc rs ad S pc ls (.ref (ad k j) :: .ref (ad k i) :: st) :=
  fun h hc => x_acmp_ne (rx := some (ad k i)) (ry := some (ad k j)) d ht rfl rfl (fun z => kt (fun e => z (by rw [e])) h hc) (fun z => kf (hc.2.1 k i k j hk hk hi hj (Option.some.inj z)).2 h hc)
theorem c_acmp_eqK {k : Nat} {i j off : Int} {tgt : Nat} (hk : k ≤ 10) (hi : S (50 + k) i = 1) (hj : S (50 + k) j = 1) (d : decode M.2.1 pc = .ok (.if_acmp .eq off, 3)) (ht : (pc : Int) + off = (tgt : Int)) (kt : i = j → cW g M K Q QX rc rs ad S tgt ls st) (kf : ¬ i = j → cW g M K Q QX rc rs ad S (pc + 3) ls st) : cW g M K Q QX rc rs ad S pc ls (.ref (ad k j) :: .ref (ad k i) :: st) :=
  fun h hc => x_acmp_eq (rx := some (ad k i)) (ry := some (ad k j)) d ht rfl rfl (fun z => kt (hc.2.1 k i k j hk hk hi hj (Option.some.inj z)).2 h hc) (fun z => kf (fun e => z (by rw [e])) h hc)
theorem c_acmp_neF {k : Nat} {i j off : Int} {tgt : Nat} (hk : k ≤ 10) (hi : i = -1 ∨ S (50 + k) i = 1) (hj : S (50 + k) j = 1) (hj0 : j ≠ -1) (d : decode M.2.1 pc = .ok (.if_acmp .ne off, 3)) (ht : (pc : Int) + off = (tgt : Int)) (kt : ¬ i = j → cW g M K Q QX rc rs ad S tgt ls st) (kf : i = j → cW g M K Q QX rc rs ad S (pc + 3) ls st) : cW g M K Q QX rc rs ad S pc ls (.ref (ad k j) :: rfo ad k i :: st) := by
  by_cases h1 : i = -1
  · subst h1
    exact fun h hc => x_acmp_ne (rx := none) (ry := some (ad k j)) d ht rfl rfl (fun _ => kt (fun e => hj0 e.symm) h hc) (fun z => by cases z)
  · rw [rfo_ref h1]
    exact c_acmp_neK hk (hi.resolve_left h1) hj d ht kt kf
theorem c_acmp_neR {k : Nat} {i j off : Int} {tgt : Nat} (hk : k ≤ 10) (hi : i = -1 ∨ S (50 + k) i = 1) (hj : j = -1 ∨ S (50 + k) j = 1) (d : decode M.2.1 pc = .ok (.if_acmp .ne off, 3)) (ht : (pc : Int) + off = (tgt : Int)) (kt : ¬ i = j → cW g M K Q QX rc rs ad S tgt ls st) (kf : i = j → cW g M K Q QX rc rs ad S (pc + 3) ls st) : cW g M K Q QX rc rs ad S pc ls (rfo ad k j :: rfo ad k i :: st) :=
  fun h hc => x_acmp_ne d ht rfl rfl (fun z => kt (fun e => z (by rw [e])) h hc) (fun z => kf (rfo_inj hc hk hi hj z) h hc)
end CLI
