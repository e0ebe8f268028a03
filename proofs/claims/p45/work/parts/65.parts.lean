abbrev gX : MethodName := ⟨"ContainerHost$Part", "grant", "(I)V"⟩
theorem wgl : Cond.methodLink "ContainerHost" 385 gX ∈ lw_tbl := mt (i := 322) (by decide +kernel)
theorem wgd : Cond.declares gX ∈ lw_tbl := mt (i := 323) (by decide +kernel)
theorem wgs : Cond.sameMethod "ContainerHost$Part" "ContainerHost$Part" "grant" "(I)V" ∈ lw_tbl := mt (i := 324) (by decide +kernel)
theorem wgc : Cond.selects "ContainerHost$Container" gX y_c_grant ∈ lw_tbl := mt (i := 325) (by decide +kernel)
theorem wgg : Cond.selects "ContainerHost$Group" gX y_g_grant ∈ lw_tbl := mt (i := 328) (by decide +kernel)
theorem wgic : Cond.initialized "ContainerHost$Container" ∈ lw_tbl := mt (i := 22) (by decide +kernel)
theorem wgig : Cond.initialized "ContainerHost$Group" ∈ lw_tbl := mt (i := 6) (by decide +kernel)
theorem x_callU {g : xG} {M N : xMeth} {Q Q' : qP} {QX QX' : qE} {rc rs : Nat} {h : hp} {pc : Nat} {ls : List (Option Value)} {st : List Value} {y : MethodName} {wc : Cond} {rc' rs' b ci : Nat} {v : Value} {fs : List Value} {r : vw_C} {C : String} (hM0 : M.1 = "ContainerHost") (d : decode M.2.1 pc = .ok (.invokevirtual 385, 3)) (hwc : wc = Cond.code y N.2.1 N.2.2.1 N.2.2.2.1) (h1 : wc ∈ lw_tbl) (h3 : Cond.initialized y.cls ∈ lw_tbl) (hsel : Cond.selects C gX y ∈ lw_tbl) (hin : Cond.instanceMethod y ∈ lw_tbl) (h6 : N.2.2.2.2.2.2.frames + 1 ≤ M.2.2.2.2.2.2.frames) (h7 : 8 + (N.2.2.1 + 11) + N.2.2.2.2.2.2.locals ≤ M.2.2.2.2.2.2.locals) (hM : xM g y wc N [.ref b, v] h Q' QX') (hb : h b = some (.inr (ci, fs))) (hci : vwCl[ci]? = some r) (hr : r.1 = C) (hcat : (st.map fun v => v.category).sum ≤ 8)
    (hh0 : M.2.2.2.2.2.1 = []) (e1 : rc = rc' + N.2.2.2.2.2.2.cells) (e2 : rs = rs' + N.2.2.2.2.2.2.slots) (kx : ∀ E h', QX' E h' → QX E h') (kr : ∀ v h', Q' v h' → xW g M Q QX rc' rs' h' (pc + 3) ls (v.toList ++ st)) : xW g M Q QX rc rs h pc ls (v :: .ref b :: st) := by
  refine x_run (N := N) (av := [.ref b, v]) (index := 385) (n := 1) (fun p e s m args below meth c H locs lsA cells slots G C0 hh hl' a1 a2 => ?_) hh0 e1 e2 kr kx
  have hW := C0.2.2.2.2.2.2.2.2.1
  have hg : goodWord wc = true := by rw [hwc]; rfl
  have hdec : va_Decl s gX := va_Decl.abs (va_Nw.warmD hW (va_Nw.of rfl (G.2.1 _ wgd)))
  refine vx_runU (C := C) (owner := "ContainerHost$Part") (x := gX) (y := y) (bytes := N.2.1) (maxL := N.2.2.1) (ret := N.2.2.2.1) (ws := [wc]) (rm := N.2.2.2.2.2.2) (Ts := []) (own := M.1) (n := 1) (As := [v]) ⟨C0.1, C0.2.1, C0.2.2.1, C0.2.2.2.2.2.2.2.1, fun w hw => by cases hw⟩ hM ⟨⟨rfl, rfl, h6, h7, fun w hw a' U hU => ?_, by rw [hwc]; exact List.mem_cons_self⟩, by rw [← hwc]; exact wd G hW h1 hg, wd G hW h3 rfl, by decide, fun sig hs => ?_, wd G hW (by rw [hM0]; exact wgl) rfl, wd G hW wgs rfl, hdec, wd G hW hsel rfl, wd G hW hin rfl⟩ ⟨blind _, by rw [← hr]; exact recv G hW hh hb hci, pcAt G hW hh⟩ rfl rfl (by rw [← C0.2.2.1]; exact hl'.1.trans C0.2.2.1.symm) rfl (lv_room (m := m) (pc := pc) (ls := lsA) (rest := st) hcat) d ⟨by omega, by omega⟩
  · rw [List.mem_singleton.mp hw]
    exact word_at hU (good_of_word hg) (wd (args := args) G hW h1 hg)
  · have : (parseMethodDescriptor gX.desc).map (fun d => d.parameters.length) = some 1 := by decide +kernel
    rw [hs] at this
    exact (Option.some.inj this).symm
/-- a part is granted units -/
def gvS (S : gS) (p u : Int) : gS := if p < 8 then sset S 32 p (S 32 p + u) else sset S 22 (p - 8) (S 22 (p - 8) + u)
theorem c_grantP {g : xG} {M : xMeth} {K : hp} {Q : qK} {QX : qKE} {rc rs : Nat} {ad : cA} {S : gS} {pc : Nat} {ls : List (Option Value)} {st : List Value} {p u : Int} (hk : ptL S p) (d : decode M.2.1 pc = .ok (.invokevirtual 385, 3)) (hM0 : M.1 = "ContainerHost") (h6 : 1 ≤ M.2.2.2.2.2.2.frames) (h7 : 21 ≤ M.2.2.2.2.2.2.locals) (hcat : (st.map fun v => v.category).sum ≤ 8) (hh0 : M.2.2.2.2.2.1 = []) (kk : cW g M K Q QX rc rs ad (gvS S p u) (pc + 3) ls st) : cW g M K Q QX rc rs ad S pc ls (.int (iI u) :: .ref (ptA ad p) :: st) := by
  intro h hc
  unfold ptA gvS at *
  rcases hk with ⟨a, b⟩ | ⟨a, b⟩
  · rw [if_pos a] at kk ⊢
    exact x_callU (N := M_g_grant) (r := (RX2, TX2, 7)) (rc' := rc) (rs' := rs) hM0 d rfl e_g_grant wgig wgg s_g_grant h6 h7 (t_g_grant_c (QX := QX) b h hc) (hc.at 3 (by decide) b) rfl rfl hcat hh0 rfl rfl (fun _ _ z => z) (fun v h' ⟨ad', S', ⟨q1, q2, q3⟩, q4⟩ => by
      subst q1; subst q2; subst q3
      exact kk h' q4)
  · rw [if_neg (by omega)] at kk ⊢
    exact x_callU (N := M_c_grant) (r := (RX1, TX1, 13)) (rc' := rc) (rs' := rs) hM0 d rfl e_c_grant wgic wgc s_c_grant h6 h7 (t_c_grant_c (QX := QX) b h hc) (hc.at 4 (by decide) b) rfl rfl hcat hh0 rfl rfl (fun _ _ z => z) (fun v h' ⟨ad', S', ⟨q1, q2, q3⟩, q4⟩ => by
      subst q1; subst q2; subst q3
      exact kk h' q4)
/-- the list of parts cleared -/
def clr5 (S : gS) : gS := sset (sset S 42 5 (iI (S 42 5 + 1)).toInt) 43 0 0
theorem cls_clr5 {g : xG} {K : hp} {ad : cA} {S : gS} {h h' : hp} (hc : cls g K ad S h) (h15 : ∀ i, S 58 i = 1 ∨ S 51 i = 1 → 1 ≤ i ∧ i ≤ 5) (hl : S 51 5 = 1) (hp : clrP g h (ad 1 5) (ad 8 5) (S 41 5).toNat (S 42 5) h') : cls g K ad (clr5 S) h' := by
  obtain ⟨a1, a2, a3⟩ := hp
  have D := hc.2.2.2.1 5 hl
  have e5 : ∀ k, k ≤ 10 → ∀ i, clr5 S (50 + k) i = S (50 + k) i := fun k hk i => by
    unfold clr5
    rw [sset_n _ _ _ (by omega), sset_n _ _ _ (by omega)]
  have ec : ∀ i, 1 ≤ i → i ≤ 5 → cnt (clr5 S) i = if i = 5 then 0 else cnt S i := fun i x y => by
    have : i = 1 ∨ i = 2 ∨ i = 3 ∨ i = 4 ∨ i = 5 := by omega
    rcases this with e | e | e | e | e <;> (subst e; rfl)
  have h8 : S 58 5 ≠ 1 → (S 41 5).toNat = 0 := fun z => by
    rcases D with ⟨e, -⟩ | ⟨-, e, -⟩
    · omega
    · exact absurd e z
  refine ⟨fun k i hk hl' => ?_, fun k i k' i' hk hk' l1 l2 => hc.2.1 k i k' i' hk hk' (by rw [← e5 k hk]; exact l1) (by rw [← e5 k' hk']; exact l2), fun a x ha => ?_, fun i hi => ?_, hc.2.2.2.2⟩
  · rw [e5 k hk] at hl'
    have w := hc.1 k i hk hl'
    by_cases q1 : k = 1 ∧ i = 5
    · obtain ⟨rfl, rfl⟩ := q1
      refine ⟨?_, w.2⟩
      show h' (ad 1 5) = some (.inr (0, [.int (iI (iI (S 42 5 + 1)).toInt), .ref (ad 8 5), .int (iI 0)]))
      rw [a1, show iI (iI (S 42 5 + 1)).toInt = iI (S 42 5 + 1) from Int32.ofInt_toInt _]
    · by_cases q8 : k = 8 ∧ i = 5
      · obtain ⟨rfl, rfl⟩ := q8
        have ef : elF (clr5 S) ad 5 = fun _ => none := by
          funext j
          unfold elF
          rw [ec 5 (by decide) (by decide), if_pos rfl]
          exact if_neg (by omega)
        refine ⟨?_, w.2⟩
        show h' (ad 8 5) = some (oarr g (S 41 5).toNat (elF (clr5 S) ad 5))
        rw [ef]
        rcases D with ⟨e41, -, e81, ecnt⟩ | ⟨hcap, -⟩
        · have n0 : (S 41 5).toNat = 0 := by omega
          have es : elF S ad 5 = fun _ => none := by
            funext j
            unfold elF
            rw [ecnt]
            exact if_neg (by omega)
          have w1 : h (ad 8 5) = some (oarr g (S 41 5).toNat (elF S ad 5)) := w.1
          rw [a3 _ e81 (fun _ => n0), w1, es]
        · exact a2 hcap
      · have n1 : ad k i ≠ ad 1 5 := fun e => q1 (hc.2.1 k i 1 5 hk (by decide) hl' hl e)
        have n8 : ad k i = ad 8 5 → (S 41 5).toNat = 0 := fun e => by
          by_cases z : S 58 5 = 1
          · exact absurd (hc.2.1 k i 8 5 hk (by decide) hl' z e) q8
          · exact h8 z
        rw [a3 _ n1 n8]
        have hcel : cel g ad (clr5 S) k i = cel g ad S k i := by
          rcases k11 hk with rfl | rfl | rfl | rfl | rfl | rfl | rfl | rfl | rfl | rfl | rfl
          · rfl
          · have hi := h15 i (Or.inr hl')
            have hni : i ≠ 5 := fun e => q1 ⟨rfl, e⟩
            have e1 : cnt (clr5 S) i = cnt S i := by rw [ec i hi.1 hi.2, if_neg hni]
            have e2 : clr5 S 42 i = S 42 i := by
              show (if 42 = 42 ∧ i = 5 then _ else S 42 i) = _
              rw [if_neg (fun z => hni z.2)]
            simp only [cel, fl1, e1, e2]
          · rfl
          · rfl
          · rfl
          · rfl
          · rfl
          · rfl
          · have hi := h15 i (Or.inl hl')
            have hni : i ≠ 5 := fun e => q8 ⟨rfl, e⟩
            have e1 : cnt (clr5 S) i = cnt S i := by rw [ec i hi.1 hi.2, if_neg hni]
            have e3 : elF (clr5 S) ad i = elF S ad i := by
              funext j
              have b1 : elK (clr5 S) i j = elK S i j := rfl
              have b2 : elI (clr5 S) i j = elI S i j := rfl
              unfold elF
              rw [e1, b1, b2]
            have e4 : clr5 S 41 i = S 41 i := rfl
            simp only [cel, e3, e4]
          · rfl
          · rfl
        rw [hcel]
        exact w
  · have ka := hc.2.2.1 a x ha
    have k1 : a ≠ ad 1 5 := fun e => by rw [e, (hc.1 1 5 (by decide) hl).2.1] at ha; cases ha
    rw [a3 a k1 (fun e => by
      by_cases z : S 58 5 = 1
      · rw [e, (hc.1 8 5 (by decide) z).2.1] at ha; cases ha
      · exact h8 z)]
    exact ka
  · have hi' : S 51 i = 1 := hi
    have hb := h15 i (Or.inr hi')
    have w := hc.2.2.2.1 i hi'
    have e1 : clr5 S 41 i = S 41 i := rfl
    have e2 : clr5 S 58 i = S 58 i := rfl
    rw [e1, e2, ec i hb.1 hb.2]
    by_cases z : i = 5
    · rw [if_pos z]
      rcases w with ⟨x, y, z2, _⟩ | ⟨x, y, z2, _⟩
      · exact Or.inl ⟨x, y, z2, rfl⟩
      · exact Or.inr ⟨x, y, z2, by omega, z2⟩
    · rw [if_neg z]
      exact w
theorem t_al_clear_c {g : xG} {K : hp} {ad : cA} {S : gS} {QX : qKE} (hW : Wf S) (h15 : ∀ i, S 58 i = 1 ∨ S 51 i = 1 → 1 ≤ i ∧ i ≤ 5) (hl : S 51 5 = 1) : cM g y_al_clear k_al_clear M_al_clear K [.ref (ad 1 5)] ad S (fun v9 ad9 S9 => v9 = none ∧ ad = ad9 ∧ S9 = clr5 S) QX := by
  intro h hc
  have D := hc.2.2.2.1 5 hl
  have hld : ad 8 5 ≠ ad 1 5 := by
    rcases D with ⟨-, -, e, -⟩ | ⟨-, e, -⟩
    · exact e
    · intro z
      have := (hc.2.1 8 5 1 5 (by decide) (by decide) e hl z).1
      omega
  have hP : datP g h (ad 8 5) (S 41 5).toNat (cnt S 5) (elF S ad 5) := by
    refine ⟨?_, ?_, ?_, fun j hj => ?_, fun j y hj => ?_⟩
    · rcases D with ⟨a, b, -, -⟩ | ⟨a, b, -⟩
      · exact Or.inl ⟨by omega, b⟩
      · exact Or.inr ⟨a, hc.at 8 (by decide) b⟩
    · rcases D with ⟨-, -, -, e⟩ | ⟨-, -, -, e, -⟩ <;> omega
    · rcases D with ⟨e0, -, -, e⟩ | ⟨-, -, e0, e1, e2⟩ <;> omega
    · exact if_neg (by omega)
    · unfold elF at hj
      split at hj
      · rename_i z
        cases hj
        have b := elK_b S 5 j
        exact elOkC hc b.1 b.2 (hW.2.2.2.2.2.1 5 j hl (by omega) z)
      · cases hj
  exact xM.post (t_al_clear (QX := cE g K QX) (m := S 42 5) (n := cnt S 5) (hc.at 1 (by decide) hl) hld hP) (fun v h' q => ⟨ad, _, ⟨q.1, rfl, rfl⟩, cls_clr5 hc h15 hl q.2⟩) (fun _ _ q => q)
theorem cls_g44 {g : xG} {K : hp} {ad : cA} {S : gS} {h : hp} (hc : cls g K ad S h) {j p : Int} (hj : S 43 0 ≤ j) : cls g K ad (sset S 44 j p) h := by
  have e5 : ∀ k, sset S 44 j p (50 + k) = S (50 + k) := fun k => sset_n _ _ _ (by omega)
  refine ⟨fun k i hk hl => ?_, fun k i k' i' a b l1 l2 => hc.2.1 k i k' i' a b (by rw [← e5]; exact l1) (by rw [← e5]; exact l2), hc.2.2.1, hc.2.2.2⟩
  rw [e5] at hl
  have w := hc.1 k i hk hl
  refine ⟨?_, w.2⟩
  rw [w.1]
  rcases k11 hk with rfl | rfl | rfl | rfl | rfl | rfl | rfl | rfl | rfl | rfl | rfl
  all_goals first | rfl | skip
  have ef : elF (sset S 44 j p) ad i = elF S ad i := by
    funext q
    unfold elF elK elI
    have ec : cnt (sset S 44 j p) i = cnt S i := rfl
    rw [ec]
    by_cases z : (q : Int) < cnt S i
    · rw [if_pos z, if_pos z]
      by_cases z1 : i = 1
      · simp only [z1]; rfl
      · by_cases z2 : i = 2
        · simp only [z2]; rfl
        · by_cases z3 : i = 3
          · simp only [z3]; rfl
          · by_cases z4 : i = 4
            · simp only [z4]; rfl
            · have e5 : cnt S i = S 43 0 := by
                unfold cnt
                rw [if_neg z1, if_neg z2, if_neg z3, if_neg z4]
              have e44 : sset S 44 j p 44 (q : Int) = S 44 q := sset_o _ _ _ _ (by omega)
              rw [e44]
    · rw [if_neg z, if_neg z]
  simp only [cel, ef]
  rfl
