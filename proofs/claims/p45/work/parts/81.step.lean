/-! the law's method step -/
section XS
variable {g : xG} {M : xMeth} {t u : Nat} {Q : qL} {rc rs : Nat} {ad : cA} {S : gS} {ft fu : Int → Int} {pc : Nat} {ls : List (Option Value)} {st : List Value}
theorem l_icmp_ne_same {x : Int32} {off : Int} {tgt : Nat} (d : decode M.2.1 pc = .ok (.if_icmp .ne off, 3)) (ht : (pc : Int) + off = (tgt : Int)) (kf : lW g M t u Q rc rs ad S ft fu (pc + 3) ls st) : lW g M t u Q rc rs ad S ft fu pc ls (.int x :: .int x :: st) := fun hn h hc G p e s m args below meth c H locs lsA cells slots C0 hh hl' a1 a2 => lv_icmp_ne C0.1 C0.2.1 d ht (fun z => absurd rfl z) (fun _ => kf hn h hc G p e s m args below meth c H locs lsA cells slots C0 hh hl' a1 a2)
end XS
theorem a_newGroup {S S9 : gS} {p m r s : Int} (hI : Inv S) (ha : agr S9 (st_newGroup S p m r s)) : memI S9 (S 6 0) = 0 ∧ prcI S9 (S 6 0) = 0 ∧ S9 6 0 = S 6 0 + 1 := by
  obtain ⟨e, e6, e7, e8, e9⟩ := newGroup_rows (S := S) (p := p) (m := m) (r := r) (s := s)
  have x := memI_eq (ha 7 (by decide)) (ha 11 (by decide)) (ha 14 (by decide)) (ha 20 (by decide)) (S 6 0)
  have y := prcI_eq (ha 7 (by decide)) (ha 11 (by decide)) (ha 15 (by decide)) (ha 20 (by decide)) (S 6 0)
  have z := mem_push hI (T := st_newGroup S p m r s) rfl e7 (e 11 rfl) (e 14 rfl) (e 15 rfl) (e 20 rfl) (S 6 0)
  have w := mem_new hI (n := S 6 0) rfl
  rw [x, y, z.1, z.2, ha 6 (by decide), e6, fset_e]
  exact ⟨w.1, w.2, rfl⟩
theorem smN_c {S T : gS} (h : T 22 = S 22) : ∀ n : Nat, smN T n = smN S n := by
  intro n
  induction n with
  | zero => rfl
  | succ n ih => show smN T n + T 22 n = smN S n + S 22 n; rw [ih, h]
theorem rnN_c {S T : gS} (h : T 19 = S 19) : ∀ n : Nat, rnN T n = rnN S n := by
  intro n
  induction n with
  | zero => rfl
  | succ n ih => show (if rnN T n = 1 ∨ T 19 n = 0 then (1 : Int) else 0) = if rnN S n = 1 ∨ S 19 n = 0 then 1 else 0; rw [ih, h]
theorem k_82a {g : xG} {t u : Nat} {ad : cA} {S : gS} {ft fu : Int → Int} {what a b i : Int} {v7 v8 v9 v10 v11 v12 v13 : Option Value} (hL : LI S ft fu) (hE : Ext S) (hw : 0 ≤ what ∧ what < 2147483648) (ha : 0 ≤ a ∧ a < 2147483648) (hb : 0 ≤ b ∧ b < 2147483648) (h310 : S 3 0 < 10) : lW g M_L_step t u qOk 955 12108 ad S ft fu 82 [some (.ref (g.2.2.2.2 5)), some (.ref t), some (.ref u), some (.int (iI what)), some (.int (iI a)), some (.int (iI b)), some (.int (iI i)), v7, v8, v9, v10, v11, v12, v13] [.int (iI 0)] := by
  have hI := hL.1.1
  have hR := hI.1
  have h0 := hE.h
  have h3 := hI.2.1.1
  have h6 := hI.2.1.2.1
  have h11 := hI.2.1.2.2.1
  have h23 := hI.2.1.2.2.2
  have hA := hL.2.2.2.1
  have hI6 := hI.2.2.2.2.2.2.1
  have hcd : cd_newImage S (-1) = 0 := by unfold cd_newImage; (repeat' split) <;> omega
  refine l_istore d_L_step_82 (by decide) ?_
  refine l_aload_n d_L_step_84 rfl ?_
  refine l_aload_n d_L_step_85 rfl ?_
  refine l_bipush d_L_step_86 (by decide) ?_
  refine l_uld (hA.1) d_L_step_88 (by omega) (by omega) ?_
  refine l_iconst d_L_step_89 ?_
  refine l_tst d_L_step_90 (by omega) (by omega) ?_
  refine l_aload_n d_L_step_91 rfl ?_
  refine l_bipush d_L_step_92 (by decide) ?_
  refine l_aload_n d_L_step_94 rfl ?_
  refine l_bipush d_L_step_95 (by decide) ?_
  refine l_uld (hA.1) d_L_step_97 (by omega) (by omega) ?_
  refine l_iadd d_L_step_98 ?_
  refine l_iload d_L_step_99 rfl ?_
  refine l_if_eq (tgt := 116) d_L_step_101 (by decide) (by first | assumption | exact hR _ _ (by decide) | exact hR9 _ _ (by decide) | (unfold R32; omega)) (fun z101 => ?_) (fun z101 => by exfalso; omega)
  refine l_iconst d_L_step_116 ?_
  refine l_tst d_L_step_117 (by omega) (by omega) ?_
  refine l_aload_n d_L_step_118 rfl ?_
  refine l_bipush d_L_step_119 (by decide) ?_
  refine l_dup2 d_L_step_121 rfl rfl ?_
  refine l_uld (hA.1) d_L_step_122 (by omega) (by omega) ?_
  refine l_iconst d_L_step_123 ?_
  refine l_iadd d_L_step_124 ?_
  refine l_ust d_L_step_125 (by omega) (by omega) ?_
  refine l_aload_n d_L_step_126 rfl ?_
  refine l_iload d_L_step_127 rfl ?_
  refine l_if_eq (tgt := 137) d_L_step_129 (by decide) (by first | assumption | exact hR _ _ (by decide) | exact hR9 _ _ (by decide) | (unfold R32; omega)) (fun z129 => ?_) (fun z129 => by exfalso; omega)
  refine l_iconst d_L_step_137 ?_
  refine l_callH d_L_step_138 q_L_step_12 s_h_newImage v_h_newImage (t_h_newImage hI hE (by first | assumption | exact hR _ _ (by decide) | (unfold R32; omega))) (opX.no hcd) h0 rfl rfl rfl (Nat.le_of_ble_eq_true rfl) rfl rfl rfl ?_
  rintro _ ad9 S9 ⟨-, rfl, hag9, hE9⟩
  have hL9 := LI.agr (LI_newImage (w := 1) hL hcd (by rw [lay_m1]; rfl)) hag9 hE9
  have hI9 := hL9.1.1
  have hR9 := hI9.1
  have h09 := hE9.h
  have hlw : lay S9 (S 3 0) = 1 := by
    have y := (hL9.2.2.2.2.1 (S 3 0) (by omega) (by have z := hL9.2.2.2.1.1; rw [fset_e] at z; omega)).2
    rw [fset_e] at y
    exact y.symm
  have e30 : S9 3 0 = S 3 0 + 1 := by have z := hL9.2.2.2.1.1; rw [fset_e] at z; exact z.symm
  refine l_eqv (v := vl_newImage S (-1)) (w := S 3 0) rfl ?_
  refine l_aload_n d_L_step_141 rfl ?_
  refine l_bipush d_L_step_142 (by decide) ?_
  refine l_uld (fset_e fu 20 _) d_L_step_144 (by omega) (by omega) ?_
  refine l_iconst d_L_step_145 ?_
  refine l_isub d_L_step_146 ?_
  refine l_icmp_ne (tgt := 214) d_L_step_147 (by decide) (by first | assumption | exact hR _ _ (by decide) | exact hR9 _ _ (by decide) | (unfold R32; omega)) (by first | assumption | exact hR _ _ (by decide) | exact hR9 _ _ (by decide) | (unfold R32; omega)) (fun z147 => by exfalso; omega) (fun z147 => ?_)
  refine l_aload_n d_L_step_150 rfl ?_
  refine l_aload_n d_L_step_151 rfl ?_
  refine l_bipush d_L_step_152 (by decide) ?_
  refine l_uld (fset_e fu 20 _) d_L_step_154 (by omega) (by omega) ?_
  refine l_iconst d_L_step_155 ?_
  refine l_isub d_L_step_156 ?_
  refine l_eqv (v := S 3 0 + 1 - 1) (w := S 3 0) (by omega) ?_
  refine l_aload_n d_L_step_157 rfl ?_
  refine l_bipush d_L_step_158 (by decide) ?_
  refine l_aload_n d_L_step_160 rfl ?_
  refine l_bipush d_L_step_161 (by decide) ?_
  refine l_uld (fset_e fu 20 _) d_L_step_163 (by omega) (by omega) ?_
  refine l_iadd d_L_step_164 ?_
  refine l_iconst d_L_step_165 ?_
  refine l_isub d_L_step_166 ?_
  refine l_tld ((show fset (fset ft (S 3 0) 0) (10 + S 3 0) (1) (10 + (S 3 0 + 1) - 1) = 1 by rw [show (10 : Int) + (S 3 0 + 1) - 1 = 10 + S 3 0 by omega]; exact fset_e _ _ _)) d_L_step_167 (by omega) (by omega) ?_
  refine l_iconst d_L_step_168 ?_
  refine l_isub d_L_step_169 ?_
  refine l_callH d_L_step_170 q_L_step_18 s_h_entries v_h_entries (t_h_entries hI9 hE9 (by first | assumption | exact hR _ _ (by decide) | exact hR9 _ _ (by decide) | (unfold R32; omega)) (by first | assumption | exact hR _ _ (by decide) | exact hR9 _ _ (by decide) | (unfold R32; omega))) (opX.no (show cd_entries S9 (S 3 0) (1 - 1) = 0 by unfold cd_entries; (repeat' split) <;> omega)) h09 rfl rfl rfl (Nat.le_of_ble_eq_true rfl) rfl rfl rfl ?_
  rintro _ _ _ ⟨-, rfl, rfl, rfl⟩
  refine l_eqv (v := vl_entries S9 (S 3 0) (1 - 1)) (w := 0) (a_newImage_en hag9 (by omega) (by rw [hlw])) ?_
  refine l_if_ne (tgt := 214) d_L_step_173 (by decide) (by first | assumption | exact hR _ _ (by decide) | exact hR9 _ _ (by decide) | (unfold R32; omega)) (fun z173 => by exfalso; omega) (fun z173 => ?_)
  refine l_iload d_L_step_176 rfl ?_
  refine l_if_eq (tgt := 210) d_L_step_178 (by decide) (by first | assumption | exact hR _ _ (by decide) | exact hR9 _ _ (by decide) | (unfold R32; omega)) (fun z178 => ?_) (fun z178 => by exfalso; omega)
  refine l_iconst d_L_step_210 ?_
  refine l_goto (tgt := 215) d_L_step_211 (by decide) ?_
  exact l_zret rfl (Or.inr rfl) d_L_step_215 (⟨rfl, hL9, hE9⟩)
theorem k_82b {g : xG} {t u : Nat} {ad : cA} {S : gS} {ft fu : Int → Int} {what a b i : Int} {v7 v8 v9 v10 v11 v12 v13 : Option Value} (hL : LI S ft fu) (hE : Ext S) (hw : 0 ≤ what ∧ what < 2147483648) (ha : 0 ≤ a ∧ a < 2147483648) (hb : 0 ≤ b ∧ b < 2147483648) (i0 : 0 ≤ i) (i1 : i < S 3 0) (h310 : S 3 0 < 10) (h51 : S 5 i = 1) (hl8 : lay S i < 8) : lW g M_L_step t u qOk 955 12108 ad S ft fu 82 [some (.ref (g.2.2.2.2 5)), some (.ref t), some (.ref u), some (.int (iI what)), some (.int (iI a)), some (.int (iI b)), some (.int (iI i)), v7, v8, v9, v10, v11, v12, v13] [.int (iI 1)] := by
  have hI := hL.1.1
  have hR := hI.1
  have h0 := hE.h
  have h3 := hI.2.1.1
  have h6 := hI.2.1.2.1
  have h11 := hI.2.1.2.2.1
  have h23 := hI.2.1.2.2.2
  have hA := hL.2.2.2.1
  have hI6 := hI.2.2.2.2.2.2.1
  have hB := hL.2.2.2.2.1 i i0 i1
  have hs5 := hI6.2.2.1 i
  have hla := lay_8 hI i0 i1
  have hcd : cd_newImage S i = 0 := by unfold cd_newImage; (repeat' split) <;> omega
  refine l_istore d_L_step_82 (by decide) ?_
  refine l_aload_n d_L_step_84 rfl ?_
  refine l_aload_n d_L_step_85 rfl ?_
  refine l_bipush d_L_step_86 (by decide) ?_
  refine l_uld (hA.1) d_L_step_88 (by omega) (by omega) ?_
  refine l_iconst d_L_step_89 ?_
  refine l_tst d_L_step_90 (by omega) (by omega) ?_
  refine l_aload_n d_L_step_91 rfl ?_
  refine l_bipush d_L_step_92 (by decide) ?_
  refine l_aload_n d_L_step_94 rfl ?_
  refine l_bipush d_L_step_95 (by decide) ?_
  refine l_uld (hA.1) d_L_step_97 (by omega) (by omega) ?_
  refine l_iadd d_L_step_98 ?_
  refine l_iload d_L_step_99 rfl ?_
  refine l_if_eq (tgt := 116) d_L_step_101 (by decide) (by first | assumption | exact hR _ _ (by decide) | exact hR9 _ _ (by decide) | (unfold R32; omega)) (fun z101 => by exfalso; omega) (fun z101 => ?_)
  refine l_aload_n d_L_step_104 rfl ?_
  refine l_bipush d_L_step_105 (by decide) ?_
  refine l_iload d_L_step_107 rfl ?_
  refine l_iadd d_L_step_109 ?_
  refine l_tld ((fset_o ft 0 (by omega)).trans hB.2) d_L_step_110 (by omega) (by omega) ?_
  refine l_iconst d_L_step_111 ?_
  refine l_iadd d_L_step_112 ?_
  refine l_goto (tgt := 117) d_L_step_113 (by decide) ?_
  refine l_tst d_L_step_117 (by omega) (by omega) ?_
  refine l_aload_n d_L_step_118 rfl ?_
  refine l_bipush d_L_step_119 (by decide) ?_
  refine l_dup2 d_L_step_121 rfl rfl ?_
  refine l_uld (hA.1) d_L_step_122 (by omega) (by omega) ?_
  refine l_iconst d_L_step_123 ?_
  refine l_iadd d_L_step_124 ?_
  refine l_ust d_L_step_125 (by omega) (by omega) ?_
  refine l_aload_n d_L_step_126 rfl ?_
  refine l_iload d_L_step_127 rfl ?_
  refine l_if_eq (tgt := 137) d_L_step_129 (by decide) (by first | assumption | exact hR _ _ (by decide) | exact hR9 _ _ (by decide) | (unfold R32; omega)) (fun z129 => by exfalso; omega) (fun z129 => ?_)
  refine l_iload d_L_step_132 rfl ?_
  refine l_goto (tgt := 138) d_L_step_134 (by decide) ?_
  refine l_callH d_L_step_138 q_L_step_12 s_h_newImage v_h_newImage (t_h_newImage hI hE (by first | assumption | exact hR _ _ (by decide) | (unfold R32; omega))) (opX.no hcd) h0 rfl rfl rfl (Nat.le_of_ble_eq_true rfl) rfl rfl rfl ?_
  rintro _ ad9 S9 ⟨-, rfl, hag9, hE9⟩
  have hL9 := LI.agr (LI_newImage (w := lay S i + 1) hL hcd rfl) hag9 hE9
  have hI9 := hL9.1.1
  have hR9 := hI9.1
  have h09 := hE9.h
  have hlw : lay S9 (S 3 0) = lay S i + 1 := by
    have y := (hL9.2.2.2.2.1 (S 3 0) (by omega) (by have z := hL9.2.2.2.1.1; rw [fset_e] at z; omega)).2
    rw [fset_e] at y
    exact y.symm
  have e30 : S9 3 0 = S 3 0 + 1 := by have z := hL9.2.2.2.1.1; rw [fset_e] at z; exact z.symm
  refine l_eqv (v := vl_newImage S (i)) (w := S 3 0) rfl ?_
  refine l_aload_n d_L_step_141 rfl ?_
  refine l_bipush d_L_step_142 (by decide) ?_
  refine l_uld (fset_e fu 20 _) d_L_step_144 (by omega) (by omega) ?_
  refine l_iconst d_L_step_145 ?_
  refine l_isub d_L_step_146 ?_
  refine l_icmp_ne (tgt := 214) d_L_step_147 (by decide) (by first | assumption | exact hR _ _ (by decide) | exact hR9 _ _ (by decide) | (unfold R32; omega)) (by first | assumption | exact hR _ _ (by decide) | exact hR9 _ _ (by decide) | (unfold R32; omega)) (fun z147 => by exfalso; omega) (fun z147 => ?_)
  refine l_aload_n d_L_step_150 rfl ?_
  refine l_aload_n d_L_step_151 rfl ?_
  refine l_bipush d_L_step_152 (by decide) ?_
  refine l_uld (fset_e fu 20 _) d_L_step_154 (by omega) (by omega) ?_
  refine l_iconst d_L_step_155 ?_
  refine l_isub d_L_step_156 ?_
  refine l_eqv (v := S 3 0 + 1 - 1) (w := S 3 0) (by omega) ?_
  refine l_aload_n d_L_step_157 rfl ?_
  refine l_bipush d_L_step_158 (by decide) ?_
  refine l_aload_n d_L_step_160 rfl ?_
  refine l_bipush d_L_step_161 (by decide) ?_
  refine l_uld (fset_e fu 20 _) d_L_step_163 (by omega) (by omega) ?_
  refine l_iadd d_L_step_164 ?_
  refine l_iconst d_L_step_165 ?_
  refine l_isub d_L_step_166 ?_
  refine l_tld ((show fset (fset ft (S 3 0) 0) (10 + S 3 0) (lay S i + 1) (10 + (S 3 0 + 1) - 1) = lay S i + 1 by rw [show (10 : Int) + (S 3 0 + 1) - 1 = 10 + S 3 0 by omega]; exact fset_e _ _ _)) d_L_step_167 (by omega) (by omega) ?_
  refine l_iconst d_L_step_168 ?_
  refine l_isub d_L_step_169 ?_
  refine l_callH d_L_step_170 q_L_step_18 s_h_entries v_h_entries (t_h_entries hI9 hE9 (by first | assumption | exact hR _ _ (by decide) | exact hR9 _ _ (by decide) | (unfold R32; omega)) (by first | assumption | exact hR _ _ (by decide) | exact hR9 _ _ (by decide) | (unfold R32; omega))) (opX.no (show cd_entries S9 (S 3 0) (lay S i + 1 - 1) = 0 by unfold cd_entries; (repeat' split) <;> omega)) h09 rfl rfl rfl (Nat.le_of_ble_eq_true rfl) rfl rfl rfl ?_
  rintro _ _ _ ⟨-, rfl, rfl, rfl⟩
  refine l_eqv (v := vl_entries S9 (S 3 0) (lay S i + 1 - 1)) (w := 0) (a_newImage_en hag9 (by omega) (by rw [hlw])) ?_
  refine l_if_ne (tgt := 214) d_L_step_173 (by decide) (by first | assumption | exact hR _ _ (by decide) | exact hR9 _ _ (by decide) | (unfold R32; omega)) (fun z173 => by exfalso; omega) (fun z173 => ?_)
  refine l_iload d_L_step_176 rfl ?_
  refine l_if_eq (tgt := 210) d_L_step_178 (by decide) (by first | assumption | exact hR _ _ (by decide) | exact hR9 _ _ (by decide) | (unfold R32; omega)) (fun z178 => by exfalso; omega) (fun z178 => ?_)
  refine l_aload_n d_L_step_181 rfl ?_
  refine l_aload_n d_L_step_182 rfl ?_
  refine l_bipush d_L_step_183 (by decide) ?_
  refine l_uld (fset_e fu 20 _) d_L_step_185 (by omega) (by omega) ?_
  refine l_iconst d_L_step_186 ?_
  refine l_isub d_L_step_187 ?_
  refine l_eqv (v := S 3 0 + 1 - 1) (w := S 3 0) (by omega) ?_
  have hse := see_b hI9.2.2.2.2.2.2.1 i (b % 32)
  refine l_iload d_L_step_188 rfl ?_
  refine l_bipush d_L_step_190 (by decide) ?_
  refine l_iremI d_L_step_192 (by omega) (by first | assumption | exact hR _ _ (by decide) | exact hR9 _ _ (by decide) | (unfold R32; omega)) (by omega) (by first | assumption | exact hR _ _ (by decide) | exact hR9 _ _ (by decide) | (unfold R32; omega)) ?_
  refine l_callH d_L_step_193 q_L_step_22 s_h_shown v_h_shown (t_h_shown hI9 hE9 (by first | assumption | exact hR _ _ (by decide) | exact hR9 _ _ (by decide) | (unfold R32; omega)) (by first | assumption | exact hR _ _ (by decide) | exact hR9 _ _ (by decide) | (unfold R32; omega))) (opX.no (show cd_shown S9 (S 3 0) (b % 32) = 0 by unfold cd_shown; (repeat' split) <;> omega)) h09 rfl rfl rfl (Nat.le_of_ble_eq_true rfl) rfl rfl rfl ?_
  rintro _ _ _ ⟨-, rfl, rfl, rfl⟩
  refine l_eqv (v := vl_shown S9 (S 3 0) (b % 32)) (w := see S9 i (b % 32)) (a_newImage_sh hag9 hI9 (by omega) (by omega) (by omega)) ?_
  refine l_aload_n d_L_step_196 rfl ?_
  refine l_iload d_L_step_197 rfl ?_
  refine l_iload d_L_step_199 rfl ?_
  refine l_bipush d_L_step_201 (by decide) ?_
  refine l_iremI d_L_step_203 (by omega) (by first | assumption | exact hR _ _ (by decide) | exact hR9 _ _ (by decide) | (unfold R32; omega)) (by omega) (by first | assumption | exact hR _ _ (by decide) | exact hR9 _ _ (by decide) | (unfold R32; omega)) ?_
  refine l_callH d_L_step_204 q_L_step_22 s_h_shown v_h_shown (t_h_shown hI9 hE9 (by first | assumption | exact hR _ _ (by decide) | exact hR9 _ _ (by decide) | (unfold R32; omega)) (by first | assumption | exact hR _ _ (by decide) | exact hR9 _ _ (by decide) | (unfold R32; omega))) (opX.no (show cd_shown S9 (i) (b % 32) = 0 by unfold cd_shown; (repeat' split) <;> omega)) h09 rfl rfl rfl (Nat.le_of_ble_eq_true rfl) rfl rfl rfl ?_
  rintro _ _ _ ⟨-, rfl, rfl, rfl⟩
  refine l_eqv (v := vl_shown S9 (i) (b % 32)) (w := see S9 i (b % 32)) rfl ?_
  refine l_icmp_ne (tgt := 214) d_L_step_207 (by decide) (by first | assumption | exact hR _ _ (by decide) | exact hR9 _ _ (by decide) | (unfold R32; omega)) (by first | assumption | exact hR _ _ (by decide) | exact hR9 _ _ (by decide) | (unfold R32; omega)) (fun z207 => absurd rfl z207) (fun z207 => ?_)
  refine l_iconst d_L_step_210 ?_
  refine l_goto (tgt := 215) d_L_step_211 (by decide) ?_
  exact l_zret rfl (Or.inr rfl) d_L_step_215 (⟨rfl, hL9, hE9⟩)
theorem k_43 {g : xG} {t u : Nat} {ad : cA} {S : gS} {ft fu : Int → Int} {what a b i : Int} {v7 v8 v9 v10 v11 v12 v13 : Option Value} (hL : LI S ft fu) (hE : Ext S) (hw : 0 ≤ what ∧ what < 2147483648) (ha : 0 ≤ a ∧ a < 2147483648) (hb : 0 ≤ b ∧ b < 2147483648) (h310 : S 3 0 < 10) (hz : S 3 0 = 0 ∨ (0 ≤ i ∧ i < S 3 0)) : lW g M_L_step t u qOk 955 12108 ad S ft fu 43 [some (.ref (g.2.2.2.2 5)), some (.ref t), some (.ref u), some (.int (iI what)), some (.int (iI a)), some (.int (iI b)), some (.int (iI i)), v7, v8, v9, v10, v11, v12, v13] [] := by
  have hI := hL.1.1
  have hR := hI.1
  have h0 := hE.h
  have h3 := hI.2.1.1
  have h6 := hI.2.1.2.1
  have h11 := hI.2.1.2.2.1
  have h23 := hI.2.1.2.2.2
  have hA := hL.2.2.2.1
  have hI6 := hI.2.2.2.2.2.2.1
  have ka := k_82a (t := t) (u := u) (g := g) (ad := ad) (i := i) (v7 := v7) (v8 := v8) (v9 := v9) (v10 := v10) (v11 := v11) (v12 := v12) (v13 := v13) hL hE hw ha hb h310
  refine l_aload_n d_L_step_43 rfl ?_
  refine l_bipush d_L_step_44 (by decide) ?_
  refine l_uld (hA.1) d_L_step_46 (by omega) (by omega) ?_
  refine l_if_le (tgt := 81) d_L_step_47 (by decide) (by first | assumption | exact hR _ _ (by decide) | (unfold R32; omega)) (fun z47 => ?_) (fun z47 => ?_)
  · refine l_iconst d_L_step_81 ?_
    exact ka
  · have i0 : 0 ≤ i := by omega
    have i1 : i < S 3 0 := by omega
    have hB := hL.2.2.2.2.1 i i0 i1
    have hs5 := hI6.2.2.1 i
    have hla := lay_8 hI i0 i1
    refine l_aload_n d_L_step_50 rfl ?_
    refine l_iload d_L_step_51 rfl ?_
    refine l_tld (hB.1) d_L_step_53 (by omega) (by omega) ?_
    refine l_iconst d_L_step_54 ?_
    refine l_icmp_ne (tgt := 81) d_L_step_55 (by decide) (by first | assumption | exact hR _ _ (by decide) | (unfold R32; omega)) (by first | assumption | exact hR _ _ (by decide) | (unfold R32; omega)) (fun z55 => ?_) (fun z55 => ?_)
    · refine l_iconst d_L_step_81 ?_
      exact ka
    · refine l_aload_n d_L_step_58 rfl ?_
      refine l_bipush d_L_step_59 (by decide) ?_
      refine l_iload d_L_step_61 rfl ?_
      refine l_iadd d_L_step_63 ?_
      refine l_tld (hB.2) d_L_step_64 (by omega) (by omega) ?_
      refine l_bipush d_L_step_65 (by decide) ?_
      refine l_icmp_ge (tgt := 81) d_L_step_67 (by decide) (by first | assumption | exact hR _ _ (by decide) | (unfold R32; omega)) (by first | assumption | exact hR _ _ (by decide) | (unfold R32; omega)) (fun z67 => ?_) (fun z67 => ?_)
      · refine l_iconst d_L_step_81 ?_
        exact ka
      · refine l_iload d_L_step_70 rfl ?_
        refine l_iconst d_L_step_72 ?_
        refine l_iremI d_L_step_73 (by omega) (by first | assumption | exact hR _ _ (by decide) | (unfold R32; omega)) (by omega) (by first | assumption | exact hR _ _ (by decide) | (unfold R32; omega)) ?_
        refine l_if_le (tgt := 81) d_L_step_74 (by decide) (by first | assumption | exact hR _ _ (by decide) | (unfold R32; omega)) (fun z74 => ?_) (fun z74 => ?_)
        · refine l_iconst d_L_step_81 ?_
          exact ka
        · refine l_iconst d_L_step_77 ?_
          refine l_goto (tgt := 82) d_L_step_78 (by decide) ?_
          exact k_82b hL hE hw ha hb i0 i1 h310 (by omega) (by omega)
theorem k_216i {g : xG} {t u : Nat} {ad : cA} {S : gS} {ft fu : Int → Int} {what a b i : Int} {v7 v8 v9 v10 v11 v12 v13 : Option Value} (hL : LI S ft fu) (hE : Ext S) (hw : 0 ≤ what ∧ what < 2147483648) (ha : 0 ≤ a ∧ a < 2147483648) (hb : 0 ≤ b ∧ b < 2147483648) (i0 : 0 ≤ i) (i1 : i < S 3 0) (h5 : what % 24 < 5) : lW g M_L_step t u qOk 955 12108 ad S ft fu 224 [some (.ref (g.2.2.2.2 5)), some (.ref t), some (.ref u), some (.int (iI what)), some (.int (iI a)), some (.int (iI b)), some (.int (iI i)), v7, v8, v9, v10, v11, v12, v13] [] := by
  have hI := hL.1.1
  have hR := hI.1
  have h0 := hE.h
  have h3 := hI.2.1.1
  have h6 := hI.2.1.2.1
  have h11 := hI.2.1.2.2.1
  have h23 := hI.2.1.2.2.2
  have hA := hL.2.2.2.1
  have hI6 := hI.2.2.2.2.2.2.1
  have hB := hL.2.2.2.2.1 i i0 i1
  have hs5 := hI6.2.2.1 i
  have hla := lay_8 hI i0 i1
  refine l_aload_n d_L_step_224 rfl ?_
  refine l_aload_n d_L_step_225 rfl ?_
  refine l_aload_n d_L_step_226 rfl ?_
  refine l_iload d_L_step_227 rfl ?_
  refine l_iload_n d_L_step_229 rfl ?_
  refine l_bipush d_L_step_230 (by decide) ?_
  refine l_iremI d_L_step_232 (by omega) (by first | assumption | exact hR _ _ (by decide) | (unfold R32; omega)) (by omega) (by first | assumption | exact hR _ _ (by decide) | (unfold R32; omega)) ?_
  refine l_iload d_L_step_233 rfl ?_
  refine l_callL d_L_step_235 q_L_step_25 s_L_images (t_L_images hL hE i0 i1 (by omega) hb) rfl rfl (Nat.le_of_ble_eq_true rfl) rfl rfl rfl ?_
  rintro _ ad9 S9 ft9 fu9 ⟨rfl, hL9, hE9⟩
  exact l_zret rfl (Or.inr rfl) d_L_step_238 (⟨rfl, hL9, hE9⟩)
theorem k_303 {g : xG} {t u : Nat} {ad : cA} {S : gS} {ft fu : Int → Int} {what a b i d : Int} {v8 v9 v10 v11 v12 v13 : Option Value} (hL : LI S ft fu) (hE : Ext S) (hw : 0 ≤ what ∧ what < 2147483648) (ha : 0 ≤ a ∧ a < 2147483648) (hb : 0 ≤ b ∧ b < 2147483648) (h68 : S 6 0 < 8) (hd : d = 10000 ∨ d = 300) : lW g M_L_step t u qOk 955 12108 ad S (fset ft (20 + S 6 0) (a % S 6 0)) fu 303 [some (.ref (g.2.2.2.2 5)), some (.ref t), some (.ref u), some (.int (iI what)), some (.int (iI a)), some (.int (iI b)), some (.int (iI i)), some (.int (iI (a % S 6 0))), v8, v9, v10, v11, v12, v13] [.int (iI d), .int (iI b), .int (iI 1), .int (iI (28 + S 6 0)), .ref t] := by
  have hI := hL.1.1
  have hR := hI.1
  have h0 := hE.h
  have h3 := hI.2.1.1
  have h6 := hI.2.1.2.1
  have h11 := hI.2.1.2.2.1
  have h23 := hI.2.1.2.2.2
  have hA := hL.2.2.2.1
  have hI6 := hI.2.2.2.2.2.2.1
  have hm0 := Int.emod_nonneg b (show d ≠ 0 by omega)
  have hml := Int.emod_lt_of_pos b (show 0 < d by omega)
  have hp0 := Int.emod_nonneg a (show S 6 0 ≠ 0 by omega)
  have hpl := Int.emod_lt_of_pos a (show 0 < S 6 0 by omega)
  have hcd : cd_newGroup S (a % S 6 0) (1 + b % d) (1 + b / 7 % 12) (1 + b / 11 % 100) = 0 := by unfold cd_newGroup; (repeat' split) <;> omega
  refine l_iremI d_L_step_303 (by omega) (by first | assumption | exact hR _ _ (by decide) | exact hR9 _ _ (by decide) | (unfold R32; omega)) (by omega) (by first | assumption | exact hR _ _ (by decide) | exact hR9 _ _ (by decide) | (unfold R32; omega)) ?_
  refine l_iadd d_L_step_304 ?_
  refine l_tst d_L_step_305 (by omega) (by omega) ?_
  refine l_aload_n d_L_step_306 rfl ?_
  refine l_bipush d_L_step_307 (by decide) ?_
  refine l_aload_n d_L_step_309 rfl ?_
  refine l_bipush d_L_step_310 (by decide) ?_
  refine l_uld (hA.2.1) d_L_step_312 (by omega) (by omega) ?_
  refine l_iadd d_L_step_313 ?_
  refine l_iconst d_L_step_314 ?_
  refine l_iload d_L_step_315 rfl ?_
  refine l_bipush d_L_step_317 (by decide) ?_
  refine l_idivI d_L_step_319 (by omega) (by first | assumption | exact hR _ _ (by decide) | exact hR9 _ _ (by decide) | (unfold R32; omega)) (by omega) (by first | assumption | exact hR _ _ (by decide) | exact hR9 _ _ (by decide) | (unfold R32; omega)) ?_
  refine l_bipush d_L_step_320 (by decide) ?_
  refine l_iremI d_L_step_322 (by omega) (by first | assumption | exact hR _ _ (by decide) | exact hR9 _ _ (by decide) | (unfold R32; omega)) (by omega) (by first | assumption | exact hR _ _ (by decide) | exact hR9 _ _ (by decide) | (unfold R32; omega)) ?_
  refine l_iadd d_L_step_323 ?_
  refine l_tst d_L_step_324 (by omega) (by omega) ?_
  refine l_aload_n d_L_step_325 rfl ?_
  refine l_bipush d_L_step_326 (by decide) ?_
  refine l_dup2 d_L_step_328 rfl rfl ?_
  refine l_uld (hA.2.1) d_L_step_329 (by omega) (by omega) ?_
  refine l_iconst d_L_step_330 ?_
  refine l_iadd d_L_step_331 ?_
  refine l_ust d_L_step_332 (by omega) (by omega) ?_
  refine l_aload_n d_L_step_333 rfl ?_
  refine l_iload d_L_step_334 rfl ?_
  refine l_aload_n d_L_step_336 rfl ?_
  refine l_bipush d_L_step_337 (by decide) ?_
  refine l_aload_n d_L_step_339 rfl ?_
  refine l_bipush d_L_step_340 (by decide) ?_
  refine l_uld (fset_e fu 21 _) d_L_step_342 (by omega) (by omega) ?_
  refine l_iadd d_L_step_343 ?_
  refine l_tld ((show fset (fset (fset ft (20 + S 6 0) (a % S 6 0)) (28 + S 6 0) (1 + b % d)) (36 + S 6 0) (1 + b / 7 % 12) (27 + (S 6 0 + 1)) = (1 + b % d) by rw [show (27 : Int) + (S 6 0 + 1) = 28 + S 6 0 by omega, fset_o _ _ (by omega)]; exact fset_e _ _ _)) d_L_step_344 (by omega) (by omega) ?_
  refine l_aload_n d_L_step_345 rfl ?_
  refine l_bipush d_L_step_346 (by decide) ?_
  refine l_aload_n d_L_step_348 rfl ?_
  refine l_bipush d_L_step_349 (by decide) ?_
  refine l_uld (fset_e fu 21 _) d_L_step_351 (by omega) (by omega) ?_
  refine l_iadd d_L_step_352 ?_
  refine l_tld ((show fset (fset (fset ft (20 + S 6 0) (a % S 6 0)) (28 + S 6 0) (1 + b % d)) (36 + S 6 0) (1 + b / 7 % 12) (35 + (S 6 0 + 1)) = (1 + b / 7 % 12) by rw [show (35 : Int) + (S 6 0 + 1) = 36 + S 6 0 by omega]; exact fset_e _ _ _)) d_L_step_353 (by omega) (by omega) ?_
  refine l_iconst d_L_step_354 ?_
  refine l_iload d_L_step_355 rfl ?_
  refine l_bipush d_L_step_357 (by decide) ?_
  refine l_idivI d_L_step_359 (by omega) (by first | assumption | exact hR _ _ (by decide) | exact hR9 _ _ (by decide) | (unfold R32; omega)) (by omega) (by first | assumption | exact hR _ _ (by decide) | exact hR9 _ _ (by decide) | (unfold R32; omega)) ?_
  refine l_bipush d_L_step_360 (by decide) ?_
  refine l_iremI d_L_step_362 (by omega) (by first | assumption | exact hR _ _ (by decide) | exact hR9 _ _ (by decide) | (unfold R32; omega)) (by omega) (by first | assumption | exact hR _ _ (by decide) | exact hR9 _ _ (by decide) | (unfold R32; omega)) ?_
  refine l_iadd d_L_step_363 ?_
  refine l_callH d_L_step_364 q_L_step_29 s_h_newGroup v_h_newGroup (t_h_newGroup hI hE (by first | assumption | exact hR _ _ (by decide) | (unfold R32; omega)) (by first | assumption | exact hR _ _ (by decide) | (unfold R32; omega)) (by first | assumption | exact hR _ _ (by decide) | (unfold R32; omega)) (by first | assumption | exact hR _ _ (by decide) | (unfold R32; omega))) (opX.no hcd) h0 rfl rfl rfl (Nat.le_of_ble_eq_true rfl) rfl rfl rfl ?_
  rintro _ ad9 S9 ⟨-, rfl, hag9, hE9⟩
  have hL9 := LI.agr (LI_newGroup hL hcd) hag9 hE9
  have hI9 := hL9.1.1
  have hR9 := hI9.1
  have h09 := hE9.h
  have hng := a_newGroup hI hag9
  refine l_eqv (v := vl_newGroup S ((a % S 6 0)) ((1 + b % d)) ((1 + b / 7 % 12)) ((1 + b / 11 % 100))) (w := S 6 0) rfl ?_
  refine l_aload_n d_L_step_367 rfl ?_
  refine l_bipush d_L_step_368 (by decide) ?_
  refine l_uld (fset_e fu 21 _) d_L_step_370 (by omega) (by omega) ?_
  refine l_iconst d_L_step_371 ?_
  refine l_isub d_L_step_372 ?_
  refine l_icmp_ne (tgt := 406) d_L_step_373 (by decide) (by first | assumption | exact hR _ _ (by decide) | exact hR9 _ _ (by decide) | (unfold R32; omega)) (by first | assumption | exact hR _ _ (by decide) | exact hR9 _ _ (by decide) | (unfold R32; omega)) (fun z373 => by exfalso; omega) (fun z373 => ?_)
  refine l_aload_n d_L_step_376 rfl ?_
  refine l_aload_n d_L_step_377 rfl ?_
  refine l_bipush d_L_step_378 (by decide) ?_
  refine l_uld (fset_e fu 21 _) d_L_step_380 (by omega) (by omega) ?_
  refine l_iconst d_L_step_381 ?_
  refine l_isub d_L_step_382 ?_
  refine l_eqv (v := S 6 0 + 1 - 1) (w := S 6 0) (by omega) ?_
  refine l_callH d_L_step_383 q_L_step_33 s_h_groupMemory v_h_groupMemory (t_h_groupMemory hI9 hE9 (by first | assumption | exact hR _ _ (by decide) | exact hR9 _ _ (by decide) | (unfold R32; omega))) (opX.no (show cd_groupMemory S9 (S 6 0) = 0 by unfold cd_groupMemory; (repeat' split) <;> omega)) h09 rfl rfl rfl (Nat.le_of_ble_eq_true rfl) rfl rfl rfl ?_
  rintro _ _ _ ⟨-, rfl, rfl, rfl⟩
  refine l_eqv (v := vl_groupMemory S9 (S 6 0)) (w := 0) hng.1 ?_
  refine l_if_ne (tgt := 406) d_L_step_386 (by decide) (by first | assumption | exact hR _ _ (by decide) | exact hR9 _ _ (by decide) | (unfold R32; omega)) (fun z386 => by exfalso; omega) (fun z386 => ?_)
  refine l_aload_n d_L_step_389 rfl ?_
  refine l_aload_n d_L_step_390 rfl ?_
  refine l_bipush d_L_step_391 (by decide) ?_
  refine l_uld (fset_e fu 21 _) d_L_step_393 (by omega) (by omega) ?_
  refine l_iconst d_L_step_394 ?_
  refine l_isub d_L_step_395 ?_
  refine l_eqv (v := S 6 0 + 1 - 1) (w := S 6 0) (by omega) ?_
  refine l_callH d_L_step_396 q_L_step_36 s_h_groupProcesses v_h_groupProcesses (t_h_groupProcesses hI9 hE9 (by first | assumption | exact hR _ _ (by decide) | exact hR9 _ _ (by decide) | (unfold R32; omega))) (opX.no (show cd_groupProcesses S9 (S 6 0) = 0 by unfold cd_groupProcesses; (repeat' split) <;> omega)) h09 rfl rfl rfl (Nat.le_of_ble_eq_true rfl) rfl rfl rfl ?_
  rintro _ _ _ ⟨-, rfl, rfl, rfl⟩
  refine l_eqv (v := vl_groupProcesses S9 (S 6 0)) (w := 0) hng.2.1 ?_
  refine l_if_ne (tgt := 406) d_L_step_399 (by decide) (by first | assumption | exact hR _ _ (by decide) | exact hR9 _ _ (by decide) | (unfold R32; omega)) (fun z399 => by exfalso; omega) (fun z399 => ?_)
  refine l_iconst d_L_step_402 ?_
  refine l_goto (tgt := 407) d_L_step_403 (by decide) ?_
  exact l_zret rfl (Or.inr rfl) d_L_step_407 (⟨rfl, hL9, hE9⟩)
theorem k_256 {g : xG} {t u : Nat} {ad : cA} {S : gS} {ft fu : Int → Int} {what a b i : Int} {v7 v8 v9 v10 v11 v12 v13 : Option Value} (hL : LI S ft fu) (hE : Ext S) (hw : 0 ≤ what ∧ what < 2147483648) (ha : 0 ≤ a ∧ a < 2147483648) (hb : 0 ≤ b ∧ b < 2147483648) (h68 : S 6 0 < 8) : lW g M_L_step t u qOk 955 12108 ad S ft fu 256 [some (.ref (g.2.2.2.2 5)), some (.ref t), some (.ref u), some (.int (iI what)), some (.int (iI a)), some (.int (iI b)), some (.int (iI i)), v7, v8, v9, v10, v11, v12, v13] [] := by
  have hI := hL.1.1
  have hR := hI.1
  have h0 := hE.h
  have h3 := hI.2.1.1
  have h6 := hI.2.1.2.1
  have h11 := hI.2.1.2.2.1
  have h23 := hI.2.1.2.2.2
  have hA := hL.2.2.2.1
  have hI6 := hI.2.2.2.2.2.2.1
  have hp0 := Int.emod_nonneg a (show S 6 0 ≠ 0 by omega)
  have hpl := Int.emod_lt_of_pos a (show 0 < S 6 0 by omega)
  refine l_iload d_L_step_256 rfl ?_
  refine l_aload_n d_L_step_258 rfl ?_
  refine l_bipush d_L_step_259 (by decide) ?_
  refine l_uld (hA.2.1) d_L_step_261 (by omega) (by omega) ?_
  refine l_iremI d_L_step_262 (by omega) (by first | assumption | exact hR _ _ (by decide) | (unfold R32; omega)) (by omega) (by first | assumption | exact hR _ _ (by decide) | (unfold R32; omega)) ?_
  refine l_istore d_L_step_263 (by decide) ?_
  refine l_aload_n d_L_step_265 rfl ?_
  refine l_bipush d_L_step_266 (by decide) ?_
  refine l_aload_n d_L_step_268 rfl ?_
  refine l_bipush d_L_step_269 (by decide) ?_
  refine l_uld (hA.2.1) d_L_step_271 (by omega) (by omega) ?_
  refine l_iadd d_L_step_272 ?_
  refine l_iload d_L_step_273 rfl ?_
  refine l_tst d_L_step_275 (by omega) (by omega) ?_
  refine l_aload_n d_L_step_276 rfl ?_
  refine l_bipush d_L_step_277 (by decide) ?_
  refine l_aload_n d_L_step_279 rfl ?_
  refine l_bipush d_L_step_280 (by decide) ?_
  refine l_uld (hA.2.1) d_L_step_282 (by omega) (by omega) ?_
  refine l_iadd d_L_step_283 ?_
  refine l_iconst d_L_step_284 ?_
  refine l_iload d_L_step_285 rfl ?_
  refine l_iload d_L_step_287 rfl ?_
  refine l_iconst d_L_step_289 ?_
  refine l_iremI d_L_step_290 (by omega) (by first | assumption | exact hR _ _ (by decide) | (unfold R32; omega)) (by omega) (by first | assumption | exact hR _ _ (by decide) | (unfold R32; omega)) ?_
  refine l_if_ne (tgt := 300) d_L_step_291 (by decide) (by first | assumption | exact hR _ _ (by decide) | (unfold R32; omega)) (fun z291 => ?_) (fun z291 => ?_)
  · refine l_sipush d_L_step_300 (by decide) ?_
    exact k_303 hL hE hw ha hb h68 (by omega)
  · refine l_sipush d_L_step_294 (by decide) ?_
    refine l_goto (tgt := 303) d_L_step_297 (by decide) ?_
    exact k_303 hL hE hw ha hb h68 (by omega)
theorem k_474 {g : xG} {t u : Nat} {ad : cA} {S : gS} {ft fu : Int → Int} {what a b i : Int} {v8 v9 v10 v11 v12 v13 : Option Value} (hL : LI S ft fu) (hE : Ext S) (hw : 0 ≤ what ∧ what < 2147483648) (ha : 0 ≤ a ∧ a < 2147483648) (hb : 0 ≤ b ∧ b < 2147483648) (i0 : 0 ≤ i) (i1 : i < S 3 0) (h20 : S 11 0 < 20) (h51 : S 5 i ≠ 0) (ht : tm S (b % S 6 0) 0 1 = -1) : lW g M_L_step t u qOk 940 12018 ad S ft fu 474 [some (.ref (g.2.2.2.2 5)), some (.ref t), some (.ref u), some (.int (iI what)), some (.int (iI a)), some (.int (iI b)), some (.int (iI i)), some (.int (iI (b % S 6 0))), v8, v9, v10, v11, v12, v13] [] := by
  have hI := hL.1.1
  have hR := hI.1
  have h0 := hE.h
  have h3 := hI.2.1.1
  have h6 := hI.2.1.2.1
  have h11 := hI.2.1.2.2.1
  have h23 := hI.2.1.2.2.2
  have hA := hL.2.2.2.1
  have hI6 := hI.2.2.2.2.2.2.1
  have hB := hL.2.2.2.2.1 i i0 i1
  have hs5 := hI6.2.2.1 i
  have hla := lay_8 hI i0 i1
  have hp0 := Int.emod_nonneg b (show S 6 0 ≠ 0 by omega)
  have hpl := Int.emod_lt_of_pos b (show 0 < S 6 0 by omega)
  have hcd : cd_run S i (b % S 6 0) (b / 8 % 16) (1 + b / 128 % 100) = 0 := by unfold cd_run; (repeat' split) <;> omega
  refine l_aload_n d_L_step_474 rfl ?_
  refine l_bipush d_L_step_475 (by decide) ?_
  refine l_uld (hA.2.2.1) d_L_step_477 (by omega) (by omega) ?_
  refine l_istore d_L_step_478 (by decide) ?_
  refine l_aload_n d_L_step_480 rfl ?_
  refine l_bipush d_L_step_481 (by decide) ?_
  refine l_iload d_L_step_483 rfl ?_
  refine l_iadd d_L_step_485 ?_
  refine l_iload d_L_step_486 rfl ?_
  refine l_tst d_L_step_488 (by omega) (by omega) ?_
  refine l_aload_n d_L_step_489 rfl ?_
  refine l_iload d_L_step_490 rfl ?_
  refine l_aload_n d_L_step_492 rfl ?_
  refine l_bipush d_L_step_493 (by decide) ?_
  refine l_iload d_L_step_495 rfl ?_
  refine l_iadd d_L_step_497 ?_
  refine l_tld ((fset_o ft _ (by omega)).trans hB.2) d_L_step_498 (by omega) (by omega) ?_
  refine l_ust d_L_step_499 (by omega) (by omega) ?_
  refine l_aload_n d_L_step_500 rfl ?_
  refine l_bipush d_L_step_501 (by decide) ?_
  refine l_dup2 d_L_step_503 rfl rfl ?_
  refine l_uld ((fset_o fu _ (by omega)).trans hA.2.2.1) d_L_step_504 (by omega) (by omega) ?_
  refine l_iconst d_L_step_505 ?_
  refine l_iadd d_L_step_506 ?_
  refine l_ust d_L_step_507 (by omega) (by omega) ?_
  refine l_aload_n d_L_step_508 rfl ?_
  refine l_iload d_L_step_509 rfl ?_
  refine l_iload d_L_step_511 rfl ?_
  refine l_iload d_L_step_513 rfl ?_
  refine l_bipush d_L_step_515 (by decide) ?_
  refine l_idivI d_L_step_517 (by omega) (by first | assumption | exact hR _ _ (by decide) | exact hR9 _ _ (by decide) | (unfold R32; omega)) (by omega) (by first | assumption | exact hR _ _ (by decide) | exact hR9 _ _ (by decide) | (unfold R32; omega)) ?_
  refine l_bipush d_L_step_518 (by decide) ?_
  refine l_iremI d_L_step_520 (by omega) (by first | assumption | exact hR _ _ (by decide) | exact hR9 _ _ (by decide) | (unfold R32; omega)) (by omega) (by first | assumption | exact hR _ _ (by decide) | exact hR9 _ _ (by decide) | (unfold R32; omega)) ?_
  refine l_iconst d_L_step_521 ?_
  refine l_iload d_L_step_522 rfl ?_
  refine l_sipush d_L_step_524 (by decide) ?_
  refine l_idivI d_L_step_527 (by omega) (by first | assumption | exact hR _ _ (by decide) | exact hR9 _ _ (by decide) | (unfold R32; omega)) (by omega) (by first | assumption | exact hR _ _ (by decide) | exact hR9 _ _ (by decide) | (unfold R32; omega)) ?_
  refine l_bipush d_L_step_528 (by decide) ?_
  refine l_iremI d_L_step_530 (by omega) (by first | assumption | exact hR _ _ (by decide) | exact hR9 _ _ (by decide) | (unfold R32; omega)) (by omega) (by first | assumption | exact hR _ _ (by decide) | exact hR9 _ _ (by decide) | (unfold R32; omega)) ?_
  refine l_iadd d_L_step_531 ?_
  refine l_callH d_L_step_532 q_L_step_43 s_h_run v_h_run (t_h_run hI hE (by first | assumption | exact hR _ _ (by decide) | (unfold R32; omega)) (by first | assumption | exact hR _ _ (by decide) | (unfold R32; omega)) (by first | assumption | exact hR _ _ (by decide) | (unfold R32; omega)) (by first | assumption | exact hR _ _ (by decide) | (unfold R32; omega))) (opX.no hcd) h0 rfl rfl rfl (Nat.le_of_ble_eq_true rfl) rfl rfl rfl ?_
  rintro _ ad9 S9 ⟨-, rfl, hag9, hE9⟩
  have hL9 := LI.agr (LI_run hL hcd rfl) hag9 hE9
  have hI9 := hL9.1.1
  have hR9 := hI9.1
  have h09 := hE9.h
  have hrn := a_run hag9
  refine l_eqv (v := vl_run S (i) ((b % S 6 0)) ((b / 8 % 16)) ((1 + b / 128 % 100))) (w := S 11 0) rfl ?_
  refine l_iload d_L_step_535 rfl ?_
  refine l_icmp_ne (tgt := 637) d_L_step_537 (by decide) (by first | assumption | exact hR _ _ (by decide) | exact hR9 _ _ (by decide) | (unfold R32; omega)) (by first | assumption | exact hR _ _ (by decide) | exact hR9 _ _ (by decide) | (unfold R32; omega)) (fun z537 => absurd rfl z537) (fun z537 => ?_)
  refine l_aload_n d_L_step_540 rfl ?_
  refine l_callH d_L_step_541 q_L_step_46 s_h_containers v_h_containers (t_h_containers (QX := cN) hE9) (fun _ _ _ z => z) h09 rfl rfl rfl (Nat.le_of_ble_eq_true rfl) rfl rfl rfl ?_
  rintro _ _ _ ⟨rfl, rfl, rfl⟩
  refine l_iload d_L_step_544 rfl ?_
  refine l_iconst d_L_step_546 ?_
  refine l_iadd d_L_step_547 ?_
  refine l_icmp_ne (tgt := 637) d_L_step_548 (by decide) (by first | assumption | exact hR _ _ (by decide) | exact hR9 _ _ (by decide) | (unfold R32; omega)) (by first | assumption | exact hR _ _ (by decide) | exact hR9 _ _ (by decide) | (unfold R32; omega)) (fun z548 => by exfalso; omega) (fun z548 => ?_)
  refine l_aload_n d_L_step_551 rfl ?_
  refine l_iload d_L_step_552 rfl ?_
  refine l_callH d_L_step_554 q_L_step_50 s_h_stateOf v_h_stateOf (t_h_stateOf hI9 hE9 (by first | assumption | exact hR _ _ (by decide) | exact hR9 _ _ (by decide) | (unfold R32; omega))) (opX.no (show cd_stateOf S9 (S 11 0) = 0 by unfold cd_stateOf; (repeat' split) <;> omega)) h09 rfl rfl rfl (Nat.le_of_ble_eq_true rfl) rfl rfl rfl ?_
  rintro _ _ _ ⟨-, rfl, rfl, rfl⟩
  refine l_eqv (v := vl_stateOf S9 (S 11 0)) (w := 0) hrn.2.1 ?_
  refine l_if_ne (tgt := 637) d_L_step_557 (by decide) (by first | assumption | exact hR _ _ (by decide) | exact hR9 _ _ (by decide) | (unfold R32; omega)) (fun z557 => by exfalso; omega) (fun z557 => ?_)
  refine l_aload_n d_L_step_560 rfl ?_
  refine l_iload d_L_step_561 rfl ?_
  refine l_callH d_L_step_563 q_L_step_53 s_h_memoryOf v_h_memoryOf (t_h_memoryOf hI9 hE9 (by first | assumption | exact hR _ _ (by decide) | exact hR9 _ _ (by decide) | (unfold R32; omega))) (opX.no (show cd_memoryOf S9 (S 11 0) = 0 by unfold cd_memoryOf; (repeat' split) <;> omega)) h09 rfl rfl rfl (Nat.le_of_ble_eq_true rfl) rfl rfl rfl ?_
  rintro _ _ _ ⟨-, rfl, rfl, rfl⟩
  refine l_eqv (v := vl_memoryOf S9 (S 11 0)) (w := 0) hrn.2.2.1 ?_
  refine l_if_ne (tgt := 637) d_L_step_566 (by decide) (by first | assumption | exact hR _ _ (by decide) | exact hR9 _ _ (by decide) | (unfold R32; omega)) (fun z566 => by exfalso; omega) (fun z566 => ?_)
  refine l_aload_n d_L_step_569 rfl ?_
  refine l_iload d_L_step_570 rfl ?_
  refine l_callH d_L_step_572 q_L_step_56 s_h_timeOf v_h_timeOf (t_h_timeOf hI9 hE9 (by first | assumption | exact hR _ _ (by decide) | exact hR9 _ _ (by decide) | (unfold R32; omega))) (opX.no (show cd_timeOf S9 (S 11 0) = 0 by unfold cd_timeOf; (repeat' split) <;> omega)) h09 rfl rfl rfl (Nat.le_of_ble_eq_true rfl) rfl rfl rfl ?_
  rintro _ _ _ ⟨-, rfl, rfl, rfl⟩
  refine l_eqv (v := vl_timeOf S9 (S 11 0)) (w := 0) hrn.2.2.2.1 ?_
  refine l_if_ne (tgt := 637) d_L_step_575 (by decide) (by first | assumption | exact hR _ _ (by decide) | exact hR9 _ _ (by decide) | (unfold R32; omega)) (fun z575 => by exfalso; omega) (fun z575 => ?_)
  refine l_aload_n d_L_step_578 rfl ?_
  refine l_iload d_L_step_579 rfl ?_
  refine l_callH d_L_step_581 q_L_step_59 s_h_addressOf v_h_addressOf (t_h_addressOf hI9 hE9 (by first | assumption | exact hR _ _ (by decide) | exact hR9 _ _ (by decide) | (unfold R32; omega))) (opX.no (show cd_addressOf S9 (S 11 0) = 0 by unfold cd_addressOf; (repeat' split) <;> omega)) h09 rfl rfl rfl (Nat.le_of_ble_eq_true rfl) rfl rfl rfl ?_
  rintro _ _ _ ⟨-, rfl, rfl, rfl⟩
  refine l_eqv (v := vl_addressOf S9 (S 11 0)) (w := -1) hrn.2.2.2.2.1 ?_
  refine l_iconst d_L_step_584 ?_
  refine l_icmp_ne (tgt := 637) d_L_step_585 (by decide) (by first | assumption | exact hR _ _ (by decide) | exact hR9 _ _ (by decide) | (unfold R32; omega)) (by first | assumption | exact hR _ _ (by decide) | exact hR9 _ _ (by decide) | (unfold R32; omega)) (fun z585 => by exfalso; omega) (fun z585 => ?_)
  refine l_aload_n d_L_step_588 rfl ?_
  refine l_iload d_L_step_589 rfl ?_
  refine l_callH d_L_step_591 q_L_step_62 s_h_capabilitiesOf v_h_capabilitiesOf (t_h_capabilitiesOf hI9 hE9 (by first | assumption | exact hR _ _ (by decide) | exact hR9 _ _ (by decide) | (unfold R32; omega))) (opX.no (show cd_capabilitiesOf S9 (S 11 0) = 0 by unfold cd_capabilitiesOf; (repeat' split) <;> omega)) h09 rfl rfl rfl (Nat.le_of_ble_eq_true rfl) rfl rfl rfl ?_
  rintro _ _ _ ⟨-, rfl, rfl, rfl⟩
  refine l_eqv (v := vl_capabilitiesOf S9 (S 11 0)) (w := 17 * (b / 8 % 16)) (by show 16 * S9 16 (S 11 0) + S9 17 (S 11 0) = _; rw [hrn.2.2.2.2.2.1, hrn.2.2.2.2.2.2.1]; omega) ?_
  refine l_bipush d_L_step_594 (by decide) ?_
  refine l_iload d_L_step_596 rfl ?_
  refine l_bipush d_L_step_598 (by decide) ?_
  refine l_idivI d_L_step_600 (by omega) (by first | assumption | exact hR _ _ (by decide) | exact hR9 _ _ (by decide) | (unfold R32; omega)) (by omega) (by first | assumption | exact hR _ _ (by decide) | exact hR9 _ _ (by decide) | (unfold R32; omega)) ?_
  refine l_bipush d_L_step_601 (by decide) ?_
  refine l_iremI d_L_step_603 (by omega) (by first | assumption | exact hR _ _ (by decide) | exact hR9 _ _ (by decide) | (unfold R32; omega)) (by omega) (by first | assumption | exact hR _ _ (by decide) | exact hR9 _ _ (by decide) | (unfold R32; omega)) ?_
  refine l_imul d_L_step_604 ?_
  refine l_icmp_ne (tgt := 637) d_L_step_605 (by decide) (by first | assumption | exact hR _ _ (by decide) | exact hR9 _ _ (by decide) | (unfold R32; omega)) (by first | assumption | exact hR _ _ (by decide) | exact hR9 _ _ (by decide) | (unfold R32; omega)) (fun z605 => absurd rfl z605) (fun z605 => ?_)
  have hse := see_b hI9.2.2.2.2.2.2.1 i (b % 32)
  refine l_aload_n d_L_step_608 rfl ?_
  refine l_iload d_L_step_609 rfl ?_
  refine l_iload d_L_step_611 rfl ?_
  refine l_bipush d_L_step_613 (by decide) ?_
  refine l_iremI d_L_step_615 (by omega) (by first | assumption | exact hR _ _ (by decide) | exact hR9 _ _ (by decide) | (unfold R32; omega)) (by omega) (by first | assumption | exact hR _ _ (by decide) | exact hR9 _ _ (by decide) | (unfold R32; omega)) ?_
  refine l_callH d_L_step_616 q_L_step_65 s_h_fileOf v_h_fileOf (t_h_fileOf hI9 hE9 (by first | assumption | exact hR _ _ (by decide) | exact hR9 _ _ (by decide) | (unfold R32; omega)) (by first | assumption | exact hR _ _ (by decide) | exact hR9 _ _ (by decide) | (unfold R32; omega))) (opX.no (show cd_fileOf S9 (S 11 0) (b % 32) = 0 by unfold cd_fileOf; (repeat' split) <;> omega)) h09 rfl rfl rfl (Nat.le_of_ble_eq_true rfl) rfl rfl rfl ?_
  rintro _ _ _ ⟨-, rfl, rfl, rfl⟩
  refine l_eqv (v := vl_fileOf S9 (S 11 0) (b % 32)) (w := see S9 i (b % 32)) (a_run_f hag9 (by omega) (by omega)) ?_
  refine l_aload_n d_L_step_619 rfl ?_
  refine l_iload d_L_step_620 rfl ?_
  refine l_iload d_L_step_622 rfl ?_
  refine l_bipush d_L_step_624 (by decide) ?_
  refine l_iremI d_L_step_626 (by omega) (by first | assumption | exact hR _ _ (by decide) | exact hR9 _ _ (by decide) | (unfold R32; omega)) (by omega) (by first | assumption | exact hR _ _ (by decide) | exact hR9 _ _ (by decide) | (unfold R32; omega)) ?_
  refine l_callH d_L_step_627 q_L_step_22 s_h_shown v_h_shown (t_h_shown hI9 hE9 (by first | assumption | exact hR _ _ (by decide) | exact hR9 _ _ (by decide) | (unfold R32; omega)) (by first | assumption | exact hR _ _ (by decide) | exact hR9 _ _ (by decide) | (unfold R32; omega))) (opX.no (show cd_shown S9 (i) (b % 32) = 0 by unfold cd_shown; (repeat' split) <;> omega)) h09 rfl rfl rfl (Nat.le_of_ble_eq_true rfl) rfl rfl rfl ?_
  rintro _ _ _ ⟨-, rfl, rfl, rfl⟩
  refine l_eqv (v := vl_shown S9 (i) (b % 32)) (w := see S9 i (b % 32)) rfl ?_
  refine l_icmp_ne (tgt := 637) d_L_step_630 (by decide) (by first | assumption | exact hR _ _ (by decide) | exact hR9 _ _ (by decide) | (unfold R32; omega)) (by first | assumption | exact hR _ _ (by decide) | exact hR9 _ _ (by decide) | (unfold R32; omega)) (fun z630 => absurd rfl z630) (fun z630 => ?_)
  refine l_iconst d_L_step_633 ?_
  refine l_goto (tgt := 638) d_L_step_634 (by decide) ?_
  exact l_zret rfl (Or.inr rfl) d_L_step_638 (⟨rfl, hL9, hE9⟩)
theorem k_433 {g : xG} {t u : Nat} {ad : cA} {S : gS} {ft fu : Int → Int} {what a b i : Int} {v7 v8 v9 v10 v11 v12 v13 : Option Value} (hL : LI S ft fu) (hE : Ext S) (hw : 0 ≤ what ∧ what < 2147483648) (ha : 0 ≤ a ∧ a < 2147483648) (hb : 0 ≤ b ∧ b < 2147483648) (i0 : 0 ≤ i) (i1 : i < S 3 0) (h20 : S 11 0 < 20) : lW g M_L_step t u qOk 955 12108 ad S ft fu 433 [some (.ref (g.2.2.2.2 5)), some (.ref t), some (.ref u), some (.int (iI what)), some (.int (iI a)), some (.int (iI b)), some (.int (iI i)), v7, v8, v9, v10, v11, v12, v13] [] := by
  have hI := hL.1.1
  have hR := hI.1
  have h0 := hE.h
  have h3 := hI.2.1.1
  have h6 := hI.2.1.2.1
  have h11 := hI.2.1.2.2.1
  have h23 := hI.2.1.2.2.2
  have hA := hL.2.2.2.1
  have hI6 := hI.2.2.2.2.2.2.1
  have hB := hL.2.2.2.2.1 i i0 i1
  have hs5 := hI6.2.2.1 i
  have hla := lay_8 hI i0 i1
  have hp0 := Int.emod_nonneg b (show S 6 0 ≠ 0 by omega)
  have hpl := Int.emod_lt_of_pos b (show 0 < S 6 0 by omega)
  refine l_iload d_L_step_433 rfl ?_
  refine l_aload_n d_L_step_435 rfl ?_
  refine l_bipush d_L_step_436 (by decide) ?_
  refine l_uld (hA.2.1) d_L_step_438 (by omega) (by omega) ?_
  refine l_iremI d_L_step_439 (by omega) (by first | assumption | exact hR _ _ (by decide) | (unfold R32; omega)) (by omega) (by first | assumption | exact hR _ _ (by decide) | (unfold R32; omega)) ?_
  refine l_istore d_L_step_440 (by decide) ?_
  refine l_aload_n d_L_step_442 rfl ?_
  refine l_iload d_L_step_443 rfl ?_
  refine l_tld (hB.1) d_L_step_445 (by omega) (by omega) ?_
  refine l_if_eq (tgt := 459) d_L_step_446 (by decide) (by first | assumption | exact hR _ _ (by decide) | (unfold R32; omega)) (fun z446 => ?_) (fun z446 => ?_)
  · refine l_aload_n d_L_step_459 rfl ?_
    refine l_bipush d_L_step_460 (by decide) ?_
    refine l_uld (hA.2.2.1) d_L_step_462 (by omega) (by omega) ?_
    refine l_bipush d_L_step_463 (by decide) ?_
    refine l_icmp_ge (tgt := 472) d_L_step_465 (by decide) (by first | assumption | exact hR _ _ (by decide) | (unfold R32; omega)) (by first | assumption | exact hR _ _ (by decide) | (unfold R32; omega)) (fun z465 => by exfalso; omega) (fun z465 => ?_)
    refine l_iconst d_L_step_468 ?_
    refine l_goto (tgt := 473) d_L_step_469 (by decide) ?_
    exact l_zret rfl (Or.inr rfl) d_L_step_473 (⟨rfl, hL, hE⟩)
  · refine l_aload_n d_L_step_449 rfl ?_
    refine l_aload_n d_L_step_450 rfl ?_
    refine l_iload d_L_step_451 rfl ?_
    refine l_callL d_L_step_453 q_L_step_39 s_L_isFull (t_L_isFull hL hE hp0 hpl) rfl rfl (Nat.le_of_ble_eq_true rfl) rfl rfl rfl ?_
    rintro _ _ _ _ _ ⟨rfl, rfl, rfl, rfl, b9, hb9, rfl, hfl⟩
    refine l_if_eq (tgt := 474) d_L_step_456 (by decide) (by first | assumption | exact hR _ _ (by decide) | (unfold R32; omega)) (fun z456 => ?_) (fun z456 => ?_)
    · exact l_mono (k_474 hL hE hw ha hb i0 i1 h20 (by omega) (hfl (by omega)).2) (by decide) (by decide)
    · refine l_aload_n d_L_step_459 rfl ?_
      refine l_bipush d_L_step_460 (by decide) ?_
      refine l_uld (hA.2.2.1) d_L_step_462 (by omega) (by omega) ?_
      refine l_bipush d_L_step_463 (by decide) ?_
      refine l_icmp_ge (tgt := 472) d_L_step_465 (by decide) (by first | assumption | exact hR _ _ (by decide) | (unfold R32; omega)) (by first | assumption | exact hR _ _ (by decide) | (unfold R32; omega)) (fun z465 => by exfalso; omega) (fun z465 => ?_)
      refine l_iconst d_L_step_468 ?_
      refine l_goto (tgt := 473) d_L_step_469 (by decide) ?_
      exact l_zret rfl (Or.inr rfl) d_L_step_473 (⟨rfl, hL, hE⟩)
theorem W_runs {g : xG} {t u : Nat} {ad : cA} {S : gS} {ft fu : Int → Int} {what a b x y : Int} {v6 v7 v8 v10 : Option Value} {Q : qL} {rc rs : Nat} (hL : LI S ft fu) (hE : Ext S) (kk : lW g M_L_step t u Q rc rs ad S ft fu 753 [some (.ref (g.2.2.2.2 5)), some (.ref t), some (.ref u), some (.int (iI what)), some (.int (iI a)), some (.int (iI b)), v6, v7, v8, some (.int (iI x)), v10, some (.int (iI y)), some (.int (iI (rnN S (S 11 0).toNat))), some (.int (iI (S 11 0)))] []) : ∀ n k : Nat, (k : Int) + n = S 11 0 → lW g M_L_step t u Q (n + rc) (6 * n + rs) ad S ft fu 717 [some (.ref (g.2.2.2.2 5)), some (.ref t), some (.ref u), some (.int (iI what)), some (.int (iI a)), some (.int (iI b)), v6, v7, v8, some (.int (iI x)), v10, some (.int (iI y)), some (.int (iI (rnN S k))), some (.int (iI (k : Int)))] [] := by
  have hI := hL.1.1
  have hR := hI.1
  have h0 := hE.h
  have h3 := hI.2.1.1
  have h6 := hI.2.1.2.1
  have h11 := hI.2.1.2.2.1
  have h23 := hI.2.1.2.2.2
  have hA := hL.2.2.2.1
  have hI6 := hI.2.2.2.2.2.2.1
  intro n
  induction n with
  | zero =>
    intro k hk
    have hk1 : k = (S 11 0).toNat := by omega
    have hk2 : (k : Int) = S 11 0 := by omega
    refine l_mono (rc := rc) (rs := rs) ?_ (by omega) (by omega)
    rw [hk2, hk1]
    refine l_iload d_L_step_717 rfl ?_
    refine l_aload_n d_L_step_719 rfl ?_
    refine l_bipush d_L_step_720 (by decide) ?_
    refine l_uld (hA.2.2.1) d_L_step_722 (by omega) (by omega) ?_
    refine l_icmp_ge (tgt := 753) d_L_step_723 (by decide) (by first | assumption | exact hR _ _ (by decide) | (unfold R32; omega)) (by first | assumption | exact hR _ _ (by decide) | (unfold R32; omega)) (fun z723 => ?_) (fun z723 => by exfalso; omega)
    exact kk
  | succ n ih =>
    intro k hk
    have h01 := rnN_01 S k
    have hm : rnN S (k + 1) = if rnN S k = 1 ∨ S 19 (k : Int) = 0 then 1 else 0 := rfl
    have e := ih (k + 1) (by omega)
    rw [show ((k + 1 : Nat) : Int) = (k : Int) + 1 by omega] at e
    refine l_iload d_L_step_717 rfl ?_
    refine l_aload_n d_L_step_719 rfl ?_
    refine l_bipush d_L_step_720 (by decide) ?_
    refine l_uld (hA.2.2.1) d_L_step_722 (by omega) (by omega) ?_
    refine l_icmp_ge (tgt := 753) d_L_step_723 (by decide) (by first | assumption | exact hR _ _ (by decide) | (unfold R32; omega)) (by first | assumption | exact hR _ _ (by decide) | (unfold R32; omega)) (fun z723 => by exfalso; omega) (fun z723 => ?_)
    refine l_iload d_L_step_726 rfl ?_
    refine l_if_ne (tgt := 740) d_L_step_728 (by decide) (by first | assumption | exact hR _ _ (by decide) | (unfold R32; omega)) (fun z728 => ?_) (fun z728 => ?_)
    · refine l_iconst d_L_step_740 ?_
      refine l_goto (tgt := 745) d_L_step_741 (by decide) ?_
      refine l_istore d_L_step_745 (by decide) ?_
      refine l_iinc d_L_step_747 rfl (by decide) ?_
      refine l_goto (tgt := 717) d_L_step_750 (by decide) ?_
      rw [if_pos (by omega)] at hm
      rw [hm] at e
      exact l_mono e (by show n + rc ≤ n + 1 + rc; omega) (by show 6 * n + rs ≤ 6 * (n + 1) + rs; omega)
    · refine l_aload_n d_L_step_731 rfl ?_
      refine l_iload d_L_step_732 rfl ?_
      refine l_callH (rc' := n + rc) (rs' := 6 * n + rs) d_L_step_734 q_L_step_50 s_h_stateOf v_h_stateOf (t_h_stateOf hI hE (by first | assumption | exact hR _ _ (by decide) | (unfold R32; omega))) (opX.no (show cd_stateOf S ((k : Int)) = 0 by unfold cd_stateOf; (repeat' split) <;> omega)) h0 rfl rfl rfl (Nat.le_of_ble_eq_true rfl) rfl (by show n + 1 + rc = n + rc + 1; omega) (by show 6 * (n + 1) + rs = 6 * n + rs + 6; omega) ?_
      rintro _ _ _ ⟨-, rfl, rfl, rfl⟩
      refine l_eqv (v := vl_stateOf S ((k : Int))) (w := S 19 (k : Int)) rfl ?_
      refine l_if_ne (tgt := 744) d_L_step_737 (by decide) (by first | assumption | exact hR _ _ (by decide) | (unfold R32; omega)) (fun z737 => ?_) (fun z737 => ?_)
      · refine l_iconst d_L_step_744 ?_
        refine l_istore d_L_step_745 (by decide) ?_
        refine l_iinc d_L_step_747 rfl (by decide) ?_
        refine l_goto (tgt := 717) d_L_step_750 (by decide) ?_
        rw [if_neg (by omega)] at hm
        rw [hm] at e
        exact e
      · refine l_iconst d_L_step_740 ?_
        refine l_goto (tgt := 745) d_L_step_741 (by decide) ?_
        refine l_istore d_L_step_745 (by decide) ?_
        refine l_iinc d_L_step_747 rfl (by decide) ?_
        refine l_goto (tgt := 717) d_L_step_750 (by decide) ?_
        rw [if_pos (by omega)] at hm
        rw [hm] at e
        exact e
theorem k_687 {g : xG} {t u : Nat} {ad : cA} {S : gS} {ft fu : Int → Int} {what a b i : Int} {v6 v7 v8 v9 v10 v11 v12 v13 : Option Value} (hL : LI S ft fu) (hE : Ext S) (hw : 0 ≤ what ∧ what < 2147483648) (ha : 0 ≤ a ∧ a < 2147483648) (hb : 0 ≤ b ∧ b < 2147483648) : lW g M_L_step t u qOk 940 12018 ad S ft fu 687 [some (.ref (g.2.2.2.2 5)), some (.ref t), some (.ref u), some (.int (iI what)), some (.int (iI a)), some (.int (iI b)), v6, v7, v8, v9, v10, v11, v12, v13] [] := by
  have hI := hL.1.1
  have hR := hI.1
  have h0 := hE.h
  have h3 := hI.2.1.1
  have h6 := hI.2.1.2.1
  have h11 := hI.2.1.2.2.1
  have h23 := hI.2.1.2.2.2
  have hA := hL.2.2.2.1
  have hI6 := hI.2.2.2.2.2.2.1
  have hcd : cd_schedule S (1 + b % 10000) = 0 := by unfold cd_schedule; (repeat' split) <;> omega
  have hvl := sched_vl hI hcd
  have hrn := rnN_e hI
  have hr01 := rnN_01 S (S 11 0).toNat
  refine l_iconst d_L_step_687 ?_
  refine l_iload d_L_step_688 rfl ?_
  refine l_sipush d_L_step_690 (by decide) ?_
  refine l_iremI d_L_step_693 (by omega) (by first | assumption | exact hR _ _ (by decide) | exact hR9 _ _ (by decide) | (unfold R32; omega)) (by omega) (by first | assumption | exact hR _ _ (by decide) | exact hR9 _ _ (by decide) | (unfold R32; omega)) ?_
  refine l_iadd d_L_step_694 ?_
  refine l_istore d_L_step_695 (by decide) ?_
  refine l_aload_n d_L_step_697 rfl ?_
  refine l_callL d_L_step_698 q_L_step_71 s_L_times (t_L_times hI hE) rfl rfl (Nat.le_of_ble_eq_true rfl) rfl rfl rfl ?_
  rintro _ _ _ _ _ ⟨rfl, rfl, rfl, rfl, rfl⟩
  refine l_istore d_L_step_701 (by decide) ?_
  refine l_aload_n d_L_step_703 rfl ?_
  refine l_iload d_L_step_704 rfl ?_
  refine l_callH d_L_step_706 q_L_step_75 s_h_schedule v_h_schedule (t_h_schedule hI hE (by first | assumption | exact hR _ _ (by decide) | (unfold R32; omega))) (opX.no hcd) h0 rfl rfl rfl (Nat.le_of_ble_eq_true rfl) rfl rfl rfl ?_
  rintro _ ad9 S9 ⟨-, rfl, hag9, hE9⟩
  have hL9 := LI.agr (LI_schedule hL hcd) hag9 hE9
  have hI9 := hL9.1.1
  have hR9 := hI9.1
  have h09 := hE9.h
  have hq := sched_eq hI hcd
  have e11 : S9 11 = S 11 := by rw [hag9 11 (by decide)]; exact hq 11 (by decide) (by decide) (by decide)
  have e19 : S9 19 = S 19 := by rw [hag9 19 (by decide)]; exact hq 19 (by decide) (by decide) (by decide)
  have hsm : smN S9 (S9 11 0).toNat = smN S (S 11 0).toNat + vl_schedule S (1 + b % 10000) := by
    rw [e11, smN_c (hag9 22 (by decide))]
    exact smN_sched hI hcd
  have hrn9 : rnN S9 (S9 11 0).toNat = rnN S (S 11 0).toNat := by rw [e11]; exact rnN_c e19 _
  have hvl2 : vl_schedule S (1 + b % 10000) = if rnN S (S 11 0).toNat = 1 then 1 + b % 10000 else 0 := by rw [← hrn]; exact hvl
  refine l_istore d_L_step_709 (by decide) ?_
  refine l_iconst d_L_step_711 ?_
  refine l_istore d_L_step_712 (by decide) ?_
  refine l_iconst d_L_step_714 ?_
  refine l_istore d_L_step_715 (by decide) ?_
  refine l_mono (rc := (S9 11 0).toNat + 100) (rs := 6 * (S9 11 0).toNat + 600) ?_ (by have := hI9.2.1.2.2.1; omega) (by have := hI9.2.1.2.2.1; omega)
  refine W_runs hL9 hE9 ?_ (S9 11 0).toNat 0 (by have := hI9.2.1.2.2.1; omega)
  rw [hrn9]
  refine l_iload d_L_step_753 rfl ?_
  refine l_iload d_L_step_755 rfl ?_
  refine l_if_eq (tgt := 765) d_L_step_757 (by decide) (by first | assumption | exact hR _ _ (by decide) | exact hR9 _ _ (by decide) | (unfold R32; omega)) (fun z757 => ?_) (fun z757 => ?_)
  · refine l_iconst d_L_step_765 ?_
    rw [if_neg (by omega)] at hvl2
    refine l_icmp_ne (tgt := 785) d_L_step_766 (by decide) (by first | assumption | exact hR _ _ (by decide) | exact hR9 _ _ (by decide) | (unfold R32; omega)) (by first | assumption | exact hR _ _ (by decide) | exact hR9 _ _ (by decide) | (unfold R32; omega)) (fun z766 => by exfalso; omega) (fun z766 => ?_)
    refine l_aload_n d_L_step_769 rfl ?_
    refine l_callL d_L_step_770 q_L_step_71 s_L_times (t_L_times hI9 hE9) rfl rfl (Nat.le_of_ble_eq_true rfl) rfl rfl rfl ?_
    rintro _ _ _ _ _ ⟨rfl, rfl, rfl, rfl, rfl⟩
    refine l_eqv (v := smN S9 (S9 11 0).toNat) (w := smN S (S 11 0).toNat + vl_schedule S (1 + b % 10000)) hsm ?_
    refine l_iload d_L_step_773 rfl ?_
    refine l_iload d_L_step_775 rfl ?_
    refine l_iadd d_L_step_777 ?_
    refine l_icmp_ne_same (tgt := 785) d_L_step_778 (by decide) ?_
    refine l_iconst d_L_step_781 ?_
    refine l_goto (tgt := 786) d_L_step_782 (by decide) ?_
    exact l_zret rfl (Or.inr rfl) d_L_step_786 (⟨rfl, hL9, hE9⟩)
  · refine l_iload d_L_step_760 rfl ?_
    refine l_goto (tgt := 766) d_L_step_762 (by decide) ?_
    rw [if_pos (by omega)] at hvl2
    refine l_icmp_ne (tgt := 785) d_L_step_766 (by decide) (by first | assumption | exact hR _ _ (by decide) | exact hR9 _ _ (by decide) | (unfold R32; omega)) (by first | assumption | exact hR _ _ (by decide) | exact hR9 _ _ (by decide) | (unfold R32; omega)) (fun z766 => by exfalso; omega) (fun z766 => ?_)
    refine l_aload_n d_L_step_769 rfl ?_
    refine l_callL d_L_step_770 q_L_step_71 s_L_times (t_L_times hI9 hE9) rfl rfl (Nat.le_of_ble_eq_true rfl) rfl rfl rfl ?_
    rintro _ _ _ _ _ ⟨rfl, rfl, rfl, rfl, rfl⟩
    refine l_eqv (v := smN S9 (S9 11 0).toNat) (w := smN S (S 11 0).toNat + vl_schedule S (1 + b % 10000)) hsm ?_
    refine l_iload d_L_step_773 rfl ?_
    refine l_iload d_L_step_775 rfl ?_
    refine l_iadd d_L_step_777 ?_
    refine l_icmp_ne_same (tgt := 785) d_L_step_778 (by decide) ?_
    refine l_iconst d_L_step_781 ?_
    refine l_goto (tgt := 786) d_L_step_782 (by decide) ?_
    exact l_zret rfl (Or.inr rfl) d_L_step_786 (⟨rfl, hL9, hE9⟩)
theorem k_639 {g : xG} {t u : Nat} {ad : cA} {S : gS} {ft fu : Int → Int} {what a b i : Int} {v7 v8 v9 v10 v11 v12 v13 : Option Value} (hL : LI S ft fu) (hE : Ext S) (hw : 0 ≤ what ∧ what < 2147483648) (ha : 0 ≤ a ∧ a < 2147483648) (hb : 0 ≤ b ∧ b < 2147483648) (hc : S 11 0 ≠ 0) (h5 : 5 ≤ what % 24) : lW g M_L_step t u qOk 955 12108 ad S ft fu 639 [some (.ref (g.2.2.2.2 5)), some (.ref t), some (.ref u), some (.int (iI what)), some (.int (iI a)), some (.int (iI b)), some (.int (iI i)), v7, v8, v9, v10, v11, v12, v13] [] := by
  have hI := hL.1.1
  have hR := hI.1
  have h0 := hE.h
  have h3 := hI.2.1.1
  have h6 := hI.2.1.2.1
  have h11 := hI.2.1.2.2.1
  have h23 := hI.2.1.2.2.2
  have hA := hL.2.2.2.1
  have hI6 := hI.2.2.2.2.2.2.1
  have hp0 := Int.emod_nonneg a hc
  have hpl := Int.emod_lt_of_pos a (show 0 < S 11 0 by omega)
  have q4 := hI.2.2.2.2.1 (a % S 11 0) hp0 hpl
  refine l_iload d_L_step_639 rfl ?_
  refine l_aload_n d_L_step_641 rfl ?_
  refine l_bipush d_L_step_642 (by decide) ?_
  refine l_uld (hA.2.2.1) d_L_step_644 (by omega) (by omega) ?_
  refine l_iremI d_L_step_645 (by omega) (by first | assumption | exact hR _ _ (by decide) | (unfold R32; omega)) (by omega) (by first | assumption | exact hR _ _ (by decide) | (unfold R32; omega)) ?_
  refine l_istore d_L_step_646 (by decide) ?_
  refine l_aload_n d_L_step_648 rfl ?_
  refine l_iload d_L_step_649 rfl ?_
  refine l_callH d_L_step_651 q_L_step_50 s_h_stateOf v_h_stateOf (t_h_stateOf hI hE (by first | assumption | exact hR _ _ (by decide) | exact hR9 _ _ (by decide) | (unfold R32; omega))) (opX.no (show cd_stateOf S ((a % S 11 0)) = 0 by unfold cd_stateOf; (repeat' split) <;> omega)) h0 rfl rfl rfl (Nat.le_of_ble_eq_true rfl) rfl rfl rfl ?_
  rintro _ _ _ ⟨-, rfl, rfl, rfl⟩
  refine l_eqv (v := vl_stateOf S ((a % S 11 0))) (w := S 19 (a % S 11 0)) rfl ?_
  refine l_istore d_L_step_654 (by decide) ?_
  refine l_iload_n d_L_step_656 rfl ?_
  refine l_bipush d_L_step_657 (by decide) ?_
  refine l_iremI d_L_step_659 (by omega) (by first | assumption | exact hR _ _ (by decide) | (unfold R32; omega)) (by omega) (by first | assumption | exact hR _ _ (by decide) | (unfold R32; omega)) ?_
  refine l_bipush d_L_step_660 (by decide) ?_
  refine l_icmp_ne (tgt := 678) d_L_step_662 (by decide) (by first | assumption | exact hR _ _ (by decide) | (unfold R32; omega)) (by first | assumption | exact hR _ _ (by decide) | (unfold R32; omega)) (fun z662 => ?_) (fun z662 => ?_)
  · refine l_iload_n d_L_step_678 rfl ?_
    refine l_bipush d_L_step_679 (by decide) ?_
    refine l_iremI d_L_step_681 (by omega) (by first | assumption | exact hR _ _ (by decide) | (unfold R32; omega)) (by omega) (by first | assumption | exact hR _ _ (by decide) | (unfold R32; omega)) ?_
    refine l_bipush d_L_step_682 (by decide) ?_
    refine l_icmp_ne (tgt := 787) d_L_step_684 (by decide) (by first | assumption | exact hR _ _ (by decide) | (unfold R32; omega)) (by first | assumption | exact hR _ _ (by decide) | (unfold R32; omega)) (fun z684 => ?_) (fun z684 => ?_)
    · refine l_iload d_L_step_787 rfl ?_
      refine l_if_ne (tgt := 809) d_L_step_789 (by decide) (by first | assumption | exact hR _ _ (by decide) | (unfold R32; omega)) (fun z789 => ?_) (fun z789 => ?_)
      · refine l_iconst d_L_step_809 ?_
        refine l_goto (tgt := 814) d_L_step_810 (by decide) ?_
        exact l_zret rfl (Or.inr rfl) d_L_step_814 (⟨rfl, hL, hE⟩)
      · refine l_aload_n d_L_step_792 rfl ?_
        refine l_aload_n d_L_step_793 rfl ?_
        refine l_aload_n d_L_step_794 rfl ?_
        refine l_iload d_L_step_795 rfl ?_
        refine l_iload_n d_L_step_797 rfl ?_
        refine l_bipush d_L_step_798 (by decide) ?_
        refine l_iremI d_L_step_800 (by omega) (by first | assumption | exact hR _ _ (by decide) | (unfold R32; omega)) (by omega) (by first | assumption | exact hR _ _ (by decide) | (unfold R32; omega)) ?_
        refine l_iload d_L_step_801 rfl ?_
        refine l_callL d_L_step_803 q_L_step_78 s_L_works (t_L_works hL hE hp0 hpl (by omega) hb (by omega)) rfl rfl (Nat.le_of_ble_eq_true rfl) rfl rfl rfl ?_
        rintro _ ad9 S9 ft9 fu9 ⟨rfl, hL9, hE9⟩
        refine l_if_eq (tgt := 813) d_L_step_806 (by decide) (by first | assumption | exact hR _ _ (by decide) | (unfold R32; omega)) (fun z806 => by exfalso; omega) (fun z806 => ?_)
        refine l_iconst d_L_step_809 ?_
        refine l_goto (tgt := 814) d_L_step_810 (by decide) ?_
        exact l_zret rfl (Or.inr rfl) d_L_step_814 (⟨rfl, hL9, hE9⟩)
    · exact l_mono (k_687 (i := i) hL hE hw ha hb) (by decide) (by decide)
  · refine l_aload_n d_L_step_665 rfl ?_
    refine l_aload_n d_L_step_666 rfl ?_
    refine l_aload_n d_L_step_667 rfl ?_
    refine l_iload d_L_step_668 rfl ?_
    refine l_iload d_L_step_670 rfl ?_
    refine l_iload d_L_step_672 rfl ?_
    refine l_callL d_L_step_674 q_L_step_68 s_L_checks (t_L_checks hL hE hp0 hpl hb) rfl rfl (Nat.le_of_ble_eq_true rfl) rfl rfl rfl ?_
    rintro _ ad9 S9 ft9 fu9 ⟨rfl, hL9, hE9⟩
    exact l_zret rfl (Or.inr rfl) d_L_step_677 (⟨rfl, hL9, hE9⟩)
theorem k_216 {g : xG} {t u : Nat} {ad : cA} {S : gS} {ft fu : Int → Int} {what a b i : Int} {v7 v8 v9 v10 v11 v12 v13 : Option Value} (hL : LI S ft fu) (hE : Ext S) (hw : 0 ≤ what ∧ what < 2147483648) (ha : 0 ≤ a ∧ a < 2147483648) (hb : 0 ≤ b ∧ b < 2147483648) (i0 : 0 ≤ i) (i1 : i < S 3 0) : lW g M_L_step t u qOk 955 12108 ad S ft fu 216 [some (.ref (g.2.2.2.2 5)), some (.ref t), some (.ref u), some (.int (iI what)), some (.int (iI a)), some (.int (iI b)), some (.int (iI i)), v7, v8, v9, v10, v11, v12, v13] [] := by
  have hI := hL.1.1
  have hR := hI.1
  have h0 := hE.h
  have h3 := hI.2.1.1
  have h6 := hI.2.1.2.1
  have h11 := hI.2.1.2.2.1
  have h23 := hI.2.1.2.2.2
  have hA := hL.2.2.2.1
  have hI6 := hI.2.2.2.2.2.2.1
  have hB := hL.2.2.2.2.1 i i0 i1
  have hs5 := hI6.2.2.1 i
  have hla := lay_8 hI i0 i1
  have k408 : 5 ≤ what % 24 → lW g M_L_step t u qOk 955 12108 ad S ft fu 408 [some (.ref (g.2.2.2.2 5)), some (.ref t), some (.ref u), some (.int (iI what)), some (.int (iI a)), some (.int (iI b)), some (.int (iI i)), v7, v8, v9, v10, v11, v12, v13] [] := fun h5 => by
    refine l_iload_n d_L_step_408 rfl ?_
    refine l_bipush d_L_step_409 (by decide) ?_
    refine l_iremI d_L_step_411 (by omega) (by first | assumption | exact hR _ _ (by decide) | (unfold R32; omega)) (by omega) (by first | assumption | exact hR _ _ (by decide) | (unfold R32; omega)) ?_
    refine l_bipush d_L_step_412 (by decide) ?_
    refine l_icmp_ge (tgt := 426) d_L_step_414 (by decide) (by first | assumption | exact hR _ _ (by decide) | (unfold R32; omega)) (by first | assumption | exact hR _ _ (by decide) | (unfold R32; omega)) (fun z414 => ?_) (fun z414 => ?_)
    · refine l_aload_n d_L_step_426 rfl ?_
      refine l_bipush d_L_step_427 (by decide) ?_
      refine l_uld (hA.2.2.1) d_L_step_429 (by omega) (by omega) ?_
      refine l_if_ne (tgt := 639) d_L_step_430 (by decide) (by first | assumption | exact hR _ _ (by decide) | (unfold R32; omega)) (fun z430 => ?_) (fun z430 => ?_)
      · exact k_639 hL hE hw ha hb (by omega) (by omega)
      · exact k_433 hL hE hw ha hb i0 i1 (by omega)
    · refine l_aload_n d_L_step_417 rfl ?_
      refine l_bipush d_L_step_418 (by decide) ?_
      refine l_uld (hA.2.2.1) d_L_step_420 (by omega) (by omega) ?_
      refine l_bipush d_L_step_421 (by decide) ?_
      refine l_icmp_lt (tgt := 433) d_L_step_423 (by decide) (by first | assumption | exact hR _ _ (by decide) | (unfold R32; omega)) (by first | assumption | exact hR _ _ (by decide) | (unfold R32; omega)) (fun z423 => ?_) (fun z423 => ?_)
      · exact k_433 hL hE hw ha hb i0 i1 (by omega)
      · refine l_aload_n d_L_step_426 rfl ?_
        refine l_bipush d_L_step_427 (by decide) ?_
        refine l_uld (hA.2.2.1) d_L_step_429 (by omega) (by omega) ?_
        refine l_if_ne (tgt := 639) d_L_step_430 (by decide) (by first | assumption | exact hR _ _ (by decide) | (unfold R32; omega)) (fun z430 => ?_) (fun z430 => ?_)
        · exact k_639 hL hE hw ha hb (by omega) (by omega)
        · exact k_433 hL hE hw ha hb i0 i1 (by omega)
  refine l_iload_n d_L_step_216 rfl ?_
  refine l_bipush d_L_step_217 (by decide) ?_
  refine l_iremI d_L_step_219 (by omega) (by first | assumption | exact hR _ _ (by decide) | (unfold R32; omega)) (by omega) (by first | assumption | exact hR _ _ (by decide) | (unfold R32; omega)) ?_
  refine l_iconst d_L_step_220 ?_
  refine l_icmp_ge (tgt := 239) d_L_step_221 (by decide) (by first | assumption | exact hR _ _ (by decide) | (unfold R32; omega)) (by first | assumption | exact hR _ _ (by decide) | (unfold R32; omega)) (fun z221 => ?_) (fun z221 => ?_)
  · refine l_iload_n d_L_step_239 rfl ?_
    refine l_bipush d_L_step_240 (by decide) ?_
    refine l_iremI d_L_step_242 (by omega) (by first | assumption | exact hR _ _ (by decide) | (unfold R32; omega)) (by omega) (by first | assumption | exact hR _ _ (by decide) | (unfold R32; omega)) ?_
    refine l_iconst d_L_step_243 ?_
    refine l_icmp_ne (tgt := 408) d_L_step_244 (by decide) (by first | assumption | exact hR _ _ (by decide) | (unfold R32; omega)) (by first | assumption | exact hR _ _ (by decide) | (unfold R32; omega)) (fun z244 => ?_) (fun z244 => ?_)
    · exact k408 (by omega)
    · refine l_aload_n d_L_step_247 rfl ?_
      refine l_bipush d_L_step_248 (by decide) ?_
      refine l_uld (hA.2.1) d_L_step_250 (by omega) (by omega) ?_
      refine l_bipush d_L_step_251 (by decide) ?_
      refine l_icmp_ge (tgt := 408) d_L_step_253 (by decide) (by first | assumption | exact hR _ _ (by decide) | (unfold R32; omega)) (by first | assumption | exact hR _ _ (by decide) | (unfold R32; omega)) (fun z253 => ?_) (fun z253 => ?_)
      · exact k408 (by omega)
      · exact k_256 hL hE hw ha hb (by omega)
  · exact k_216i hL hE hw ha hb i0 i1 (by omega)
theorem k_18 {g : xG} {t u : Nat} {ad : cA} {S : gS} {ft fu : Int → Int} {what a b i : Int} {v6 v7 v8 v9 v10 v11 v12 v13 : Option Value} (hL : LI S ft fu) (hE : Ext S) (hw : 0 ≤ what ∧ what < 2147483648) (ha : 0 ≤ a ∧ a < 2147483648) (hb : 0 ≤ b ∧ b < 2147483648) (hz : (S 3 0 = 0 ∧ i = 0) ∨ (0 ≤ i ∧ i < S 3 0)) : lW g M_L_step t u qOk 955 12108 ad S ft fu 18 [some (.ref (g.2.2.2.2 5)), some (.ref t), some (.ref u), some (.int (iI what)), some (.int (iI a)), some (.int (iI b)), v6, v7, v8, v9, v10, v11, v12, v13] [.int (iI i)] := by
  have hI := hL.1.1
  have hR := hI.1
  have h0 := hE.h
  have h3 := hI.2.1.1
  have h6 := hI.2.1.2.1
  have h11 := hI.2.1.2.2.1
  have h23 := hI.2.1.2.2.2
  have hA := hL.2.2.2.1
  have hI6 := hI.2.2.2.2.2.2.1
  refine l_istore d_L_step_18 (by decide) ?_
  refine l_aload_n d_L_step_20 rfl ?_
  refine l_bipush d_L_step_21 (by decide) ?_
  refine l_uld (hA.1) d_L_step_23 (by omega) (by omega) ?_
  refine l_if_eq (tgt := 43) d_L_step_24 (by decide) (by first | assumption | exact hR _ _ (by decide) | (unfold R32; omega)) (fun z24 => ?_) (fun z24 => ?_)
  · exact k_43 hL hE hw ha hb (by omega) (by omega)
  · refine l_iload_n d_L_step_27 rfl ?_
    refine l_bipush d_L_step_28 (by decide) ?_
    refine l_iremI d_L_step_30 (by omega) (by first | assumption | exact hR _ _ (by decide) | (unfold R32; omega)) (by omega) (by first | assumption | exact hR _ _ (by decide) | (unfold R32; omega)) ?_
    refine l_if_ne (tgt := 216) d_L_step_31 (by decide) (by first | assumption | exact hR _ _ (by decide) | (unfold R32; omega)) (fun z31 => ?_) (fun z31 => ?_)
    · exact k_216 hL hE hw ha hb (by omega) (by omega)
    · refine l_aload_n d_L_step_34 rfl ?_
      refine l_bipush d_L_step_35 (by decide) ?_
      refine l_uld (hA.1) d_L_step_37 (by omega) (by omega) ?_
      refine l_bipush d_L_step_38 (by decide) ?_
      refine l_icmp_ge (tgt := 216) d_L_step_40 (by decide) (by first | assumption | exact hR _ _ (by decide) | (unfold R32; omega)) (by first | assumption | exact hR _ _ (by decide) | (unfold R32; omega)) (fun z40 => ?_) (fun z40 => ?_)
      · exact k_216 hL hE hw ha hb (by omega) (by omega)
      · exact k_43 hL hE hw ha hb (by omega) (by omega)
theorem t_L_step {g : xG} {t u : Nat} {ad : cA} {S : gS} {ft fu : Int → Int} {what a b : Int} (hL : LI S ft fu) (hE : Ext S) (hw : 0 ≤ what ∧ what < 2147483648) (ha : 0 ≤ a ∧ a < 2147483648) (hb : 0 ≤ b ∧ b < 2147483648) : lM g y_L_step k_L_step M_L_step t u [.ref (g.2.2.2.2 5), .ref t, .ref u, .int (iI what), .int (iI a), .int (iI b)] ad S ft fu qOk := by
  refine lM.of rfl (by decide) rfl rfl rfl (by simp [Value.category]) (Nat.le_of_ble_eq_true rfl) rfl ?_
  have hI := hL.1.1
  have hR := hI.1
  have h0 := hE.h
  have h3 := hI.2.1.1
  have h6 := hI.2.1.2.1
  have h11 := hI.2.1.2.2.1
  have h23 := hI.2.1.2.2.2
  have hA := hL.2.2.2.1
  have hI6 := hI.2.2.2.2.2.2.1
  refine l_aload_n d_L_step_0 rfl ?_
  refine l_bipush d_L_step_1 (by decide) ?_
  refine l_uld (hA.1) d_L_step_3 (by omega) (by omega) ?_
  refine l_if_ne (tgt := 11) d_L_step_4 (by decide) (by first | assumption | exact hR _ _ (by decide) | (unfold R32; omega)) (fun z4 => ?_) (fun z4 => ?_)
  · have hp0 := Int.emod_nonneg a (show S 3 0 ≠ 0 by omega)
    have hpl := Int.emod_lt_of_pos a (show 0 < S 3 0 by omega)
    refine l_iload d_L_step_11 rfl ?_
    refine l_aload_n d_L_step_13 rfl ?_
    refine l_bipush d_L_step_14 (by decide) ?_
    refine l_uld (hA.1) d_L_step_16 (by omega) (by omega) ?_
    refine l_iremI d_L_step_17 (by omega) (by first | assumption | exact hR _ _ (by decide) | (unfold R32; omega)) (by omega) (by first | assumption | exact hR _ _ (by decide) | (unfold R32; omega)) ?_
    exact k_18 hL hE hw ha hb (Or.inr ⟨hp0, hpl⟩)
  · refine l_iconst d_L_step_7 ?_
    refine l_goto (tgt := 18) d_L_step_8 (by decide) ?_
    exact k_18 hL hE hw ha hb (Or.inl ⟨by omega, rfl⟩)
