/-! the law's method works, case by case -/
theorem alloc_11 {S : gS} {ft fu : Int → Int} {c u : Int} (h : LI S ft fu) (hcd : cd_allocate S c u = 0) : st_allocate S c u 11 = S 11 := by
  have q := alloc_b hcd
  obtain ⟨-, k2, -, -⟩ := alK_li (u := u) q.1 21 h q.2.1 (Or.inl q.2.2.2.2)
  unfold st_allocate
  split
  · exact k2
  · rw [sset_n _ _ _ (by decide)]
    exact k2
theorem exit_11 {S : gS} {c : Int} : st_exit S c 11 0 = S 11 0 := by
  unfold st_exit
  split
  · rw [show stp (sset S 15 c (S 15 c - 1)) c 11 = sset S 15 c (S 15 c - 1) 11 from stp_k rfl]
    rfl
  · rfl
theorem W_alloc {g : xG} {t u : Nat} {ad : cA} {S : gS} {ft fu : Int → Int} {c what b m d : Int} (hL : LI S ft fu) (hE : Ext S) (c0 : 0 ≤ c) (c1 : c < S 11 0) (hs : S 19 c = 0) (hb : 0 ≤ b ∧ b < 2147483648) (hm : m = 0 ∨ m = 1) (hm1 : m = 1 → 4 ≤ b % 32 ∨ S 17 c / 2 % 2 = 1) (hd : 1 ≤ d ∧ d ≤ 5000) : lW g M_L_works t u qOk 235 1410 ad S ft fu 130 [some (.ref (g.2.2.2.2 5)), some (.ref t), some (.ref u), some (.int (iI c)), some (.int (iI what)), some (.int (iI b)), some (.int (iI (16 * S 16 c + S 17 c))), some (.int (iI (S 14 c))), some (.int (iI (b % 32))), some (.int (iI (csee S c (b % 32)))), some (.int (iI m)), none, none, none, none] [.int (iI d), .int (iI b), .int (iI 1)] := by
  have hI := hL.1.1
  have hR := hI.1
  have h0 := hE.h
  have h3 := hI.2.1.1
  have h6 := hI.2.1.2.1
  have h11 := hI.2.1.2.2.1
  have h23 := hI.2.1.2.2.2
  have hA := hL.2.2.2.1
  have hI6 := hI.2.2.2.2.2.2.1
  have q4 := hI.2.2.2.2.1 c c0 c1
  have qc := hI.2.2.2.1 c (Or.inl ⟨c0, c1⟩)
  have hx := csee_b hI c (b % 32)
  have hcs := hL.2.2.1 c (Or.inl ⟨c0, c1⟩)
  have hK := hL.2.2.2.2.2.2 c c0 c1
  have hp15 := hL.1.2.2.2.1 c c0 c1
  have hm0 := Int.emod_nonneg b (show d ≠ 0 by omega)
  have hml := Int.emod_lt_of_pos b (show 0 < d by omega)
  have hcd : cd_allocate S c (1 + b % d) = 0 := by unfold cd_allocate; (repeat' split) <;> omega
  have hav := alloc_vl hL hcd
  refine l_iremI d_L_works_130 (by omega) (by first | assumption | exact hR _ _ (by decide) | exact hR9 _ _ (by decide) | (unfold R32; omega)) (by omega) (by first | assumption | exact hR _ _ (by decide) | exact hR9 _ _ (by decide) | (unfold R32; omega)) ?_
  refine l_iadd d_L_works_131 ?_
  refine l_istore d_L_works_132 (by decide) ?_
  refine l_aload_n d_L_works_134 rfl ?_
  refine l_iload_n d_L_works_135 rfl ?_
  refine l_iload d_L_works_136 rfl ?_
  refine l_callH d_L_works_138 q_L_works_120 s_h_allocate v_h_allocate (t_h_allocate hI hE (by first | assumption | exact hR _ _ (by decide) | (unfold R32; omega)) (by first | assumption | exact hR _ _ (by decide) | (unfold R32; omega)) hL.1.2) (opX.no hcd) h0 rfl rfl rfl (Nat.le_of_ble_eq_true rfl) rfl rfl rfl ?_
  rintro _ ad9 S9 ⟨-, rfl, hag9, hE9⟩
  have hL9 := LI.agr (LI_allocate hL hcd) hag9 hE9
  have hI9 := hL9.1.1
  have hR9 := hI9.1
  have h09 := hE9.h
  have hr11 := alloc_11 hL hcd
  have e11 : S9 11 0 = S 11 0 := by rw [hag9 11 (by decide), hr11]
  have e19 : S9 19 c = st_allocate S c (1 + b % d) 19 c := congrFun (hag9 19 (by decide)) c
  have e14 : S9 14 c = st_allocate S c (1 + b % d) 14 c := congrFun (hag9 14 (by decide)) c
  have q49 := hI9.2.2.2.2.1 c c0 (by omega)
  refine l_istore d_L_works_141 (by decide) ?_
  refine l_iload d_L_works_143 rfl ?_
  refine l_iconst d_L_works_145 ?_
  refine l_icmp_ne (tgt := 174) d_L_works_146 (by decide) (by first | assumption | exact hR _ _ (by decide) | exact hR9 _ _ (by decide) | (unfold R32; omega)) (by first | assumption | exact hR _ _ (by decide) | exact hR9 _ _ (by decide) | (unfold R32; omega)) (fun z146 => ?_) (fun z146 => ?_)
  · refine l_iload d_L_works_174 rfl ?_
    refine l_iload d_L_works_176 rfl ?_
    refine l_iload d_L_works_178 rfl ?_
    refine l_iadd d_L_works_180 ?_
    refine l_icmp_ne (tgt := 206) d_L_works_181 (by decide) (by first | assumption | exact hR _ _ (by decide) | exact hR9 _ _ (by decide) | (unfold R32; omega)) (by first | assumption | exact hR _ _ (by decide) | exact hR9 _ _ (by decide) | (unfold R32; omega)) (fun z181 => by exfalso; omega) (fun z181 => ?_)
    refine l_aload_n d_L_works_184 rfl ?_
    refine l_iload_n d_L_works_185 rfl ?_
    refine l_callH d_L_works_186 q_L_works_53 s_h_memoryOf v_h_memoryOf (t_h_memoryOf hI9 hE9 (by first | assumption | exact hR _ _ (by decide) | exact hR9 _ _ (by decide) | (unfold R32; omega))) (opX.no (show cd_memoryOf S9 (c) = 0 by unfold cd_memoryOf; (repeat' split) <;> omega)) h09 rfl rfl rfl (Nat.le_of_ble_eq_true rfl) rfl rfl rfl ?_
    rintro _ _ _ ⟨-, rfl, rfl, rfl⟩
    refine l_eqv (v := vl_memoryOf S9 (c)) (w := S9 14 c) rfl ?_
    refine l_iload d_L_works_189 rfl ?_
    refine l_icmp_ne (tgt := 206) d_L_works_191 (by decide) (by first | assumption | exact hR _ _ (by decide) | exact hR9 _ _ (by decide) | (unfold R32; omega)) (by first | assumption | exact hR _ _ (by decide) | exact hR9 _ _ (by decide) | (unfold R32; omega)) (fun z191 => by exfalso; omega) (fun z191 => ?_)
    refine l_aload_n d_L_works_194 rfl ?_
    refine l_iload_n d_L_works_195 rfl ?_
    refine l_callH d_L_works_196 q_L_works_50 s_h_stateOf v_h_stateOf (t_h_stateOf hI9 hE9 (by first | assumption | exact hR _ _ (by decide) | exact hR9 _ _ (by decide) | (unfold R32; omega))) (opX.no (show cd_stateOf S9 (c) = 0 by unfold cd_stateOf; (repeat' split) <;> omega)) h09 rfl rfl rfl (Nat.le_of_ble_eq_true rfl) rfl rfl rfl ?_
    rintro _ _ _ ⟨-, rfl, rfl, rfl⟩
    refine l_eqv (v := vl_stateOf S9 (c)) (w := S9 19 c) rfl ?_
    refine l_if_ne (tgt := 206) d_L_works_199 (by decide) (by first | assumption | exact hR _ _ (by decide) | exact hR9 _ _ (by decide) | (unfold R32; omega)) (fun z199 => by exfalso; omega) (fun z199 => ?_)
    refine l_iconst d_L_works_202 ?_
    refine l_goto (tgt := 207) d_L_works_203 (by decide) ?_
    exact l_zret rfl (Or.inr rfl) d_L_works_207 (⟨rfl, hL9, hE9⟩)
  · refine l_aload_n d_L_works_149 rfl ?_
    refine l_iload_n d_L_works_150 rfl ?_
    refine l_callH d_L_works_151 q_L_works_50 s_h_stateOf v_h_stateOf (t_h_stateOf hI9 hE9 (by first | assumption | exact hR _ _ (by decide) | exact hR9 _ _ (by decide) | (unfold R32; omega))) (opX.no (show cd_stateOf S9 (c) = 0 by unfold cd_stateOf; (repeat' split) <;> omega)) h09 rfl rfl rfl (Nat.le_of_ble_eq_true rfl) rfl rfl rfl ?_
    rintro _ _ _ ⟨-, rfl, rfl, rfl⟩
    refine l_eqv (v := vl_stateOf S9 (c)) (w := S9 19 c) rfl ?_
    refine l_iconst d_L_works_154 ?_
    refine l_icmp_ne (tgt := 170) d_L_works_155 (by decide) (by first | assumption | exact hR _ _ (by decide) | exact hR9 _ _ (by decide) | (unfold R32; omega)) (by first | assumption | exact hR _ _ (by decide) | exact hR9 _ _ (by decide) | (unfold R32; omega)) (fun z155 => by exfalso; omega) (fun z155 => ?_)
    refine l_aload_n d_L_works_158 rfl ?_
    refine l_iload_n d_L_works_159 rfl ?_
    refine l_callH d_L_works_160 q_L_works_53 s_h_memoryOf v_h_memoryOf (t_h_memoryOf hI9 hE9 (by first | assumption | exact hR _ _ (by decide) | exact hR9 _ _ (by decide) | (unfold R32; omega))) (opX.no (show cd_memoryOf S9 (c) = 0 by unfold cd_memoryOf; (repeat' split) <;> omega)) h09 rfl rfl rfl (Nat.le_of_ble_eq_true rfl) rfl rfl rfl ?_
    rintro _ _ _ ⟨-, rfl, rfl, rfl⟩
    refine l_eqv (v := vl_memoryOf S9 (c)) (w := S9 14 c) rfl ?_
    refine l_if_ne (tgt := 170) d_L_works_163 (by decide) (by first | assumption | exact hR _ _ (by decide) | exact hR9 _ _ (by decide) | (unfold R32; omega)) (fun z163 => by exfalso; omega) (fun z163 => ?_)
    refine l_iconst d_L_works_166 ?_
    refine l_goto (tgt := 207) d_L_works_167 (by decide) ?_
    exact l_zret rfl (Or.inr rfl) d_L_works_207 (⟨rfl, hL9, hE9⟩)
theorem k_112 {g : xG} {t u : Nat} {ad : cA} {S : gS} {ft fu : Int → Int} {c what b m : Int} (hL : LI S ft fu) (hE : Ext S) (c0 : 0 ≤ c) (c1 : c < S 11 0) (hs : S 19 c = 0) (hb : 0 ≤ b ∧ b < 2147483648) (hm : m = 0 ∨ m = 1) (hm1 : m = 1 → 4 ≤ b % 32 ∨ S 17 c / 2 % 2 = 1) : lW g M_L_works t u qOk 235 1410 ad S ft fu 112 [some (.ref (g.2.2.2.2 5)), some (.ref t), some (.ref u), some (.int (iI c)), some (.int (iI what)), some (.int (iI b)), some (.int (iI (16 * S 16 c + S 17 c))), some (.int (iI (S 14 c))), some (.int (iI (b % 32))), some (.int (iI (csee S c (b % 32)))), some (.int (iI m)), none, none, none, none] [] := by
  have hI := hL.1.1
  have hR := hI.1
  have h0 := hE.h
  have h3 := hI.2.1.1
  have h6 := hI.2.1.2.1
  have h11 := hI.2.1.2.2.1
  have h23 := hI.2.1.2.2.2
  have hA := hL.2.2.2.1
  have hI6 := hI.2.2.2.2.2.2.1
  have q4 := hI.2.2.2.2.1 c c0 c1
  have qc := hI.2.2.2.1 c (Or.inl ⟨c0, c1⟩)
  have hx := csee_b hI c (b % 32)
  have hcs := hL.2.2.1 c (Or.inl ⟨c0, c1⟩)
  have hK := hL.2.2.2.2.2.2 c c0 c1
  have hp15 := hL.1.2.2.2.1 c c0 c1
  refine l_iconst d_L_works_112 ?_
  refine l_iload d_L_works_113 rfl ?_
  refine l_iload d_L_works_115 rfl ?_
  refine l_iconst d_L_works_117 ?_
  refine l_iremI d_L_works_118 (by omega) (by first | assumption | exact hR _ _ (by decide) | (unfold R32; omega)) (by omega) (by first | assumption | exact hR _ _ (by decide) | (unfold R32; omega)) ?_
  refine l_if_ne (tgt := 128) d_L_works_119 (by decide) (by first | assumption | exact hR _ _ (by decide) | (unfold R32; omega)) (fun z119 => ?_) (fun z119 => ?_)
  · refine l_bipush d_L_works_128 (by decide) ?_
    exact W_alloc hL hE c0 c1 hs hb hm hm1 (by omega)
  · refine l_sipush d_L_works_122 (by decide) ?_
    refine l_goto (tgt := 130) d_L_works_125 (by decide) ?_
    exact W_alloc hL hE c0 c1 hs hb hm hm1 (by omega)
theorem W_free {g : xG} {t u : Nat} {ad : cA} {S : gS} {ft fu : Int → Int} {c what b m d : Int} (hL : LI S ft fu) (hE : Ext S) (c0 : 0 ≤ c) (c1 : c < S 11 0) (hs : S 19 c = 0) (hb : 0 ≤ b ∧ b < 2147483648) (hm : m = 0 ∨ m = 1) (hm1 : m = 1 → 4 ≤ b % 32 ∨ S 17 c / 2 % 2 = 1) (hd : (S 14 c < 5000 ∧ d = S 14 c) ∨ (5000 ≤ S 14 c ∧ d = 5000)) (hz : S 14 c ≠ 0) : lW g M_L_works t u qOk 235 1410 ad S ft fu 234 [some (.ref (g.2.2.2.2 5)), some (.ref t), some (.ref u), some (.int (iI c)), some (.int (iI what)), some (.int (iI b)), some (.int (iI (16 * S 16 c + S 17 c))), some (.int (iI (S 14 c))), some (.int (iI (b % 32))), some (.int (iI (csee S c (b % 32)))), some (.int (iI m)), none, none, none, none] [.int (iI d), .int (iI b), .int (iI 1), .int (iI c), .ref (g.2.2.2.2 5)] := by
  have hI := hL.1.1
  have hR := hI.1
  have h0 := hE.h
  have h3 := hI.2.1.1
  have h6 := hI.2.1.2.1
  have h11 := hI.2.1.2.2.1
  have h23 := hI.2.1.2.2.2
  have hA := hL.2.2.2.1
  have hI6 := hI.2.2.2.2.2.2.1
  have q4 := hI.2.2.2.2.1 c c0 c1
  have qc := hI.2.2.2.1 c (Or.inl ⟨c0, c1⟩)
  have hx := csee_b hI c (b % 32)
  have hcs := hL.2.2.1 c (Or.inl ⟨c0, c1⟩)
  have hK := hL.2.2.2.2.2.2 c c0 c1
  have hp15 := hL.1.2.2.2.1 c c0 c1
  have hm0 := Int.emod_nonneg b (show d ≠ 0 by omega)
  have hml := Int.emod_lt_of_pos b (show 0 < d by omega)
  have hcd : cd_free S c (1 + b % d) = 0 := by unfold cd_free; (repeat' split) <;> omega
  refine l_iremI d_L_works_234 (by omega) (by first | assumption | exact hR _ _ (by decide) | exact hR9 _ _ (by decide) | (unfold R32; omega)) (by omega) (by first | assumption | exact hR _ _ (by decide) | exact hR9 _ _ (by decide) | (unfold R32; omega)) ?_
  refine l_iadd d_L_works_235 ?_
  refine l_callH d_L_works_236 q_L_works_123 s_h_free v_h_free (t_h_free hI hE (by first | assumption | exact hR _ _ (by decide) | (unfold R32; omega)) (by first | assumption | exact hR _ _ (by decide) | (unfold R32; omega))) (opX.no hcd) h0 rfl rfl rfl (Nat.le_of_ble_eq_true rfl) rfl rfl rfl ?_
  rintro _ ad9 S9 ⟨-, rfl, hag9, hE9⟩
  have hL9 := LI.agr (LI_free hL hcd) hag9 hE9
  have hI9 := hL9.1.1
  have hR9 := hI9.1
  have h09 := hE9.h
  refine l_eqv (v := vl_free S (c) (1 + b % d)) (w := S 14 c - (1 + b % d)) rfl ?_
  refine l_iload d_L_works_239 rfl ?_
  refine l_iconst d_L_works_241 ?_
  refine l_isub d_L_works_242 ?_
  refine l_iload d_L_works_243 rfl ?_
  refine l_iload d_L_works_245 rfl ?_
  refine l_sipush d_L_works_247 (by decide) ?_
  refine l_icmp_ge (tgt := 258) d_L_works_250 (by decide) (by first | assumption | exact hR _ _ (by decide) | exact hR9 _ _ (by decide) | (unfold R32; omega)) (by first | assumption | exact hR _ _ (by decide) | exact hR9 _ _ (by decide) | (unfold R32; omega)) (fun z250 => ?_) (fun z250 => ?_)
  · refine l_sipush d_L_works_258 (by decide) ?_
    have e9 : d = 5000 := by omega
    subst e9
    refine l_iremI d_L_works_261 (by omega) (by first | assumption | exact hR _ _ (by decide) | exact hR9 _ _ (by decide) | (unfold R32; omega)) (by omega) (by first | assumption | exact hR _ _ (by decide) | exact hR9 _ _ (by decide) | (unfold R32; omega)) ?_
    refine l_isub d_L_works_262 ?_
    refine l_icmp_ne (tgt := 270) d_L_works_263 (by decide) (by first | assumption | exact hR _ _ (by decide) | exact hR9 _ _ (by decide) | (unfold R32; omega)) (by first | assumption | exact hR _ _ (by decide) | exact hR9 _ _ (by decide) | (unfold R32; omega)) (fun z263 => absurd (by omega) z263) (fun z263 => ?_)
    refine l_iconst d_L_works_266 ?_
    refine l_goto (tgt := 271) d_L_works_267 (by decide) ?_
    exact l_zret rfl (Or.inr rfl) d_L_works_271 (⟨rfl, hL9, hE9⟩)
  · refine l_iload d_L_works_253 rfl ?_
    refine l_goto (tgt := 261) d_L_works_255 (by decide) ?_
    have e9 : d = S 14 c := by omega
    subst e9
    refine l_iremI d_L_works_261 (by omega) (by first | assumption | exact hR _ _ (by decide) | exact hR9 _ _ (by decide) | (unfold R32; omega)) (by omega) (by first | assumption | exact hR _ _ (by decide) | exact hR9 _ _ (by decide) | (unfold R32; omega)) ?_
    refine l_isub d_L_works_262 ?_
    refine l_icmp_ne (tgt := 270) d_L_works_263 (by decide) (by first | assumption | exact hR _ _ (by decide) | exact hR9 _ _ (by decide) | (unfold R32; omega)) (by first | assumption | exact hR _ _ (by decide) | exact hR9 _ _ (by decide) | (unfold R32; omega)) (fun z263 => absurd (by omega) z263) (fun z263 => ?_)
    refine l_iconst d_L_works_266 ?_
    refine l_goto (tgt := 271) d_L_works_267 (by decide) ?_
    exact l_zret rfl (Or.inr rfl) d_L_works_271 (⟨rfl, hL9, hE9⟩)
theorem k_208 {g : xG} {t u : Nat} {ad : cA} {S : gS} {ft fu : Int → Int} {c what b m : Int} (hL : LI S ft fu) (hE : Ext S) (c0 : 0 ≤ c) (c1 : c < S 11 0) (hs : S 19 c = 0) (hb : 0 ≤ b ∧ b < 2147483648) (hm : m = 0 ∨ m = 1) (hm1 : m = 1 → 4 ≤ b % 32 ∨ S 17 c / 2 % 2 = 1) : lW g M_L_works t u qOk 235 1410 ad S ft fu 208 [some (.ref (g.2.2.2.2 5)), some (.ref t), some (.ref u), some (.int (iI c)), some (.int (iI what)), some (.int (iI b)), some (.int (iI (16 * S 16 c + S 17 c))), some (.int (iI (S 14 c))), some (.int (iI (b % 32))), some (.int (iI (csee S c (b % 32)))), some (.int (iI m)), none, none, none, none] [] := by
  have hI := hL.1.1
  have hR := hI.1
  have h0 := hE.h
  have h3 := hI.2.1.1
  have h6 := hI.2.1.2.1
  have h11 := hI.2.1.2.2.1
  have h23 := hI.2.1.2.2.2
  have hA := hL.2.2.2.1
  have hI6 := hI.2.2.2.2.2.2.1
  have q4 := hI.2.2.2.2.1 c c0 c1
  have qc := hI.2.2.2.1 c (Or.inl ⟨c0, c1⟩)
  have hx := csee_b hI c (b % 32)
  have hcs := hL.2.2.1 c (Or.inl ⟨c0, c1⟩)
  have hK := hL.2.2.2.2.2.2 c c0 c1
  have hp15 := hL.1.2.2.2.1 c c0 c1
  refine l_iload d_L_works_208 rfl ?_
  refine l_if_eq (tgt := 266) d_L_works_210 (by decide) (by first | assumption | exact hR _ _ (by decide) | (unfold R32; omega)) (fun z210 => ?_) (fun z210 => ?_)
  · refine l_iconst d_L_works_266 ?_
    refine l_goto (tgt := 271) d_L_works_267 (by decide) ?_
    exact l_zret rfl (Or.inr rfl) d_L_works_271 (⟨rfl, hL, hE⟩)
  · refine l_aload_n d_L_works_213 rfl ?_
    refine l_iload_n d_L_works_214 rfl ?_
    refine l_iconst d_L_works_215 ?_
    refine l_iload d_L_works_216 rfl ?_
    refine l_iload d_L_works_218 rfl ?_
    refine l_sipush d_L_works_220 (by decide) ?_
    refine l_icmp_ge (tgt := 231) d_L_works_223 (by decide) (by first | assumption | exact hR _ _ (by decide) | (unfold R32; omega)) (by first | assumption | exact hR _ _ (by decide) | (unfold R32; omega)) (fun z223 => ?_) (fun z223 => ?_)
    · refine l_sipush d_L_works_231 (by decide) ?_
      exact W_free hL hE c0 c1 hs hb hm hm1 (by omega) z210
    · refine l_iload d_L_works_226 rfl ?_
      refine l_goto (tgt := 234) d_L_works_228 (by decide) ?_
      exact W_free hL hE c0 c1 hs hb hm hm1 (by omega) z210
theorem k_272 {g : xG} {t u : Nat} {ad : cA} {S : gS} {ft fu : Int → Int} {c what b m : Int} (hL : LI S ft fu) (hE : Ext S) (c0 : 0 ≤ c) (c1 : c < S 11 0) (hs : S 19 c = 0) (hb : 0 ≤ b ∧ b < 2147483648) (hm : m = 0 ∨ m = 1) (hm1 : m = 1 → 4 ≤ b % 32 ∨ S 17 c / 2 % 2 = 1) : lW g M_L_works t u qOk 235 1410 ad S ft fu 272 [some (.ref (g.2.2.2.2 5)), some (.ref t), some (.ref u), some (.int (iI c)), some (.int (iI what)), some (.int (iI b)), some (.int (iI (16 * S 16 c + S 17 c))), some (.int (iI (S 14 c))), some (.int (iI (b % 32))), some (.int (iI (csee S c (b % 32)))), some (.int (iI m)), none, none, none, none] [] := by
  have hI := hL.1.1
  have hR := hI.1
  have h0 := hE.h
  have h3 := hI.2.1.1
  have h6 := hI.2.1.2.1
  have h11 := hI.2.1.2.2.1
  have h23 := hI.2.1.2.2.2
  have hA := hL.2.2.2.1
  have hI6 := hI.2.2.2.2.2.2.1
  have q4 := hI.2.2.2.2.1 c c0 c1
  have qc := hI.2.2.2.1 c (Or.inl ⟨c0, c1⟩)
  have hx := csee_b hI c (b % 32)
  have hcs := hL.2.2.1 c (Or.inl ⟨c0, c1⟩)
  have hK := hL.2.2.2.2.2.2 c c0 c1
  have hp15 := hL.1.2.2.2.1 c c0 c1
  refine l_aload_n d_L_works_272 rfl ?_
  refine l_aload_n d_L_works_273 rfl ?_
  refine l_bipush d_L_works_274 (by decide) ?_
  refine l_iload_n d_L_works_276 rfl ?_
  refine l_iadd d_L_works_277 ?_
  refine l_tld (hK.1) d_L_works_278 (by omega) (by omega) ?_
  refine l_callH d_L_works_279 q_L_works_36 s_h_groupProcesses v_h_groupProcesses (t_h_groupProcesses hI hE (by first | assumption | exact hR _ _ (by decide) | exact hR9 _ _ (by decide) | (unfold R32; omega))) (opX.no (show cd_groupProcesses S (S 20 c) = 0 by unfold cd_groupProcesses; (repeat' split) <;> omega)) h0 rfl rfl rfl (Nat.le_of_ble_eq_true rfl) rfl rfl rfl ?_
  rintro _ _ _ ⟨-, rfl, rfl, rfl⟩
  refine l_eqv (v := vl_groupProcesses S (S 20 c)) (w := prcI S (S 20 c)) rfl ?_
  refine l_istore d_L_works_282 (by decide) ?_
  have hpb := prcI_b hI (S 20 c)
  refine l_aload_n d_L_works_284 rfl ?_
  refine l_aload_n d_L_works_285 rfl ?_
  refine l_aload_n d_L_works_286 rfl ?_
  refine l_bipush d_L_works_287 (by decide) ?_
  refine l_iload_n d_L_works_289 rfl ?_
  refine l_iadd d_L_works_290 ?_
  refine l_tld (hK.1) d_L_works_291 (by omega) (by omega) ?_
  refine l_callL d_L_works_292 q_L_works_39 s_L_isFull (t_L_isFull hL hE (by omega) (by omega)) rfl rfl (Nat.le_of_ble_eq_true rfl) rfl rfl rfl ?_
  rintro _ _ _ _ _ ⟨rfl, rfl, rfl, rfl, b9, hb9, rfl, hfl⟩
  refine l_if_ne (tgt := 324) d_L_works_295 (by decide) (by first | assumption | exact hR _ _ (by decide) | exact hR9 _ _ (by decide) | (unfold R32; omega)) (fun z295 => ?_) (fun z295 => ?_)
  · refine l_iconst d_L_works_324 ?_
    refine l_goto (tgt := 329) d_L_works_325 (by decide) ?_
    exact l_zret rfl (Or.inr rfl) d_L_works_329 (⟨rfl, hL, hE⟩)
  · have htm := (hfl (by omega)).2
    have hcd : cd_fork S c = 0 := by unfold cd_fork; (repeat' split) <;> omega
    refine l_aload_n d_L_works_298 rfl ?_
    refine l_iload_n d_L_works_299 rfl ?_
    refine l_callH d_L_works_300 q_L_works_126 s_h_fork v_h_fork (t_h_fork hI hE (by first | assumption | exact hR _ _ (by decide) | (unfold R32; omega))) (opX.no hcd) h0 rfl rfl rfl (Nat.le_of_ble_eq_true rfl) rfl rfl rfl ?_
    rintro _ ad9 S9 ⟨-, rfl, hag9, hE9⟩
    have hL9 := LI.agr (LI_fork hL hcd) hag9 hE9
    have hI9 := hL9.1.1
    have hR9 := hI9.1
    have h09 := hE9.h
    have e6 : S9 6 0 = S 6 0 := by rw [hag9 6 (by decide)]; rfl
    have ep : prcI S9 (S 20 c) = prcI S (S 20 c) + 1 := by
      rw [prcI_eq (hag9 7 (by decide)) (hag9 11 (by decide)) (hag9 15 (by decide)) (hag9 20 (by decide))]
      have y := prcI_up (S' := st_fork S c) hI.2.1 (sset_n S c _ (by decide)) (sset_n S c _ (by decide)) (sset_n S c _ (by decide)) (S 20 c) c0 c1 (fun k hk => sset_o S 15 _ 15 hk)
      rw [y, bel_eq, if_pos rfl, show st_fork S c 15 c = S 15 c + 1 from sset_e S 15 c _]
      omega
    refine l_eqv (v := vl_fork S (c)) (w := S 15 c + 1) rfl ?_
    refine l_iconst d_L_works_303 ?_
    refine l_icmp_lt (tgt := 328) d_L_works_304 (by decide) (by first | assumption | exact hR _ _ (by decide) | exact hR9 _ _ (by decide) | (unfold R32; omega)) (by first | assumption | exact hR _ _ (by decide) | exact hR9 _ _ (by decide) | (unfold R32; omega)) (fun z304 => by exfalso; omega) (fun z304 => ?_)
    refine l_aload_n d_L_works_307 rfl ?_
    refine l_aload_n d_L_works_308 rfl ?_
    refine l_bipush d_L_works_309 (by decide) ?_
    refine l_iload_n d_L_works_311 rfl ?_
    refine l_iadd d_L_works_312 ?_
    refine l_tld (hK.1) d_L_works_313 (by omega) (by omega) ?_
    refine l_callH d_L_works_314 q_L_works_36 s_h_groupProcesses v_h_groupProcesses (t_h_groupProcesses hI9 hE9 (by first | assumption | exact hR _ _ (by decide) | exact hR9 _ _ (by decide) | (unfold R32; omega))) (opX.no (show cd_groupProcesses S9 (S 20 c) = 0 by unfold cd_groupProcesses; (repeat' split) <;> omega)) h09 rfl rfl rfl (Nat.le_of_ble_eq_true rfl) rfl rfl rfl ?_
    rintro _ _ _ ⟨-, rfl, rfl, rfl⟩
    refine l_eqv (v := vl_groupProcesses S9 (S 20 c)) (w := prcI S (S 20 c) + 1) ep ?_
    refine l_iload d_L_works_317 rfl ?_
    refine l_iconst d_L_works_319 ?_
    refine l_iadd d_L_works_320 ?_
    refine l_icmp_ne (tgt := 328) d_L_works_321 (by decide) (by first | assumption | exact hR _ _ (by decide) | exact hR9 _ _ (by decide) | (unfold R32; omega)) (by first | assumption | exact hR _ _ (by decide) | exact hR9 _ _ (by decide) | (unfold R32; omega)) (fun z321 => absurd rfl z321) (fun z321 => ?_)
    refine l_iconst d_L_works_324 ?_
    refine l_goto (tgt := 329) d_L_works_325 (by decide) ?_
    exact l_zret rfl (Or.inr rfl) d_L_works_329 (⟨rfl, hL9, hE9⟩)
theorem k_330 {g : xG} {t u : Nat} {ad : cA} {S : gS} {ft fu : Int → Int} {c what b m : Int} (hL : LI S ft fu) (hE : Ext S) (c0 : 0 ≤ c) (c1 : c < S 11 0) (hs : S 19 c = 0) (hb : 0 ≤ b ∧ b < 2147483648) (hm : m = 0 ∨ m = 1) (hm1 : m = 1 → 4 ≤ b % 32 ∨ S 17 c / 2 % 2 = 1) : lW g M_L_works t u qOk 235 1410 ad S ft fu 330 [some (.ref (g.2.2.2.2 5)), some (.ref t), some (.ref u), some (.int (iI c)), some (.int (iI what)), some (.int (iI b)), some (.int (iI (16 * S 16 c + S 17 c))), some (.int (iI (S 14 c))), some (.int (iI (b % 32))), some (.int (iI (csee S c (b % 32)))), some (.int (iI m)), none, none, none, none] [] := by
  have hI := hL.1.1
  have hR := hI.1
  have h0 := hE.h
  have h3 := hI.2.1.1
  have h6 := hI.2.1.2.1
  have h11 := hI.2.1.2.2.1
  have h23 := hI.2.1.2.2.2
  have hA := hL.2.2.2.1
  have hI6 := hI.2.2.2.2.2.2.1
  have q4 := hI.2.2.2.2.1 c c0 c1
  have qc := hI.2.2.2.1 c (Or.inl ⟨c0, c1⟩)
  have hx := csee_b hI c (b % 32)
  have hcs := hL.2.2.1 c (Or.inl ⟨c0, c1⟩)
  have hK := hL.2.2.2.2.2.2 c c0 c1
  have hp15 := hL.1.2.2.2.1 c c0 c1
  have hcd : cd_exit S c = 0 := by unfold cd_exit ist; (repeat' split) <;> omega
  have hex : (S 15 c - 1 = 0 ∧ st_exit S c 19 c = 2) ∨ (S 15 c - 1 ≠ 0 ∧ st_exit S c 19 c = 0) := by
    unfold st_exit
    by_cases z : S 15 c - 1 = 0
    · rw [if_pos z]
      exact Or.inl ⟨z, (stp_c _ c).2.2.2.1⟩
    · rw [if_neg z]
      exact Or.inr ⟨z, hs⟩
  refine l_aload_n d_L_works_330 rfl ?_
  refine l_iload_n d_L_works_331 rfl ?_
  refine l_callH d_L_works_332 q_L_works_129 s_h_exit v_h_exit (t_h_exit hI hE (by first | assumption | exact hR _ _ (by decide) | (unfold R32; omega)) hL.1.2) (opX.no hcd) h0 rfl rfl rfl (Nat.le_of_ble_eq_true rfl) rfl rfl rfl ?_
  rintro _ ad9 S9 ⟨-, rfl, hag9, hE9⟩
  have hL9 := LI.agr (LI_exit hL hcd) hag9 hE9
  have hI9 := hL9.1.1
  have hR9 := hI9.1
  have h09 := hE9.h
  have e11 : S9 11 0 = S 11 0 := by rw [hag9 11 (by decide), exit_11]
  have e19 : S9 19 c = st_exit S c 19 c := congrFun (hag9 19 (by decide)) c
  refine l_eqv (v := vl_exit S (c)) (w := S 15 c - 1) rfl ?_
  refine l_if_ne (tgt := 342) d_L_works_335 (by decide) (by first | assumption | exact hR _ _ (by decide) | exact hR9 _ _ (by decide) | (unfold R32; omega)) (fun z335 => ?_) (fun z335 => ?_)
  · refine l_iconst d_L_works_342 ?_
    refine l_aload_n d_L_works_343 rfl ?_
    refine l_iload_n d_L_works_344 rfl ?_
    refine l_callH d_L_works_345 q_L_works_50 s_h_stateOf v_h_stateOf (t_h_stateOf hI9 hE9 (by first | assumption | exact hR _ _ (by decide) | exact hR9 _ _ (by decide) | (unfold R32; omega))) (opX.no (show cd_stateOf S9 (c) = 0 by unfold cd_stateOf; (repeat' split) <;> omega)) h09 rfl rfl rfl (Nat.le_of_ble_eq_true rfl) rfl rfl rfl ?_
    rintro _ _ _ ⟨-, rfl, rfl, rfl⟩
    refine l_eqv (v := vl_stateOf S9 (c)) (w := S9 19 c) rfl ?_
    refine l_iconst d_L_works_348 ?_
    refine l_icmp_ne (tgt := 356) d_L_works_349 (by decide) (by first | assumption | exact hR _ _ (by decide) | exact hR9 _ _ (by decide) | (unfold R32; omega)) (by first | assumption | exact hR _ _ (by decide) | exact hR9 _ _ (by decide) | (unfold R32; omega)) (fun z349 => ?_) (fun z349 => by exfalso; omega)
    refine l_iconst d_L_works_356 ?_
    refine l_icmp_ne (tgt := 364) d_L_works_357 (by decide) (by first | assumption | exact hR _ _ (by decide) | exact hR9 _ _ (by decide) | (unfold R32; omega)) (by first | assumption | exact hR _ _ (by decide) | exact hR9 _ _ (by decide) | (unfold R32; omega)) (fun z357 => by exfalso; omega) (fun z357 => ?_)
    refine l_iconst d_L_works_360 ?_
    refine l_goto (tgt := 365) d_L_works_361 (by decide) ?_
    exact l_zret rfl (Or.inr rfl) d_L_works_365 (⟨rfl, hL9, hE9⟩)
  · refine l_iconst d_L_works_338 ?_
    refine l_goto (tgt := 343) d_L_works_339 (by decide) ?_
    refine l_aload_n d_L_works_343 rfl ?_
    refine l_iload_n d_L_works_344 rfl ?_
    refine l_callH d_L_works_345 q_L_works_50 s_h_stateOf v_h_stateOf (t_h_stateOf hI9 hE9 (by first | assumption | exact hR _ _ (by decide) | exact hR9 _ _ (by decide) | (unfold R32; omega))) (opX.no (show cd_stateOf S9 (c) = 0 by unfold cd_stateOf; (repeat' split) <;> omega)) h09 rfl rfl rfl (Nat.le_of_ble_eq_true rfl) rfl rfl rfl ?_
    rintro _ _ _ ⟨-, rfl, rfl, rfl⟩
    refine l_eqv (v := vl_stateOf S9 (c)) (w := S9 19 c) rfl ?_
    refine l_iconst d_L_works_348 ?_
    refine l_icmp_ne (tgt := 356) d_L_works_349 (by decide) (by first | assumption | exact hR _ _ (by decide) | exact hR9 _ _ (by decide) | (unfold R32; omega)) (by first | assumption | exact hR _ _ (by decide) | exact hR9 _ _ (by decide) | (unfold R32; omega)) (fun z349 => by exfalso; omega) (fun z349 => ?_)
    refine l_iconst d_L_works_352 ?_
    refine l_goto (tgt := 357) d_L_works_353 (by decide) ?_
    refine l_icmp_ne (tgt := 364) d_L_works_357 (by decide) (by first | assumption | exact hR _ _ (by decide) | exact hR9 _ _ (by decide) | (unfold R32; omega)) (by first | assumption | exact hR _ _ (by decide) | exact hR9 _ _ (by decide) | (unfold R32; omega)) (fun z357 => by exfalso; omega) (fun z357 => ?_)
    refine l_iconst d_L_works_360 ?_
    refine l_goto (tgt := 365) d_L_works_361 (by decide) ?_
    exact l_zret rfl (Or.inr rfl) d_L_works_365 (⟨rfl, hL9, hE9⟩)
theorem k_366 {g : xG} {t u : Nat} {ad : cA} {S : gS} {ft fu : Int → Int} {c what b m : Int} (hL : LI S ft fu) (hE : Ext S) (c0 : 0 ≤ c) (c1 : c < S 11 0) (hs : S 19 c = 0) (hb : 0 ≤ b ∧ b < 2147483648) (hm : m = 0 ∨ m = 1) (hm1 : m = 1 → 4 ≤ b % 32 ∨ S 17 c / 2 % 2 = 1) : lW g M_L_works t u qOk 235 1410 ad S ft fu 366 [some (.ref (g.2.2.2.2 5)), some (.ref t), some (.ref u), some (.int (iI c)), some (.int (iI what)), some (.int (iI b)), some (.int (iI (16 * S 16 c + S 17 c))), some (.int (iI (S 14 c))), some (.int (iI (b % 32))), some (.int (iI (csee S c (b % 32)))), some (.int (iI m)), none, none, none, none] [] := by
  have hI := hL.1.1
  have hR := hI.1
  have h0 := hE.h
  have h3 := hI.2.1.1
  have h6 := hI.2.1.2.1
  have h11 := hI.2.1.2.2.1
  have h23 := hI.2.1.2.2.2
  have hA := hL.2.2.2.1
  have hI6 := hI.2.2.2.2.2.2.1
  have q4 := hI.2.2.2.2.1 c c0 c1
  have qc := hI.2.2.2.1 c (Or.inl ⟨c0, c1⟩)
  have hx := csee_b hI c (b % 32)
  have hcs := hL.2.2.1 c (Or.inl ⟨c0, c1⟩)
  have hK := hL.2.2.2.2.2.2 c c0 c1
  have hp15 := hL.1.2.2.2.1 c c0 c1
  refine l_iload d_L_works_366 rfl ?_
  refine l_if_eq (tgt := 415) d_L_works_368 (by decide) (by first | assumption | exact hR _ _ (by decide) | exact hR9 _ _ (by decide) | (unfold R32; omega)) (fun z368 => ?_) (fun z368 => ?_)
  · refine l_iconst d_L_works_415 ?_
    refine l_goto (tgt := 420) d_L_works_416 (by decide) ?_
    exact l_zret rfl (Or.inr rfl) d_L_works_420 (⟨rfl, hL, hE⟩)
  · have hmay : may S c (b % 32) = 1 := by unfold may; rw [bitk1]; exact if_pos (by omega)
    have hcd : cd_writeFile S c (b % 32) (1 + b / 32 % 999) = 0 := by unfold cd_writeFile; (repeat' split) <;> omega
    refine l_aload_n d_L_works_371 rfl ?_
    refine l_iload_n d_L_works_372 rfl ?_
    refine l_iload d_L_works_373 rfl ?_
    refine l_iconst d_L_works_375 ?_
    refine l_iload d_L_works_376 rfl ?_
    refine l_bipush d_L_works_378 (by decide) ?_
    refine l_idivI d_L_works_380 (by omega) (by first | assumption | exact hR _ _ (by decide) | exact hR9 _ _ (by decide) | (unfold R32; omega)) (by omega) (by first | assumption | exact hR _ _ (by decide) | exact hR9 _ _ (by decide) | (unfold R32; omega)) ?_
    refine l_sipush d_L_works_381 (by decide) ?_
    refine l_iremI d_L_works_384 (by omega) (by first | assumption | exact hR _ _ (by decide) | exact hR9 _ _ (by decide) | (unfold R32; omega)) (by omega) (by first | assumption | exact hR _ _ (by decide) | exact hR9 _ _ (by decide) | (unfold R32; omega)) ?_
    refine l_iadd d_L_works_385 ?_
    refine l_callH d_L_works_386 q_L_works_132 s_h_writeFile v_h_writeFile (t_h_writeFile hI hE (by first | assumption | exact hR _ _ (by decide) | (unfold R32; omega)) (by first | assumption | exact hR _ _ (by decide) | (unfold R32; omega)) (by first | assumption | exact hR _ _ (by decide) | (unfold R32; omega))) (opX.no hcd) h0 rfl rfl rfl (Nat.le_of_ble_eq_true rfl) rfl rfl rfl ?_
    rintro _ ad9 S9 ⟨-, rfl, hag9, hE9⟩
    have hL9 := LI.agr (LI_writeFile hL hcd) hag9 hE9
    have hI9 := hL9.1.1
    have hR9 := hI9.1
    have h09 := hE9.h
    have e11 : S9 11 0 = S 11 0 := by rw [hag9 11 (by decide)]; rfl
    refine l_eqv (v := vl_writeFile S (c) ((b % 32)) ((1 + b / 32 % 999))) (w := csee S c (b % 32)) rfl ?_
    refine l_iload d_L_works_389 rfl ?_
    refine l_icmp_ne (tgt := 419) d_L_works_391 (by decide) (by first | assumption | exact hR _ _ (by decide) | exact hR9 _ _ (by decide) | (unfold R32; omega)) (by first | assumption | exact hR _ _ (by decide) | exact hR9 _ _ (by decide) | (unfold R32; omega)) (fun z391 => absurd rfl z391) (fun z391 => ?_)
    refine l_aload_n d_L_works_394 rfl ?_
    refine l_iload_n d_L_works_395 rfl ?_
    refine l_iload d_L_works_396 rfl ?_
    refine l_callH d_L_works_398 q_L_works_65 s_h_fileOf v_h_fileOf (t_h_fileOf hI9 hE9 (by first | assumption | exact hR _ _ (by decide) | exact hR9 _ _ (by decide) | (unfold R32; omega)) (by first | assumption | exact hR _ _ (by decide) | exact hR9 _ _ (by decide) | (unfold R32; omega))) (opX.no (show cd_fileOf S9 (c) ((b % 32)) = 0 by unfold cd_fileOf; (repeat' split) <;> omega)) h09 rfl rfl rfl (Nat.le_of_ble_eq_true rfl) rfl rfl rfl ?_
    rintro _ _ _ ⟨-, rfl, rfl, rfl⟩
    refine l_eqv (v := vl_fileOf S9 (c) ((b % 32))) (w := (1 + b / 32 % 999)) (a_writeFile hag9 (by omega)) ?_
    refine l_iconst d_L_works_401 ?_
    refine l_iload d_L_works_402 rfl ?_
    refine l_bipush d_L_works_404 (by decide) ?_
    refine l_idivI d_L_works_406 (by omega) (by first | assumption | exact hR _ _ (by decide) | exact hR9 _ _ (by decide) | (unfold R32; omega)) (by omega) (by first | assumption | exact hR _ _ (by decide) | exact hR9 _ _ (by decide) | (unfold R32; omega)) ?_
    refine l_sipush d_L_works_407 (by decide) ?_
    refine l_iremI d_L_works_410 (by omega) (by first | assumption | exact hR _ _ (by decide) | exact hR9 _ _ (by decide) | (unfold R32; omega)) (by omega) (by first | assumption | exact hR _ _ (by decide) | exact hR9 _ _ (by decide) | (unfold R32; omega)) ?_
    refine l_iadd d_L_works_411 ?_
    refine l_icmp_ne (tgt := 419) d_L_works_412 (by decide) (by first | assumption | exact hR _ _ (by decide) | exact hR9 _ _ (by decide) | (unfold R32; omega)) (by first | assumption | exact hR _ _ (by decide) | exact hR9 _ _ (by decide) | (unfold R32; omega)) (fun z412 => absurd rfl z412) (fun z412 => ?_)
    refine l_iconst d_L_works_415 ?_
    refine l_goto (tgt := 420) d_L_works_416 (by decide) ?_
    exact l_zret rfl (Or.inr rfl) d_L_works_420 (⟨rfl, hL9, hE9⟩)
theorem k_421 {g : xG} {t u : Nat} {ad : cA} {S : gS} {ft fu : Int → Int} {c what b m : Int} (hL : LI S ft fu) (hE : Ext S) (c0 : 0 ≤ c) (c1 : c < S 11 0) (hs : S 19 c = 0) (hb : 0 ≤ b ∧ b < 2147483648) (hm : m = 0 ∨ m = 1) (hm1 : m = 1 → 4 ≤ b % 32 ∨ S 17 c / 2 % 2 = 1) : lW g M_L_works t u qOk 235 1410 ad S ft fu 421 [some (.ref (g.2.2.2.2 5)), some (.ref t), some (.ref u), some (.int (iI c)), some (.int (iI what)), some (.int (iI b)), some (.int (iI (16 * S 16 c + S 17 c))), some (.int (iI (S 14 c))), some (.int (iI (b % 32))), some (.int (iI (csee S c (b % 32)))), some (.int (iI m)), none, none, none, none] [] := by
  have hI := hL.1.1
  have hR := hI.1
  have h0 := hE.h
  have h3 := hI.2.1.1
  have h6 := hI.2.1.2.1
  have h11 := hI.2.1.2.2.1
  have h23 := hI.2.1.2.2.2
  have hA := hL.2.2.2.1
  have hI6 := hI.2.2.2.2.2.2.1
  have q4 := hI.2.2.2.2.1 c c0 c1
  have qc := hI.2.2.2.1 c (Or.inl ⟨c0, c1⟩)
  have hx := csee_b hI c (b % 32)
  have hcs := hL.2.2.1 c (Or.inl ⟨c0, c1⟩)
  have hK := hL.2.2.2.2.2.2 c c0 c1
  have hp15 := hL.1.2.2.2.1 c c0 c1
  refine l_iload d_L_works_421 rfl ?_
  refine l_if_eq (tgt := 453) d_L_works_423 (by decide) (by first | assumption | exact hR _ _ (by decide) | exact hR9 _ _ (by decide) | (unfold R32; omega)) (fun z423 => ?_) (fun z423 => ?_)
  · refine l_iconst d_L_works_453 ?_
    refine l_goto (tgt := 458) d_L_works_454 (by decide) ?_
    exact l_zret rfl (Or.inr rfl) d_L_works_458 (⟨rfl, hL, hE⟩)
  · refine l_iload d_L_works_426 rfl ?_
    refine l_if_eq (tgt := 453) d_L_works_428 (by decide) (by first | assumption | exact hR _ _ (by decide) | exact hR9 _ _ (by decide) | (unfold R32; omega)) (fun z428 => ?_) (fun z428 => ?_)
    · refine l_iconst d_L_works_453 ?_
      refine l_goto (tgt := 458) d_L_works_454 (by decide) ?_
      exact l_zret rfl (Or.inr rfl) d_L_works_458 (⟨rfl, hL, hE⟩)
    · have hmay : may S c (b % 32) = 1 := by unfold may; rw [bitk1]; exact if_pos (by omega)
      have hcd : cd_removeFile S c (b % 32) = 0 := by unfold cd_removeFile; (repeat' split) <;> omega
      refine l_aload_n d_L_works_431 rfl ?_
      refine l_iload_n d_L_works_432 rfl ?_
      refine l_iload d_L_works_433 rfl ?_
      refine l_callH d_L_works_435 q_L_works_135 s_h_removeFile v_h_removeFile (t_h_removeFile hI hE (by first | assumption | exact hR _ _ (by decide) | (unfold R32; omega)) (by first | assumption | exact hR _ _ (by decide) | (unfold R32; omega))) (opX.no hcd) h0 rfl rfl rfl (Nat.le_of_ble_eq_true rfl) rfl rfl rfl ?_
      rintro _ ad9 S9 ⟨-, rfl, hag9, hE9⟩
      have hL9 := LI.agr (LI_removeFile hL) hag9 hE9
      have hI9 := hL9.1.1
      have hR9 := hI9.1
      have h09 := hE9.h
      have e11 : S9 11 0 = S 11 0 := by rw [hag9 11 (by decide)]; rfl
      refine l_eqv (v := vl_removeFile S (c) ((b % 32))) (w := csee S c (b % 32)) rfl ?_
      refine l_iload d_L_works_438 rfl ?_
      refine l_icmp_ne (tgt := 457) d_L_works_440 (by decide) (by first | assumption | exact hR _ _ (by decide) | exact hR9 _ _ (by decide) | (unfold R32; omega)) (by first | assumption | exact hR _ _ (by decide) | exact hR9 _ _ (by decide) | (unfold R32; omega)) (fun z440 => absurd rfl z440) (fun z440 => ?_)
      refine l_aload_n d_L_works_443 rfl ?_
      refine l_iload_n d_L_works_444 rfl ?_
      refine l_iload d_L_works_445 rfl ?_
      refine l_callH d_L_works_447 q_L_works_65 s_h_fileOf v_h_fileOf (t_h_fileOf hI9 hE9 (by first | assumption | exact hR _ _ (by decide) | exact hR9 _ _ (by decide) | (unfold R32; omega)) (by first | assumption | exact hR _ _ (by decide) | exact hR9 _ _ (by decide) | (unfold R32; omega))) (opX.no (show cd_fileOf S9 (c) ((b % 32)) = 0 by unfold cd_fileOf; (repeat' split) <;> omega)) h09 rfl rfl rfl (Nat.le_of_ble_eq_true rfl) rfl rfl rfl ?_
      rintro _ _ _ ⟨-, rfl, rfl, rfl⟩
      refine l_eqv (v := vl_fileOf S9 (c) ((b % 32))) (w := 0) (a_removeFile hag9) ?_
      refine l_if_ne (tgt := 457) d_L_works_450 (by decide) (by first | assumption | exact hR _ _ (by decide) | exact hR9 _ _ (by decide) | (unfold R32; omega)) (fun z450 => by exfalso; omega) (fun z450 => ?_)
      refine l_iconst d_L_works_453 ?_
      refine l_goto (tgt := 458) d_L_works_454 (by decide) ?_
      exact l_zret rfl (Or.inr rfl) d_L_works_458 (⟨rfl, hL9, hE9⟩)
theorem k_459 {g : xG} {t u : Nat} {ad : cA} {S : gS} {ft fu : Int → Int} {c what b m : Int} (hL : LI S ft fu) (hE : Ext S) (c0 : 0 ≤ c) (c1 : c < S 11 0) (hs : S 19 c = 0) (hb : 0 ≤ b ∧ b < 2147483648) (hm : m = 0 ∨ m = 1) (hm1 : m = 1 → 4 ≤ b % 32 ∨ S 17 c / 2 % 2 = 1) : lW g M_L_works t u qOk 235 1410 ad S ft fu 459 [some (.ref (g.2.2.2.2 5)), some (.ref t), some (.ref u), some (.int (iI c)), some (.int (iI what)), some (.int (iI b)), some (.int (iI (16 * S 16 c + S 17 c))), some (.int (iI (S 14 c))), some (.int (iI (b % 32))), some (.int (iI (csee S c (b % 32)))), some (.int (iI m)), none, none, none, none] [] := by
  have hI := hL.1.1
  have hR := hI.1
  have h0 := hE.h
  have h3 := hI.2.1.1
  have h6 := hI.2.1.2.1
  have h11 := hI.2.1.2.2.1
  have h23 := hI.2.1.2.2.2
  have hA := hL.2.2.2.1
  have hI6 := hI.2.2.2.2.2.2.1
  have q4 := hI.2.2.2.2.1 c c0 c1
  have qc := hI.2.2.2.1 c (Or.inl ⟨c0, c1⟩)
  have hx := csee_b hI c (b % 32)
  have hcs := hL.2.2.1 c (Or.inl ⟨c0, c1⟩)
  have hK := hL.2.2.2.2.2.2 c c0 c1
  have hp15 := hL.1.2.2.2.1 c c0 c1
  have k0 : 0 ≤ (b % 4) := by omega
  have k1 : (b % 4) < 4 := by omega
  have ha0 := qc.2.2.2.2.1
  have hb0 := qc.2.2.2.2.2.1
  have hc16 := bclr_b (a := S 16 c) (k := (b % 4)) ha0.1
  have hc17 := bclr_b (a := S 17 c) (k := (b % 4)) hb0.1
  have hs17 := bset_b4 (a := S 17 c) (k := (b % 4)) hb0.1 hb0.2 k0 k1
  have hbt := bit_01 (S 16 c) (b % 4)
  refine l_iload d_L_works_459 rfl ?_
  refine l_iconst d_L_works_461 ?_
  refine l_iremI d_L_works_462 (by omega) (by first | assumption | exact hR _ _ (by decide) | exact hR9 _ _ (by decide) | (unfold R32; omega)) (by omega) (by first | assumption | exact hR _ _ (by decide) | exact hR9 _ _ (by decide) | (unfold R32; omega)) ?_
  refine l_istore d_L_works_463 (by decide) ?_
  refine l_iload d_L_works_465 rfl ?_
  refine l_iconst d_L_works_467 ?_
  refine l_iremI d_L_works_468 (by omega) (by first | assumption | exact hR _ _ (by decide) | exact hR9 _ _ (by decide) | (unfold R32; omega)) (by omega) (by first | assumption | exact hR _ _ (by decide) | exact hR9 _ _ (by decide) | (unfold R32; omega)) ?_
  refine l_if_ne (tgt := 517) d_L_works_469 (by decide) (by first | assumption | exact hR _ _ (by decide) | exact hR9 _ _ (by decide) | (unfold R32; omega)) (fun z469 => ?_) (fun z469 => ?_)
  · refine l_iload d_L_works_517 rfl ?_
    refine l_iconst d_L_works_519 ?_
    refine l_iremI d_L_works_520 (by omega) (by first | assumption | exact hR _ _ (by decide) | exact hR9 _ _ (by decide) | (unfold R32; omega)) (by omega) (by first | assumption | exact hR _ _ (by decide) | exact hR9 _ _ (by decide) | (unfold R32; omega)) ?_
    refine l_iconst d_L_works_521 ?_
    refine l_icmp_ne (tgt := 570) d_L_works_522 (by decide) (by first | assumption | exact hR _ _ (by decide) | exact hR9 _ _ (by decide) | (unfold R32; omega)) (by first | assumption | exact hR _ _ (by decide) | exact hR9 _ _ (by decide) | (unfold R32; omega)) (fun z522 => ?_) (fun z522 => ?_)
    · refine l_iload d_L_works_570 rfl ?_
      refine l_iconst d_L_works_572 ?_
      refine l_iload d_L_works_573 rfl ?_
      refine l_iadd d_L_works_575 ?_
      refine l_ishrI d_L_works_576 (by omega) (by omega) (by omega) (by omega) ?_
      refine l_iconst d_L_works_577 ?_
      refine l_iand1 d_L_works_578 (shr_nn _ (by omega)) ?_
      refine l_eqv (v := (16 * S 16 c + S 17 c) / 2 ^ (4 + (b % 4)).toNat % 2) (w := bit (S 16 c) (b % 4)) (capP ha0.1 ha0.2 hb0.1 hb0.2 k0 k1) ?_
      refine l_if_eq (tgt := 602) d_L_works_579 (by decide) (by first | assumption | exact hR _ _ (by decide) | exact hR9 _ _ (by decide) | (unfold R32; omega)) (fun z579 => ?_) (fun z579 => ?_)
      · refine l_iconst d_L_works_602 ?_
        refine l_goto (tgt := 607) d_L_works_603 (by decide) ?_
        exact l_zret rfl (Or.inr rfl) d_L_works_607 (⟨rfl, hL, hE⟩)
      · have hcd : cd_raise S c (b % 4) = 0 := by unfold cd_raise icp; (repeat' split) <;> omega
        refine l_aload_n d_L_works_582 rfl ?_
        refine l_iload_n d_L_works_583 rfl ?_
        refine l_iload d_L_works_584 rfl ?_
        refine l_callH d_L_works_586 q_L_works_144 s_h_raise v_h_raise (t_h_raise hI hE (by first | assumption | exact hR _ _ (by decide) | (unfold R32; omega)) (by first | assumption | exact hR _ _ (by decide) | (unfold R32; omega))) (opX.no hcd) h0 rfl rfl rfl (Nat.le_of_ble_eq_true rfl) rfl rfl rfl ?_
        rintro _ ad9 S9 ⟨-, rfl, hag9, hE9⟩
        have hL9 := LI.agr (LI_raise hL hcd) hag9 hE9
        have hI9 := hL9.1.1
        have hR9 := hI9.1
        have h09 := hE9.h
        refine l_eqv (v := vl_raise S (c) ((b % 4))) (w := bset (S 17 c) (b % 4)) rfl ?_
        refine l_iload d_L_works_589 rfl ?_
        refine l_bipush d_L_works_591 (by decide) ?_
        refine l_iand d_L_works_593 (cap15 ha0.1 ha0.2 hb0.1 hb0.2) ?_
        refine l_iconst d_L_works_594 ?_
        refine l_iload d_L_works_595 rfl ?_
        refine l_ishl1 d_L_works_597 (by omega) (by omega) ?_
        refine l_iork d_L_works_598 (by omega) ?_
        refine l_icmp_ne (tgt := 606) d_L_works_599 (by decide) (by first | assumption | exact hR _ _ (by decide) | exact hR9 _ _ (by decide) | (unfold R32; omega)) (by first | assumption | exact hR _ _ (by decide) | exact hR9 _ _ (by decide) | (unfold R32; omega)) (fun z599 => absurd rfl z599) (fun z599 => ?_)
        refine l_iconst d_L_works_602 ?_
        refine l_goto (tgt := 607) d_L_works_603 (by decide) ?_
        exact l_zret rfl (Or.inr rfl) d_L_works_607 (⟨rfl, hL9, hE9⟩)
    · have hcd : cd_drop S c (b % 4) = 0 := by unfold cd_drop icp; (repeat' split) <;> omega
      refine l_aload_n d_L_works_525 rfl ?_
      refine l_iload_n d_L_works_526 rfl ?_
      refine l_iload d_L_works_527 rfl ?_
      refine l_callH d_L_works_529 q_L_works_141 s_h_drop v_h_drop (t_h_drop hI hE (by first | assumption | exact hR _ _ (by decide) | (unfold R32; omega)) (by first | assumption | exact hR _ _ (by decide) | (unfold R32; omega))) (opX.no hcd) h0 rfl rfl rfl (Nat.le_of_ble_eq_true rfl) rfl rfl rfl ?_
      rintro _ ad9 S9 ⟨-, rfl, hag9, hE9⟩
      have hL9 := LI.agr (LI_drop hL hcd) hag9 hE9
      have hI9 := hL9.1.1
      have hR9 := hI9.1
      have h09 := hE9.h
      have e11 : S9 11 0 = S 11 0 := by rw [hag9 11 (by decide)]; rfl
      have e16 : S9 16 c = bclr (S 16 c) (b % 4) := by rw [hag9 16 (by decide)]; exact sset_e _ 16 c _
      have e17 : S9 17 c = bclr (S 17 c) (b % 4) := by rw [hag9 17 (by decide)]; exact (congrFun (sset_n _ c _ (by decide)) c).trans (sset_e S 17 c _)
      refine l_eqv (v := vl_drop S (c) ((b % 4))) (w := bclr (S 16 c) (b % 4)) rfl ?_
      refine l_iload d_L_works_532 rfl ?_
      refine l_iconst d_L_works_534 ?_
      refine l_ishrI d_L_works_535 (by omega) (by omega) (by decide) (by decide) ?_
      refine l_eqv (v := (16 * S 16 c + S 17 c) / 2 ^ (4 : Int).toNat) (w := S 16 c) (capH ha0.1 hb0.1 hb0.2) ?_
      refine l_iconst d_L_works_536 ?_
      refine l_iload d_L_works_537 rfl ?_
      refine l_ishl1 d_L_works_539 (by omega) (by omega) ?_
      refine l_iconst d_L_works_540 ?_
      refine l_inot d_L_works_541 ?_
      refine l_iandc d_L_works_542 (by omega) ?_
      refine l_icmp_ne (tgt := 568) d_L_works_543 (by decide) (by first | assumption | exact hR _ _ (by decide) | exact hR9 _ _ (by decide) | (unfold R32; omega)) (by first | assumption | exact hR _ _ (by decide) | exact hR9 _ _ (by decide) | (unfold R32; omega)) (fun z543 => absurd rfl z543) (fun z543 => ?_)
      refine l_aload_n d_L_works_546 rfl ?_
      refine l_iload_n d_L_works_547 rfl ?_
      refine l_callH d_L_works_548 q_L_works_62 s_h_capabilitiesOf v_h_capabilitiesOf (t_h_capabilitiesOf hI9 hE9 (by first | assumption | exact hR _ _ (by decide) | exact hR9 _ _ (by decide) | (unfold R32; omega))) (opX.no (show cd_capabilitiesOf S9 (c) = 0 by unfold cd_capabilitiesOf; (repeat' split) <;> omega)) h09 rfl rfl rfl (Nat.le_of_ble_eq_true rfl) rfl rfl rfl ?_
      rintro _ _ _ ⟨-, rfl, rfl, rfl⟩
      refine l_eqv (v := vl_capabilitiesOf S9 (c)) (w := 16 * bclr (S 16 c) (b % 4) + bclr (S 17 c) (b % 4)) (by show 16 * S9 16 c + S9 17 c = _; rw [e16, e17]) ?_
      refine l_iload d_L_works_551 rfl ?_
      refine l_bipush d_L_works_553 (by decide) ?_
      refine l_iload d_L_works_555 rfl ?_
      refine l_ishl d_L_works_557 rfl ?_
      refine l_iconst d_L_works_558 ?_
      refine l_ixor d_L_works_559 rfl ?_
      refine l_iand d_L_works_560 (capD ha0.1 ha0.2 hb0.1 hb0.2 k0 k1) ?_
      refine l_icmp_ne (tgt := 568) d_L_works_561 (by decide) (by first | assumption | exact hR _ _ (by decide) | exact hR9 _ _ (by decide) | (unfold R32; omega)) (by first | assumption | exact hR _ _ (by decide) | exact hR9 _ _ (by decide) | (unfold R32; omega)) (fun z561 => absurd rfl z561) (fun z561 => ?_)
      refine l_iconst d_L_works_564 ?_
      refine l_goto (tgt := 569) d_L_works_565 (by decide) ?_
      exact l_zret rfl (Or.inr rfl) d_L_works_569 (⟨rfl, hL9, hE9⟩)
  · have hcd : cd_lower S c (b % 4) = 0 := by unfold cd_lower icp; (repeat' split) <;> omega
    refine l_aload_n d_L_works_472 rfl ?_
    refine l_iload_n d_L_works_473 rfl ?_
    refine l_iload d_L_works_474 rfl ?_
    refine l_callH d_L_works_476 q_L_works_138 s_h_lower v_h_lower (t_h_lower hI hE (by first | assumption | exact hR _ _ (by decide) | (unfold R32; omega)) (by first | assumption | exact hR _ _ (by decide) | (unfold R32; omega))) (opX.no hcd) h0 rfl rfl rfl (Nat.le_of_ble_eq_true rfl) rfl rfl rfl ?_
    rintro _ ad9 S9 ⟨-, rfl, hag9, hE9⟩
    have hL9 := LI.agr (LI_lower hL hcd) hag9 hE9
    have hI9 := hL9.1.1
    have hR9 := hI9.1
    have h09 := hE9.h
    have e11 : S9 11 0 = S 11 0 := by rw [hag9 11 (by decide)]; rfl
    have e16 : S9 16 c = S 16 c := by rw [hag9 16 (by decide)]; rfl
    have e17 : S9 17 c = bclr (S 17 c) (b % 4) := by rw [hag9 17 (by decide)]; exact sset_e S 17 c _
    refine l_eqv (v := vl_lower S (c) ((b % 4))) (w := bclr (S 17 c) (b % 4)) rfl ?_
    refine l_iload d_L_works_479 rfl ?_
    refine l_bipush d_L_works_481 (by decide) ?_
    refine l_iand d_L_works_483 (cap15 ha0.1 ha0.2 hb0.1 hb0.2) ?_
    refine l_iconst d_L_works_484 ?_
    refine l_iload d_L_works_485 rfl ?_
    refine l_ishl1 d_L_works_487 (by omega) (by omega) ?_
    refine l_iconst d_L_works_488 ?_
    refine l_inot d_L_works_489 ?_
    refine l_iandc d_L_works_490 (by omega) ?_
    refine l_icmp_ne (tgt := 515) d_L_works_491 (by decide) (by first | assumption | exact hR _ _ (by decide) | exact hR9 _ _ (by decide) | (unfold R32; omega)) (by first | assumption | exact hR _ _ (by decide) | exact hR9 _ _ (by decide) | (unfold R32; omega)) (fun z491 => absurd rfl z491) (fun z491 => ?_)
    refine l_aload_n d_L_works_494 rfl ?_
    refine l_iload_n d_L_works_495 rfl ?_
    refine l_callH d_L_works_496 q_L_works_62 s_h_capabilitiesOf v_h_capabilitiesOf (t_h_capabilitiesOf hI9 hE9 (by first | assumption | exact hR _ _ (by decide) | exact hR9 _ _ (by decide) | (unfold R32; omega))) (opX.no (show cd_capabilitiesOf S9 (c) = 0 by unfold cd_capabilitiesOf; (repeat' split) <;> omega)) h09 rfl rfl rfl (Nat.le_of_ble_eq_true rfl) rfl rfl rfl ?_
    rintro _ _ _ ⟨-, rfl, rfl, rfl⟩
    refine l_eqv (v := vl_capabilitiesOf S9 (c)) (w := 16 * S 16 c + bclr (S 17 c) (b % 4)) (by show 16 * S9 16 c + S9 17 c = _; rw [e16, e17]) ?_
    refine l_iload d_L_works_499 rfl ?_
    refine l_iconst d_L_works_501 ?_
    refine l_iload d_L_works_502 rfl ?_
    refine l_ishl1 d_L_works_504 (by omega) (by omega) ?_
    refine l_iconst d_L_works_505 ?_
    refine l_inot d_L_works_506 ?_
    refine l_iandc d_L_works_507 (by omega) ?_
    refine l_eqv (v := bclr (16 * S 16 c + S 17 c) (b % 4)) (w := 16 * S 16 c + bclr (S 17 c) (b % 4)) (capL ha0.1 ha0.2 hb0.1 hb0.2 k0 k1) ?_
    refine l_icmp_ne (tgt := 515) d_L_works_508 (by decide) (by first | assumption | exact hR _ _ (by decide) | exact hR9 _ _ (by decide) | (unfold R32; omega)) (by first | assumption | exact hR _ _ (by decide) | exact hR9 _ _ (by decide) | (unfold R32; omega)) (fun z508 => absurd rfl z508) (fun z508 => ?_)
    refine l_iconst d_L_works_511 ?_
    refine l_goto (tgt := 516) d_L_works_512 (by decide) ?_
    exact l_zret rfl (Or.inr rfl) d_L_works_516 (⟨rfl, hL9, hE9⟩)
theorem k_608 {g : xG} {t u : Nat} {ad : cA} {S : gS} {ft fu : Int → Int} {c what b m : Int} (hL : LI S ft fu) (hE : Ext S) (c0 : 0 ≤ c) (c1 : c < S 11 0) (hs : S 19 c = 0) (hb : 0 ≤ b ∧ b < 2147483648) (hm : m = 0 ∨ m = 1) (hm1 : m = 1 → 4 ≤ b % 32 ∨ S 17 c / 2 % 2 = 1) : lW g M_L_works t u qOk 235 1410 ad S ft fu 608 [some (.ref (g.2.2.2.2 5)), some (.ref t), some (.ref u), some (.int (iI c)), some (.int (iI what)), some (.int (iI b)), some (.int (iI (16 * S 16 c + S 17 c))), some (.int (iI (S 14 c))), some (.int (iI (b % 32))), some (.int (iI (csee S c (b % 32)))), some (.int (iI m)), none, none, none, none] [] := by
  have hI := hL.1.1
  have hR := hI.1
  have h0 := hE.h
  have h3 := hI.2.1.1
  have h6 := hI.2.1.2.1
  have h11 := hI.2.1.2.2.1
  have h23 := hI.2.1.2.2.2
  have hA := hL.2.2.2.1
  have hI6 := hI.2.2.2.2.2.2.1
  have q4 := hI.2.2.2.2.1 c c0 c1
  have qc := hI.2.2.2.1 c (Or.inl ⟨c0, c1⟩)
  have hx := csee_b hI c (b % 32)
  have hcs := hL.2.2.1 c (Or.inl ⟨c0, c1⟩)
  have hK := hL.2.2.2.2.2.2 c c0 c1
  have hp15 := hL.1.2.2.2.1 c c0 c1
  refine l_aload_n d_L_works_608 rfl ?_
  refine l_aload_n d_L_works_609 rfl ?_
  refine l_iload_n d_L_works_610 rfl ?_
  refine l_iload d_L_works_611 rfl ?_
  refine l_aload_n d_L_works_613 rfl ?_
  refine l_bipush d_L_works_614 (by decide) ?_
  refine l_uld (hA.2.2.1) d_L_works_616 (by omega) (by omega) ?_
  refine l_iremI d_L_works_617 (by omega) (by first | assumption | exact hR _ _ (by decide) | (unfold R32; omega)) (by omega) (by first | assumption | exact hR _ _ (by decide) | (unfold R32; omega)) ?_
  refine l_iload d_L_works_618 rfl ?_
  refine l_callL d_L_works_620 q_L_works_147 s_L_kills (t_L_kills hL hE c0 c1 (Int.emod_nonneg b (by omega)) (Int.emod_lt_of_pos b (by omega)) hs) rfl rfl (Nat.le_of_ble_eq_true rfl) rfl rfl rfl ?_
  rintro _ ad9 S9 ft9 fu9 ⟨rfl, hL9, hE9⟩
  exact l_zret rfl (Or.inr rfl) d_L_works_623 (⟨rfl, hL9, hE9⟩)
theorem k_624 {g : xG} {t u : Nat} {ad : cA} {S : gS} {ft fu : Int → Int} {c what b m : Int} (hL : LI S ft fu) (hE : Ext S) (c0 : 0 ≤ c) (c1 : c < S 11 0) (hs : S 19 c = 0) (hb : 0 ≤ b ∧ b < 2147483648) (hm : m = 0 ∨ m = 1) (hm1 : m = 1 → 4 ≤ b % 32 ∨ S 17 c / 2 % 2 = 1) : lW g M_L_works t u qOk 235 1410 ad S ft fu 624 [some (.ref (g.2.2.2.2 5)), some (.ref t), some (.ref u), some (.int (iI c)), some (.int (iI what)), some (.int (iI b)), some (.int (iI (16 * S 16 c + S 17 c))), some (.int (iI (S 14 c))), some (.int (iI (b % 32))), some (.int (iI (csee S c (b % 32)))), some (.int (iI m)), none, none, none, none] [] := by
  have hI := hL.1.1
  have hR := hI.1
  have h0 := hE.h
  have h3 := hI.2.1.1
  have h6 := hI.2.1.2.1
  have h11 := hI.2.1.2.2.1
  have h23 := hI.2.1.2.2.2
  have hA := hL.2.2.2.1
  have hI6 := hI.2.2.2.2.2.2.1
  have q4 := hI.2.2.2.2.1 c c0 c1
  have qc := hI.2.2.2.1 c (Or.inl ⟨c0, c1⟩)
  have hx := csee_b hI c (b % 32)
  have hcs := hL.2.2.1 c (Or.inl ⟨c0, c1⟩)
  have hK := hL.2.2.2.2.2.2 c c0 c1
  have hp15 := hL.1.2.2.2.1 c c0 c1
  refine l_aload_n d_L_works_624 rfl ?_
  refine l_iload_n d_L_works_625 rfl ?_
  refine l_iload d_L_works_626 rfl ?_
  refine l_iconst d_L_works_628 ?_
  refine l_iremI d_L_works_629 (by omega) (by first | assumption | exact hR _ _ (by decide) | (unfold R32; omega)) (by omega) (by first | assumption | exact hR _ _ (by decide) | (unfold R32; omega)) ?_
  refine l_iload d_L_works_630 rfl ?_
  refine l_callL d_L_works_632 q_L_works_151 s_L_attaches (t_L_attaches hL hE c0 c1 (by omega) hs) rfl rfl (Nat.le_of_ble_eq_true rfl) rfl rfl rfl ?_
  rintro _ ad9 S9 ft9 fu9 ⟨rfl, hL9, hE9⟩
  exact l_zret rfl (Or.inr rfl) d_L_works_635 (⟨rfl, hL9, hE9⟩)
theorem k_636 {g : xG} {t u : Nat} {ad : cA} {S : gS} {ft fu : Int → Int} {c what b m : Int} (hL : LI S ft fu) (hE : Ext S) (c0 : 0 ≤ c) (c1 : c < S 11 0) (hs : S 19 c = 0) (hb : 0 ≤ b ∧ b < 2147483648) (hm : m = 0 ∨ m = 1) (hm1 : m = 1 → 4 ≤ b % 32 ∨ S 17 c / 2 % 2 = 1) : lW g M_L_works t u qOk 235 1410 ad S ft fu 636 [some (.ref (g.2.2.2.2 5)), some (.ref t), some (.ref u), some (.int (iI c)), some (.int (iI what)), some (.int (iI b)), some (.int (iI (16 * S 16 c + S 17 c))), some (.int (iI (S 14 c))), some (.int (iI (b % 32))), some (.int (iI (csee S c (b % 32)))), some (.int (iI m)), none, none, none, none] [] := by
  have hI := hL.1.1
  have hR := hI.1
  have h0 := hE.h
  have h3 := hI.2.1.1
  have h6 := hI.2.1.2.1
  have h11 := hI.2.1.2.2.1
  have h23 := hI.2.1.2.2.2
  have hA := hL.2.2.2.1
  have hI6 := hI.2.2.2.2.2.2.1
  have q4 := hI.2.2.2.2.1 c c0 c1
  have qc := hI.2.2.2.1 c (Or.inl ⟨c0, c1⟩)
  have hx := csee_b hI c (b % 32)
  have hcs := hL.2.2.1 c (Or.inl ⟨c0, c1⟩)
  have hK := hL.2.2.2.2.2.2 c c0 c1
  have hp15 := hL.1.2.2.2.1 c c0 c1
  refine l_aload_n d_L_works_636 rfl ?_
  refine l_iload_n d_L_works_637 rfl ?_
  refine l_iload d_L_works_638 rfl ?_
  refine l_iload d_L_works_640 rfl ?_
  refine l_callL d_L_works_642 q_L_works_155 s_L_ports (t_L_ports hL hE c0 c1 hb hs) rfl rfl (Nat.le_of_ble_eq_true rfl) rfl rfl rfl ?_
  rintro _ ad9 S9 ft9 fu9 ⟨rfl, hL9, hE9⟩
  exact l_zret rfl (Or.inr rfl) d_L_works_645 (⟨rfl, hL9, hE9⟩)
theorem k_51 {g : xG} {t u : Nat} {ad : cA} {S : gS} {ft fu : Int → Int} {c what b m : Int} {v10 : Option Value} (hL : LI S ft fu) (hE : Ext S) (c0 : 0 ≤ c) (c1 : c < S 11 0) (hs : S 19 c = 0) (hb : 0 ≤ b ∧ b < 2147483648) (hm : m = 0 ∨ m = 1) (hm1 : m = 1 → 4 ≤ b % 32 ∨ S 17 c / 2 % 2 = 1) (hw : 0 ≤ what ∧ what ≤ 23) : lW g M_L_works t u qOk 235 1410 ad S ft fu 51 [some (.ref (g.2.2.2.2 5)), some (.ref t), some (.ref u), some (.int (iI c)), some (.int (iI what)), some (.int (iI b)), some (.int (iI (16 * S 16 c + S 17 c))), some (.int (iI (S 14 c))), some (.int (iI (b % 32))), some (.int (iI (csee S c (b % 32)))), v10, none, none, none, none] [.int (iI m)] := by
  have hI := hL.1.1
  have hR := hI.1
  have h0 := hE.h
  have h3 := hI.2.1.1
  have h6 := hI.2.1.2.1
  have h11 := hI.2.1.2.2.1
  have h23 := hI.2.1.2.2.2
  have hA := hL.2.2.2.1
  have hI6 := hI.2.2.2.2.2.2.1
  have q4 := hI.2.2.2.2.1 c c0 c1
  have qc := hI.2.2.2.1 c (Or.inl ⟨c0, c1⟩)
  have hx := csee_b hI c (b % 32)
  have hcs := hL.2.2.1 c (Or.inl ⟨c0, c1⟩)
  have hK := hL.2.2.2.2.2.2 c c0 c1
  have hp15 := hL.1.2.2.2.1 c c0 c1
  refine l_istore d_L_works_51 (by decide) ?_
  refine l_iload d_L_works_53 rfl ?_
  have ht : (iI what).toInt = what := iI_toInt (by unfold R32; omega)
  by_cases hr : what < 11 ∨ 21 < what
  · exact l_tabOut (tgt := 636) d_L_works_55 (by rw [ht]; exact hr) (by decide) (k_636 hL hE c0 c1 hs hb hm hm1)
  · have hj : what = 11 ∨ what = 12 ∨ what = 13 ∨ what = 14 ∨ what = 15 ∨ what = 16 ∨ what = 17 ∨ what = 18 ∨ what = 19 ∨ what = 20 ∨ what = 21 := by omega
    rcases hj with e | e | e | e | e | e | e | e | e | e | e
    · exact l_tabIn (off := 57) (tgt := 112) d_L_works_55 (by rw [ht]; omega) (by rw [ht]; omega) (by rw [ht, e]; rfl) (by decide) (k_112 hL hE c0 c1 hs hb hm hm1)
    · exact l_tabIn (off := 57) (tgt := 112) d_L_works_55 (by rw [ht]; omega) (by rw [ht]; omega) (by rw [ht, e]; rfl) (by decide) (k_112 hL hE c0 c1 hs hb hm hm1)
    · exact l_tabIn (off := 153) (tgt := 208) d_L_works_55 (by rw [ht]; omega) (by rw [ht]; omega) (by rw [ht, e]; rfl) (by decide) (k_208 hL hE c0 c1 hs hb hm hm1)
    · exact l_tabIn (off := 217) (tgt := 272) d_L_works_55 (by rw [ht]; omega) (by rw [ht]; omega) (by rw [ht, e]; rfl) (by decide) (k_272 hL hE c0 c1 hs hb hm hm1)
    · exact l_tabIn (off := 275) (tgt := 330) d_L_works_55 (by rw [ht]; omega) (by rw [ht]; omega) (by rw [ht, e]; rfl) (by decide) (k_330 hL hE c0 c1 hs hb hm hm1)
    · exact l_tabIn (off := 311) (tgt := 366) d_L_works_55 (by rw [ht]; omega) (by rw [ht]; omega) (by rw [ht, e]; rfl) (by decide) (k_366 hL hE c0 c1 hs hb hm hm1)
    · exact l_tabIn (off := 311) (tgt := 366) d_L_works_55 (by rw [ht]; omega) (by rw [ht]; omega) (by rw [ht, e]; rfl) (by decide) (k_366 hL hE c0 c1 hs hb hm hm1)
    · exact l_tabIn (off := 366) (tgt := 421) d_L_works_55 (by rw [ht]; omega) (by rw [ht]; omega) (by rw [ht, e]; rfl) (by decide) (k_421 hL hE c0 c1 hs hb hm hm1)
    · exact l_tabIn (off := 404) (tgt := 459) d_L_works_55 (by rw [ht]; omega) (by rw [ht]; omega) (by rw [ht, e]; rfl) (by decide) (k_459 hL hE c0 c1 hs hb hm hm1)
    · exact l_tabIn (off := 553) (tgt := 608) d_L_works_55 (by rw [ht]; omega) (by rw [ht]; omega) (by rw [ht, e]; rfl) (by decide) (k_608 hL hE c0 c1 hs hb hm hm1)
    · exact l_tabIn (off := 569) (tgt := 624) d_L_works_55 (by rw [ht]; omega) (by rw [ht]; omega) (by rw [ht, e]; rfl) (by decide) (k_624 hL hE c0 c1 hs hb hm hm1)
theorem t_L_works {g : xG} {t u : Nat} {ad : cA} {S : gS} {ft fu : Int → Int} {c what b : Int} (hL : LI S ft fu) (hE : Ext S) (c0 : 0 ≤ c) (c1 : c < S 11 0) (hs : S 19 c = 0) (hb : 0 ≤ b ∧ b < 2147483648) (hw : 0 ≤ what ∧ what ≤ 23) : lM g y_L_works k_L_works M_L_works t u [.ref (g.2.2.2.2 5), .ref t, .ref u, .int (iI c), .int (iI what), .int (iI b)] ad S ft fu qOk := by
  refine lM.of rfl (by decide) rfl rfl rfl (by simp [Value.category]) (Nat.le_of_ble_eq_true rfl) rfl ?_
  have hI := hL.1.1
  have hR := hI.1
  have h0 := hE.h
  have h3 := hI.2.1.1
  have h6 := hI.2.1.2.1
  have h11 := hI.2.1.2.2.1
  have h23 := hI.2.1.2.2.2
  have hA := hL.2.2.2.1
  have hI6 := hI.2.2.2.2.2.2.1
  have q4 := hI.2.2.2.2.1 c c0 c1
  have qc := hI.2.2.2.1 c (Or.inl ⟨c0, c1⟩)
  have hx := csee_b hI c (b % 32)
  have hcs := hL.2.2.1 c (Or.inl ⟨c0, c1⟩)
  have hK := hL.2.2.2.2.2.2 c c0 c1
  have hp15 := hL.1.2.2.2.1 c c0 c1
  refine l_aload_n d_L_works_0 rfl ?_
  refine l_iload_n d_L_works_1 rfl ?_
  refine l_callH d_L_works_2 q_L_works_62 s_h_capabilitiesOf v_h_capabilitiesOf (t_h_capabilitiesOf hI hE (by first | assumption | exact hR _ _ (by decide) | exact hR9 _ _ (by decide) | (unfold R32; omega))) (opX.no (show cd_capabilitiesOf S (c) = 0 by unfold cd_capabilitiesOf; (repeat' split) <;> omega)) h0 rfl rfl rfl (Nat.le_of_ble_eq_true rfl) rfl rfl rfl ?_
  rintro _ _ _ ⟨-, rfl, rfl, rfl⟩
  refine l_eqv (v := vl_capabilitiesOf S (c)) (w := 16 * S 16 c + S 17 c) rfl ?_
  refine l_istore d_L_works_5 (by decide) ?_
  refine l_aload_n d_L_works_7 rfl ?_
  refine l_iload_n d_L_works_8 rfl ?_
  refine l_callH d_L_works_9 q_L_works_53 s_h_memoryOf v_h_memoryOf (t_h_memoryOf hI hE (by first | assumption | exact hR _ _ (by decide) | exact hR9 _ _ (by decide) | (unfold R32; omega))) (opX.no (show cd_memoryOf S (c) = 0 by unfold cd_memoryOf; (repeat' split) <;> omega)) h0 rfl rfl rfl (Nat.le_of_ble_eq_true rfl) rfl rfl rfl ?_
  rintro _ _ _ ⟨-, rfl, rfl, rfl⟩
  refine l_eqv (v := vl_memoryOf S (c)) (w := S 14 c) rfl ?_
  refine l_istore d_L_works_12 (by decide) ?_
  refine l_iload d_L_works_14 rfl ?_
  refine l_bipush d_L_works_16 (by decide) ?_
  refine l_iremI d_L_works_18 (by omega) (by first | assumption | exact hR _ _ (by decide) | (unfold R32; omega)) (by omega) (by first | assumption | exact hR _ _ (by decide) | (unfold R32; omega)) ?_
  refine l_istore d_L_works_19 (by decide) ?_
  refine l_aload_n d_L_works_21 rfl ?_
  refine l_iload_n d_L_works_22 rfl ?_
  refine l_iload d_L_works_23 rfl ?_
  refine l_callH d_L_works_25 q_L_works_65 s_h_fileOf v_h_fileOf (t_h_fileOf hI hE (by first | assumption | exact hR _ _ (by decide) | exact hR9 _ _ (by decide) | (unfold R32; omega)) (by first | assumption | exact hR _ _ (by decide) | exact hR9 _ _ (by decide) | (unfold R32; omega))) (opX.no (show cd_fileOf S (c) ((b % 32)) = 0 by unfold cd_fileOf; (repeat' split) <;> omega)) h0 rfl rfl rfl (Nat.le_of_ble_eq_true rfl) rfl rfl rfl ?_
  rintro _ _ _ ⟨-, rfl, rfl, rfl⟩
  refine l_eqv (v := vl_fileOf S (c) ((b % 32))) (w := csee S c (b % 32)) rfl ?_
  refine l_istore d_L_works_28 (by decide) ?_
  refine l_iload d_L_works_30 rfl ?_
  refine l_iconst d_L_works_32 ?_
  refine l_icmp_gt (tgt := 46) d_L_works_33 (by decide) (by first | assumption | exact hR _ _ (by decide) | (unfold R32; omega)) (by first | assumption | exact hR _ _ (by decide) | (unfold R32; omega)) (fun z33 => ?_) (fun z33 => ?_)
  · refine l_iconst d_L_works_46 ?_
    refine l_goto (tgt := 51) d_L_works_47 (by decide) ?_
    exact k_51 (m := 1) hL hE c0 c1 hs hb (Or.inr rfl) (fun _ => Or.inl (by omega)) hw
  · refine l_iload d_L_works_36 rfl ?_
    refine l_iconst d_L_works_38 ?_
    refine l_ishrI d_L_works_39 (by omega) (by omega) (by decide) (by decide) ?_
    refine l_iconst d_L_works_40 ?_
    refine l_iand1 d_L_works_41 (shr_nn _ (by omega)) ?_
    refine l_eqv (v := (16 * S 16 c + S 17 c) / 2 ^ (1 : Int).toNat % 2) (w := S 17 c / 2 % 2) (by rw [capB1]; omega) ?_
    refine l_iconst d_L_works_42 ?_
    refine l_icmp_ne (tgt := 50) d_L_works_43 (by decide) (by first | assumption | exact hR _ _ (by decide) | (unfold R32; omega)) (by first | assumption | exact hR _ _ (by decide) | (unfold R32; omega)) (fun z43 => ?_) (fun z43 => ?_)
    · refine l_iconst d_L_works_50 ?_
      exact k_51 (m := 0) hL hE c0 c1 hs hb (Or.inl rfl) (fun z => by omega) hw
    · refine l_iconst d_L_works_46 ?_
      refine l_goto (tgt := 51) d_L_works_47 (by decide) ?_
      exact k_51 (m := 1) hL hE c0 c1 hs hb (Or.inr rfl) (fun _ => Or.inr (by omega)) hw
