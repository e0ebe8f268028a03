/-! the law's methods: images, checks, commits, saves -/
def qOk : qL := fun v _ S9 ft9 fu9 => v = some (.int (iI 1)) ∧ LI S9 ft9 fu9 ∧ Ext S9
theorem csee_b {S : gS} (hI : Inv S) (c f : Int) : 0 ≤ csee S c f ∧ csee S c f ≤ 999 := lyr_b hI.2.2.2.2.2.2.1 (see_b hI.2.2.2.2.2.2.1 _ _).1 (see_b hI.2.2.2.2.2.2.1 _ _).2
theorem W_clear {g : xG} {t u : Nat} {ad : cA} {S : gS} {ft fu : Int → Int} {i what b : Int} (hL : LI S ft fu) (hE : Ext S) (i0 : 0 ≤ i) (i1 : i < S 3 0) (hb : 0 ≤ b ∧ b < 2147483648) (hs : S 5 i = 0) : ∀ n m : Nat, m + n = 4 → lW g M_L_images t u qOk (2 * n + 10) (12 * n + 60) ad S ft fu 159 [some (.ref (g.2.2.2.2 5)), some (.ref t), some (.ref u), some (.int (iI i)), some (.int (iI what)), some (.int (iI b)), some (.int (iI (b % 32))), some (.int (iI (see S i (b % 32)))), some (.int (iI (clN S i (b % 32 / 4) m))), some (.int (iI (4 * (b % 32 / 4) + (m : Int))))] [] := by
  have hI := hL.1.1
  have hR := hI.1
  have h0 := hE.h
  have h3 := hI.2.1.1
  have h6 := hI.2.1.2.1
  have h11 := hI.2.1.2.2.1
  have h23 := hI.2.1.2.2.2
  have hA := hL.2.2.2.1
  have hI6 := hI.2.2.2.2.2.2.1
  intro n
  induction n with
  | zero =>
    intro m hm
    have hm4 : m = 4 := by omega
    subst hm4
    refine l_mono (rc := 10) (rs := 60) ?_ (by omega) (by omega)
    have hcl : 0 ≤ clN S i (b % 32 / 4) 4 ∧ clN S i (b % 32 / 4) 4 ≤ 4 := by
      unfold clN clN clN clN clN
      (repeat' split) <;> omega
    have hcd : cd_clear S i (b % 32 / 4) = 0 := by unfold cd_clear; (repeat' split) <;> omega
    refine l_iload d_L_images_159 rfl ?_
    refine l_iload d_L_images_161 rfl ?_
    refine l_iconst d_L_images_163 ?_
    refine l_idivI d_L_images_164 (by omega) (by first | assumption | exact hR _ _ (by decide) | exact hR9 _ _ (by decide) | (unfold R32; omega)) (by omega) (by first | assumption | exact hR _ _ (by decide) | exact hR9 _ _ (by decide) | (unfold R32; omega)) ?_
    refine l_iconst d_L_images_165 ?_
    refine l_imul d_L_images_166 ?_
    refine l_iconst d_L_images_167 ?_
    refine l_iadd d_L_images_168 ?_
    refine l_icmp_ge (tgt := 198) d_L_images_169 (by decide) (by first | assumption | exact hR _ _ (by decide) | exact hR9 _ _ (by decide) | (unfold R32; omega)) (by first | assumption | exact hR _ _ (by decide) | exact hR9 _ _ (by decide) | (unfold R32; omega)) (fun z169 => ?_) (fun z169 => by exfalso; omega)
    refine l_aload_n d_L_images_198 rfl ?_
    refine l_iload_n d_L_images_199 rfl ?_
    refine l_iload d_L_images_200 rfl ?_
    refine l_iconst d_L_images_202 ?_
    refine l_idivI d_L_images_203 (by omega) (by first | assumption | exact hR _ _ (by decide) | exact hR9 _ _ (by decide) | (unfold R32; omega)) (by omega) (by first | assumption | exact hR _ _ (by decide) | exact hR9 _ _ (by decide) | (unfold R32; omega)) ?_
    refine l_callH d_L_images_204 q_L_images_88 s_h_clear v_h_clear (t_h_clear hI hE (by first | assumption | exact hR _ _ (by decide) | (unfold R32; omega)) (by first | assumption | exact hR _ _ (by decide) | (unfold R32; omega))) (opX.no hcd) h0 rfl rfl rfl (Nat.le_of_ble_eq_true rfl) rfl rfl rfl ?_
    rintro _ ad9 S9 ⟨-, rfl, hag9, hE9⟩
    have hL9 := LI.agr (LI_clear hL hcd) hag9 hE9
    have hI9 := hL9.1.1
    have hR9 := hI9.1
    have h09 := hE9.h
    have e3 : S9 3 0 = S 3 0 := by rw [hag9 3 (by decide)]; rfl
    refine l_eqv (v := vl_clear S (i) (b % 32 / 4)) (w := clN S i (b % 32 / 4) 4) rfl ?_
    refine l_iload d_L_images_207 rfl ?_
    refine l_icmp_ne (tgt := 226) d_L_images_209 (by decide) (by first | assumption | exact hR _ _ (by decide) | exact hR9 _ _ (by decide) | (unfold R32; omega)) (by first | assumption | exact hR _ _ (by decide) | exact hR9 _ _ (by decide) | (unfold R32; omega)) (fun z209 => absurd rfl z209) (fun z209 => ?_)
    refine l_aload_n d_L_images_212 rfl ?_
    refine l_iload_n d_L_images_213 rfl ?_
    refine l_iload d_L_images_214 rfl ?_
    refine l_callH d_L_images_216 q_L_images_22 s_h_shown v_h_shown (t_h_shown hI9 hE9 (by first | assumption | exact hR _ _ (by decide) | exact hR9 _ _ (by decide) | (unfold R32; omega)) (by first | assumption | exact hR _ _ (by decide) | exact hR9 _ _ (by decide) | (unfold R32; omega))) (opX.no (show cd_shown S9 (i) ((b % 32)) = 0 by unfold cd_shown; (repeat' split) <;> omega)) h09 rfl rfl rfl (Nat.le_of_ble_eq_true rfl) rfl rfl rfl ?_
    rintro _ _ _ ⟨-, rfl, rfl, rfl⟩
    refine l_eqv (v := vl_shown S9 (i) ((b % 32))) (w := 0) (a_clear hag9 hI9 i0 (by omega) (by omega)) ?_
    refine l_if_ne (tgt := 226) d_L_images_219 (by decide) (by first | assumption | exact hR _ _ (by decide) | exact hR9 _ _ (by decide) | (unfold R32; omega)) (fun z219 => by exfalso; omega) (fun z219 => ?_)
    refine l_iconst d_L_images_222 ?_
    refine l_goto (tgt := 227) d_L_images_223 (by decide) ?_
    exact l_zret rfl (Or.inr rfl) d_L_images_227 (⟨rfl, hL9, hE9⟩)
  | succ n ih =>
    intro m hm
    have hse := see_b hI6 i (4 * (b % 32 / 4) + (m : Int))
    refine l_iload d_L_images_159 rfl ?_
    refine l_iload d_L_images_161 rfl ?_
    refine l_iconst d_L_images_163 ?_
    refine l_idivI d_L_images_164 (by omega) (by first | assumption | exact hR _ _ (by decide) | (unfold R32; omega)) (by omega) (by first | assumption | exact hR _ _ (by decide) | (unfold R32; omega)) ?_
    refine l_iconst d_L_images_165 ?_
    refine l_imul d_L_images_166 ?_
    refine l_iconst d_L_images_167 ?_
    refine l_iadd d_L_images_168 ?_
    refine l_icmp_ge (tgt := 198) d_L_images_169 (by decide) (by first | assumption | exact hR _ _ (by decide) | (unfold R32; omega)) (by first | assumption | exact hR _ _ (by decide) | (unfold R32; omega)) (fun z169 => by exfalso; omega) (fun z169 => ?_)
    refine l_iload d_L_images_172 rfl ?_
    refine l_aload_n d_L_images_174 rfl ?_
    refine l_iload_n d_L_images_175 rfl ?_
    refine l_iload d_L_images_176 rfl ?_
    refine l_callH (rc' := 2 * n + 10) (rs' := 12 * n + 60) d_L_images_178 q_L_images_22 s_h_shown v_h_shown (t_h_shown hI hE (by first | assumption | exact hR _ _ (by decide) | (unfold R32; omega)) (by first | assumption | exact hR _ _ (by decide) | (unfold R32; omega))) (opX.no (show cd_shown S (i) (4 * (b % 32 / 4) + (m : Int)) = 0 by unfold cd_shown; (repeat' split) <;> omega)) h0 rfl rfl rfl (Nat.le_of_ble_eq_true rfl) rfl (by show 2 * (n + 1) + 10 = 2 * n + 10 + 2; omega) (by show 12 * (n + 1) + 60 = 12 * n + 60 + 12; omega) ?_
    rintro _ _ _ ⟨-, rfl, rfl, rfl⟩
    refine l_eqv (v := vl_shown S (i) (4 * (b % 32 / 4) + (m : Int))) (w := see S i (4 * (b % 32 / 4) + (m : Int))) rfl ?_
    refine l_if_le (tgt := 188) d_L_images_181 (by decide) (by first | assumption | exact hR _ _ (by decide) | (unfold R32; omega)) (fun z181 => ?_) (fun z181 => ?_)
    · refine l_iconst d_L_images_188 ?_
      refine l_iadd d_L_images_189 ?_
      refine l_istore d_L_images_190 (by decide) ?_
      refine l_iinc d_L_images_192 rfl (by decide) ?_
      refine l_goto (tgt := 159) d_L_images_195 (by decide) ?_
      have e := ih (m + 1) (by omega)
      rw [show clN S i (b % 32 / 4) (m + 1) = clN S i (b % 32 / 4) m + 0 from by show clN S i (b % 32 / 4) m + (if 0 < see S i (4 * (b % 32 / 4) + (m : Int)) then 1 else 0) = _; rw [if_neg (by omega)], show 4 * (b % 32 / 4) + ((m + 1 : Nat) : Int) = 4 * (b % 32 / 4) + (m : Int) + 1 by omega] at e
      exact e
    · refine l_iconst d_L_images_184 ?_
      refine l_goto (tgt := 189) d_L_images_185 (by decide) ?_
      refine l_iadd d_L_images_189 ?_
      refine l_istore d_L_images_190 (by decide) ?_
      refine l_iinc d_L_images_192 rfl (by decide) ?_
      refine l_goto (tgt := 159) d_L_images_195 (by decide) ?_
      have e := ih (m + 1) (by omega)
      rw [show clN S i (b % 32 / 4) (m + 1) = clN S i (b % 32 / 4) m + 1 from by show clN S i (b % 32 / 4) m + (if 0 < see S i (4 * (b % 32 / 4) + (m : Int)) then 1 else 0) = _; rw [if_pos (by omega)], show 4 * (b % 32 / 4) + ((m + 1 : Nat) : Int) = 4 * (b % 32 / 4) + (m : Int) + 1 by omega] at e
      exact e
theorem t_L_images {g : xG} {t u : Nat} {ad : cA} {S : gS} {ft fu : Int → Int} {i what b : Int} (hL : LI S ft fu) (hE : Ext S) (i0 : 0 ≤ i) (i1 : i < S 3 0) (hw : 0 ≤ what ∧ what ≤ 4) (hb : 0 ≤ b ∧ b < 2147483648) : lM g y_L_images k_L_images M_L_images t u [.ref (g.2.2.2.2 5), .ref t, .ref u, .int (iI i), .int (iI what), .int (iI b)] ad S ft fu qOk := by
  refine lM.of rfl (by decide) rfl rfl rfl (by simp [Value.category]) (Nat.le_of_ble_eq_true rfl) rfl ?_
  have hI := hL.1.1
  have hR := hI.1
  have h0 := hE.h
  have h3 := hI.2.1.1
  have h6 := hI.2.1.2.1
  have h11 := hI.2.1.2.2.1
  have h23 := hI.2.1.2.2.2
  have hA := hL.2.2.2.1
  have hI6 := hI.2.2.2.2.2.2.1
  have hB := hL.2.2.2.2.1 i i0 i1
  have hs5 := hI6.2.2.1 i
  have hse := see_b hI6 i (b % 32)
  have hla := lay_8 hI i0 i1
  have R8 : ∀ {v8 v9 : Option Value}, lW g M_L_images t u qOk 31 186 ad S ft fu 16 [some (.ref (g.2.2.2.2 5)), some (.ref t), some (.ref u), some (.int (iI i)), some (.int (iI what)), some (.int (iI b)), some (.int (iI (b % 32))), some (.int (iI (see S i (b % 32)))), v8, v9] [] := by
    intro v8 v9
    have k228 : S 5 i = 0 → lW g M_L_images t u qOk 31 186 ad S ft fu 228 [some (.ref (g.2.2.2.2 5)), some (.ref t), some (.ref u), some (.int (iI i)), some (.int (iI what)), some (.int (iI b)), some (.int (iI (b % 32))), some (.int (iI (see S i (b % 32)))), v8, v9] [] := fun hs => by
      have hcd : cd_seal S i = 0 := by unfold cd_seal; (repeat' split) <;> omega
      refine l_aload_n d_L_images_228 rfl ?_
      refine l_iload_n d_L_images_229 rfl ?_
      refine l_iconst d_L_images_230 ?_
      refine l_tst d_L_images_231 (by omega) (by omega) ?_
      refine l_aload_n d_L_images_232 rfl ?_
      refine l_iload_n d_L_images_233 rfl ?_
      refine l_callH d_L_images_234 q_L_images_91 s_h_seal v_h_seal (t_h_seal hI hE (by first | assumption | exact hR _ _ (by decide) | (unfold R32; omega))) (opX.no hcd) h0 rfl rfl rfl (Nat.le_of_ble_eq_true rfl) rfl rfl rfl ?_
      rintro _ ad9 S9 ⟨-, rfl, hag9, hE9⟩
      have hL9 := LI.agr (LI_seal hL hcd) hag9 hE9
      have hI9 := hL9.1.1
      have hR9 := hI9.1
      have h09 := hE9.h
      refine l_eqv (v := vl_seal S (i)) (w := lay S i) rfl ?_
      refine l_aload_n d_L_images_237 rfl ?_
      refine l_bipush d_L_images_238 (by decide) ?_
      refine l_iload_n d_L_images_240 rfl ?_
      refine l_iadd d_L_images_241 ?_
      refine l_tld ((fset_o ft 1 (by omega)).trans hB.2) d_L_images_242 (by omega) (by omega) ?_
      refine l_icmp_ne (tgt := 250) d_L_images_243 (by decide) (by first | assumption | exact hR _ _ (by decide) | exact hR9 _ _ (by decide) | (unfold R32; omega)) (by first | assumption | exact hR _ _ (by decide) | exact hR9 _ _ (by decide) | (unfold R32; omega)) (fun z243 => absurd rfl z243) (fun z243 => ?_)
      refine l_iconst d_L_images_246 ?_
      refine l_goto (tgt := 251) d_L_images_247 (by decide) ?_
      exact l_zret rfl (Or.inr rfl) d_L_images_251 (⟨rfl, hL9, hE9⟩)
    have k51 : S 5 i = 0 → lW g M_L_images t u qOk 31 186 ad S ft fu 51 [some (.ref (g.2.2.2.2 5)), some (.ref t), some (.ref u), some (.int (iI i)), some (.int (iI what)), some (.int (iI b)), some (.int (iI (b % 32))), some (.int (iI (see S i (b % 32)))), v8, v9] [] := fun hs => by
      have hcd : cd_write S i (b % 32) (1 + b / 32 % 999) = 0 := by unfold cd_write; (repeat' split) <;> omega
      refine l_aload_n d_L_images_51 rfl ?_
      refine l_iload_n d_L_images_52 rfl ?_
      refine l_iload d_L_images_53 rfl ?_
      refine l_iconst d_L_images_55 ?_
      refine l_iload d_L_images_56 rfl ?_
      refine l_bipush d_L_images_58 (by decide) ?_
      refine l_idivI d_L_images_60 (by omega) (by first | assumption | exact hR _ _ (by decide) | exact hR9 _ _ (by decide) | (unfold R32; omega)) (by omega) (by first | assumption | exact hR _ _ (by decide) | exact hR9 _ _ (by decide) | (unfold R32; omega)) ?_
      refine l_sipush d_L_images_61 (by decide) ?_
      refine l_iremI d_L_images_64 (by omega) (by first | assumption | exact hR _ _ (by decide) | exact hR9 _ _ (by decide) | (unfold R32; omega)) (by omega) (by first | assumption | exact hR _ _ (by decide) | exact hR9 _ _ (by decide) | (unfold R32; omega)) ?_
      refine l_iadd d_L_images_65 ?_
      refine l_callH d_L_images_66 q_L_images_81 s_h_write v_h_write (t_h_write hI hE (by first | assumption | exact hR _ _ (by decide) | (unfold R32; omega)) (by first | assumption | exact hR _ _ (by decide) | (unfold R32; omega)) (by first | assumption | exact hR _ _ (by decide) | (unfold R32; omega))) (opX.no hcd) h0 rfl rfl rfl (Nat.le_of_ble_eq_true rfl) rfl rfl rfl ?_
      rintro _ ad9 S9 ⟨-, rfl, hag9, hE9⟩
      have hL9 := LI.agr (LI_write hL hcd) hag9 hE9
      have hI9 := hL9.1.1
      have hR9 := hI9.1
      have h09 := hE9.h
      have e3 : S9 3 0 = S 3 0 := by rw [hag9 3 (by decide)]; rfl
      refine l_eqv (v := vl_write S (i) ((b % 32)) ((1 + b / 32 % 999))) (w := see S i (b % 32)) rfl ?_
      refine l_iload d_L_images_69 rfl ?_
      refine l_icmp_ne (tgt := 99) d_L_images_71 (by decide) (by first | assumption | exact hR _ _ (by decide) | exact hR9 _ _ (by decide) | (unfold R32; omega)) (by first | assumption | exact hR _ _ (by decide) | exact hR9 _ _ (by decide) | (unfold R32; omega)) (fun z71 => absurd rfl z71) (fun z71 => ?_)
      refine l_aload_n d_L_images_74 rfl ?_
      refine l_iload_n d_L_images_75 rfl ?_
      refine l_iload d_L_images_76 rfl ?_
      refine l_callH d_L_images_78 q_L_images_22 s_h_shown v_h_shown (t_h_shown hI9 hE9 (by first | assumption | exact hR _ _ (by decide) | exact hR9 _ _ (by decide) | (unfold R32; omega)) (by first | assumption | exact hR _ _ (by decide) | exact hR9 _ _ (by decide) | (unfold R32; omega))) (opX.no (show cd_shown S9 (i) ((b % 32)) = 0 by unfold cd_shown; (repeat' split) <;> omega)) h09 rfl rfl rfl (Nat.le_of_ble_eq_true rfl) rfl rfl rfl ?_
      rintro _ _ _ ⟨-, rfl, rfl, rfl⟩
      refine l_eqv (v := vl_shown S9 (i) ((b % 32))) (w := (1 + b / 32 % 999)) (a_write hag9 hI9 i0 (by omega) (by omega)) ?_
      refine l_iconst d_L_images_81 ?_
      refine l_iload d_L_images_82 rfl ?_
      refine l_bipush d_L_images_84 (by decide) ?_
      refine l_idivI d_L_images_86 (by omega) (by first | assumption | exact hR _ _ (by decide) | exact hR9 _ _ (by decide) | (unfold R32; omega)) (by omega) (by first | assumption | exact hR _ _ (by decide) | exact hR9 _ _ (by decide) | (unfold R32; omega)) ?_
      refine l_sipush d_L_images_87 (by decide) ?_
      refine l_iremI d_L_images_90 (by omega) (by first | assumption | exact hR _ _ (by decide) | exact hR9 _ _ (by decide) | (unfold R32; omega)) (by omega) (by first | assumption | exact hR _ _ (by decide) | exact hR9 _ _ (by decide) | (unfold R32; omega)) ?_
      refine l_iadd d_L_images_91 ?_
      refine l_icmp_ne (tgt := 99) d_L_images_92 (by decide) (by first | assumption | exact hR _ _ (by decide) | exact hR9 _ _ (by decide) | (unfold R32; omega)) (by first | assumption | exact hR _ _ (by decide) | exact hR9 _ _ (by decide) | (unfold R32; omega)) (fun z92 => absurd rfl z92) (fun z92 => ?_)
      refine l_iconst d_L_images_95 ?_
      refine l_goto (tgt := 100) d_L_images_96 (by decide) ?_
      exact l_zret rfl (Or.inr rfl) d_L_images_100 (⟨rfl, hL9, hE9⟩)
    have k101 : S 5 i = 0 → (what = 2 → see S i (b % 32) ≠ 0) → lW g M_L_images t u qOk 31 186 ad S ft fu 101 [some (.ref (g.2.2.2.2 5)), some (.ref t), some (.ref u), some (.int (iI i)), some (.int (iI what)), some (.int (iI b)), some (.int (iI (b % 32))), some (.int (iI (see S i (b % 32)))), v8, v9] [] := fun hs hw2 => by
      refine l_iload d_L_images_101 rfl ?_
      refine l_iconst d_L_images_103 ?_
      refine l_icmp_ne (tgt := 135) d_L_images_104 (by decide) (by first | assumption | exact hR _ _ (by decide) | exact hR9 _ _ (by decide) | (unfold R32; omega)) (by first | assumption | exact hR _ _ (by decide) | exact hR9 _ _ (by decide) | (unfold R32; omega)) (fun z104 => ?_) (fun z104 => ?_)
      · refine l_iload d_L_images_135 rfl ?_
        refine l_iconst d_L_images_137 ?_
        refine l_icmp_ne (tgt := 228) d_L_images_138 (by decide) (by first | assumption | exact hR _ _ (by decide) | exact hR9 _ _ (by decide) | (unfold R32; omega)) (by first | assumption | exact hR _ _ (by decide) | exact hR9 _ _ (by decide) | (unfold R32; omega)) (fun z138 => ?_) (fun z138 => ?_)
        · exact k228 hs
        · refine l_iload d_L_images_141 rfl ?_
          refine l_iconst d_L_images_143 ?_
          refine l_iremI d_L_images_144 (by omega) (by first | assumption | exact hR _ _ (by decide) | exact hR9 _ _ (by decide) | (unfold R32; omega)) (by omega) (by first | assumption | exact hR _ _ (by decide) | exact hR9 _ _ (by decide) | (unfold R32; omega)) ?_
          refine l_if_ne (tgt := 228) d_L_images_145 (by decide) (by first | assumption | exact hR _ _ (by decide) | exact hR9 _ _ (by decide) | (unfold R32; omega)) (fun z145 => ?_) (fun z145 => ?_)
          · exact k228 hs
          · refine l_iconst d_L_images_148 ?_
            refine l_istore d_L_images_149 (by decide) ?_
            refine l_iload d_L_images_151 rfl ?_
            refine l_iconst d_L_images_153 ?_
            refine l_idivI d_L_images_154 (by omega) (by first | assumption | exact hR _ _ (by decide) | exact hR9 _ _ (by decide) | (unfold R32; omega)) (by omega) (by first | assumption | exact hR _ _ (by decide) | exact hR9 _ _ (by decide) | (unfold R32; omega)) ?_
            refine l_iconst d_L_images_155 ?_
            refine l_imul d_L_images_156 ?_
            refine l_eqv (v := (b % 32) / 4 * 4) (w := 4 * ((b % 32) / 4) + ((0 : Nat) : Int)) (by omega) ?_
            refine l_istore d_L_images_157 (by decide) ?_
            exact l_mono (W_clear hL hE i0 i1 hb hs 4 0 rfl) (by decide) (by decide)
      · have hcd : cd_remove S i (b % 32) = 0 := by unfold cd_remove; (repeat' split) <;> omega
        refine l_aload_n d_L_images_107 rfl ?_
        refine l_iload_n d_L_images_108 rfl ?_
        refine l_iload d_L_images_109 rfl ?_
        refine l_callH d_L_images_111 q_L_images_85 s_h_remove v_h_remove (t_h_remove hI hE (by first | assumption | exact hR _ _ (by decide) | (unfold R32; omega)) (by first | assumption | exact hR _ _ (by decide) | (unfold R32; omega))) (opX.no hcd) h0 rfl rfl rfl (Nat.le_of_ble_eq_true rfl) rfl rfl rfl ?_
        rintro _ ad9 S9 ⟨-, rfl, hag9, hE9⟩
        have hL9 := LI.agr (LI_remove hL) hag9 hE9
        have hI9 := hL9.1.1
        have hR9 := hI9.1
        have h09 := hE9.h
        have e3 : S9 3 0 = S 3 0 := by rw [hag9 3 (by decide)]; rfl
        refine l_eqv (v := vl_remove S (i) ((b % 32))) (w := see S i (b % 32)) rfl ?_
        refine l_iload d_L_images_114 rfl ?_
        refine l_icmp_ne (tgt := 133) d_L_images_116 (by decide) (by first | assumption | exact hR _ _ (by decide) | exact hR9 _ _ (by decide) | (unfold R32; omega)) (by first | assumption | exact hR _ _ (by decide) | exact hR9 _ _ (by decide) | (unfold R32; omega)) (fun z116 => absurd rfl z116) (fun z116 => ?_)
        refine l_aload_n d_L_images_119 rfl ?_
        refine l_iload_n d_L_images_120 rfl ?_
        refine l_iload d_L_images_121 rfl ?_
        refine l_callH d_L_images_123 q_L_images_22 s_h_shown v_h_shown (t_h_shown hI9 hE9 (by first | assumption | exact hR _ _ (by decide) | exact hR9 _ _ (by decide) | (unfold R32; omega)) (by first | assumption | exact hR _ _ (by decide) | exact hR9 _ _ (by decide) | (unfold R32; omega))) (opX.no (show cd_shown S9 (i) ((b % 32)) = 0 by unfold cd_shown; (repeat' split) <;> omega)) h09 rfl rfl rfl (Nat.le_of_ble_eq_true rfl) rfl rfl rfl ?_
        rintro _ _ _ ⟨-, rfl, rfl, rfl⟩
        refine l_eqv (v := vl_shown S9 (i) ((b % 32))) (w := 0) (a_remove hag9 hI9 i0 (by omega)) ?_
        refine l_if_ne (tgt := 133) d_L_images_126 (by decide) (by first | assumption | exact hR _ _ (by decide) | exact hR9 _ _ (by decide) | (unfold R32; omega)) (fun z126 => by exfalso; omega) (fun z126 => ?_)
        refine l_iconst d_L_images_129 ?_
        refine l_goto (tgt := 134) d_L_images_130 (by decide) ?_
        exact l_zret rfl (Or.inr rfl) d_L_images_134 (⟨rfl, hL9, hE9⟩)
    refine l_aload_n d_L_images_16 rfl ?_
    refine l_iload_n d_L_images_17 rfl ?_
    refine l_tld (hB.1) d_L_images_18 (by omega) (by omega) ?_
    refine l_iconst d_L_images_19 ?_
    refine l_icmp_ne (tgt := 34) d_L_images_20 (by decide) (by first | assumption | exact hR _ _ (by decide) | (unfold R32; omega)) (by first | assumption | exact hR _ _ (by decide) | (unfold R32; omega)) (fun z20 => ?_) (fun z20 => ?_)
    · refine l_iload d_L_images_34 rfl ?_
      refine l_iconst d_L_images_36 ?_
      refine l_icmp_eq (tgt := 51) d_L_images_37 (by decide) (by first | assumption | exact hR _ _ (by decide) | (unfold R32; omega)) (by first | assumption | exact hR _ _ (by decide) | (unfold R32; omega)) (fun z37 => ?_) (fun z37 => ?_)
      · exact k51 (by omega)
      · refine l_iload d_L_images_40 rfl ?_
        refine l_iconst d_L_images_42 ?_
        refine l_icmp_ne (tgt := 101) d_L_images_43 (by decide) (by first | assumption | exact hR _ _ (by decide) | (unfold R32; omega)) (by first | assumption | exact hR _ _ (by decide) | (unfold R32; omega)) (fun z43 => ?_) (fun z43 => ?_)
        · exact k101 (by omega) (fun z => by omega)
        · refine l_iload d_L_images_46 rfl ?_
          refine l_if_ne (tgt := 101) d_L_images_48 (by decide) (by first | assumption | exact hR _ _ (by decide) | (unfold R32; omega)) (fun z48 => ?_) (fun z48 => ?_)
          · exact k101 (by omega) (fun z => by omega)
          · exact k51 (by omega)
    · refine l_iload d_L_images_23 rfl ?_
      refine l_if_lt (tgt := 32) d_L_images_25 (by decide) (by first | assumption | exact hR _ _ (by decide) | (unfold R32; omega)) (fun z25 => by exfalso; omega) (fun z25 => ?_)
      refine l_iconst d_L_images_28 ?_
      refine l_goto (tgt := 33) d_L_images_29 (by decide) ?_
      exact l_zret rfl (Or.inr rfl) d_L_images_33 (⟨rfl, hL, hE⟩)
  refine l_iload d_L_images_0 rfl ?_
  refine l_bipush d_L_images_2 (by decide) ?_
  refine l_iremI d_L_images_4 (by omega) (by first | assumption | exact hR _ _ (by decide) | (unfold R32; omega)) (by omega) (by first | assumption | exact hR _ _ (by decide) | (unfold R32; omega)) ?_
  refine l_istore d_L_images_5 (by decide) ?_
  refine l_aload_n d_L_images_7 rfl ?_
  refine l_iload_n d_L_images_8 rfl ?_
  refine l_iload d_L_images_9 rfl ?_
  refine l_callH d_L_images_11 q_L_images_22 s_h_shown v_h_shown (t_h_shown hI hE (by first | assumption | exact hR _ _ (by decide) | (unfold R32; omega)) (by first | assumption | exact hR _ _ (by decide) | (unfold R32; omega))) (opX.no (show cd_shown S (i) ((b % 32)) = 0 by unfold cd_shown; (repeat' split) <;> omega)) h0 rfl rfl rfl (Nat.le_of_ble_eq_true rfl) rfl rfl rfl ?_
  rintro _ _ _ ⟨-, rfl, rfl, rfl⟩
  refine l_eqv (v := vl_shown S (i) ((b % 32))) (w := see S i (b % 32)) rfl ?_
  refine l_istore d_L_images_14 (by decide) ?_
  exact R8
theorem W_commits {g : xG} {t u : Nat} {ad : cA} {S : gS} {ft fu : Int → Int} {c n y : Int} (hL : LI S ft fu) (hE : Ext S) (c0 : 0 ≤ c) (c1 : c < S 11 0) (n0 : 0 ≤ n) (n1 : n < S 3 0) (hf : ∀ f, 0 ≤ f → f < 32 → csee S c f = see S n f) (hu : fu c = y) (hy0 : 0 ≤ y) (hy1 : y < lay S n) : ∀ m k : Nat, k + m = 32 → lW g M_L_commits t u qOk (4 * m + 10) (24 * m + 60) ad S ft fu 72 [some (.ref (g.2.2.2.2 5)), some (.ref t), some (.ref u), some (.int (iI c)), some (.int (iI n)), some (.int (iI 1)), some (.int (iI (k : Int)))] [] := by
  have hI := hL.1.1
  have hR := hI.1
  have h0 := hE.h
  have h3 := hI.2.1.1
  have h6 := hI.2.1.2.1
  have h11 := hI.2.1.2.2.1
  have h23 := hI.2.1.2.2.2
  have hA := hL.2.2.2.1
  have hI6 := hI.2.2.2.2.2.2.1
  have hla := lay_8 hI n0 n1
  have hen := entries_nn (S := S) (i := n) (l := y)
  intro m
  induction m with
  | zero =>
    intro k hk
    have hk2 : k = 32 := by omega
    subst hk2
    refine l_mono (rc := 10) (rs := 60) ?_ (by omega) (by omega)
    refine l_iload d_L_commits_72 rfl ?_
    refine l_bipush d_L_commits_74 (by decide) ?_
    refine l_icmp_ge (tgt := 115) d_L_commits_76 (by decide) (by first | assumption | exact hR _ _ (by decide) | (unfold R32; omega)) (by first | assumption | exact hR _ _ (by decide) | (unfold R32; omega)) (fun z76 => ?_) (fun z76 => by exfalso; omega)
    refine l_iload d_L_commits_115 rfl ?_
    refine l_if_eq (tgt := 136) d_L_commits_117 (by decide) (by first | assumption | exact hR _ _ (by decide) | (unfold R32; omega)) (fun z117 => by exfalso; omega) (fun z117 => ?_)
    refine l_aload_n d_L_commits_120 rfl ?_
    refine l_iload d_L_commits_121 rfl ?_
    refine l_aload_n d_L_commits_123 rfl ?_
    refine l_iload_n d_L_commits_124 rfl ?_
    refine l_uld (hu) d_L_commits_125 (by omega) (by omega) ?_
    refine l_callH d_L_commits_126 q_L_commits_18 s_h_entries v_h_entries (t_h_entries hI hE (by first | assumption | exact hR _ _ (by decide) | (unfold R32; omega)) (by first | assumption | exact hR _ _ (by decide) | (unfold R32; omega))) (opX.no (show cd_entries S (n) (y) = 0 by unfold cd_entries; (repeat' split) <;> omega)) h0 rfl rfl rfl (Nat.le_of_ble_eq_true rfl) rfl rfl rfl ?_
    rintro _ _ _ ⟨-, rfl, rfl, rfl⟩
    refine l_eqv (v := vl_entries S (n) (y)) (w := vl_entries S n y) rfl ?_
    refine l_if_lt (tgt := 136) d_L_commits_129 (by decide) (by first | assumption | exact hR _ _ (by decide) | (unfold R32; omega)) (fun z129 => by exfalso; omega) (fun z129 => ?_)
    refine l_iconst d_L_commits_132 ?_
    refine l_goto (tgt := 137) d_L_commits_133 (by decide) ?_
    exact l_zret rfl (Or.inr rfl) d_L_commits_137 (⟨rfl, hL, hE⟩)
  | succ m ih =>
    intro k hk
    have hse := see_b hI6 n (k : Int)
    refine l_iload d_L_commits_72 rfl ?_
    refine l_bipush d_L_commits_74 (by decide) ?_
    refine l_icmp_ge (tgt := 115) d_L_commits_76 (by decide) (by first | assumption | exact hR _ _ (by decide) | (unfold R32; omega)) (by first | assumption | exact hR _ _ (by decide) | (unfold R32; omega)) (fun z76 => by exfalso; omega) (fun z76 => ?_)
    refine l_iload d_L_commits_79 rfl ?_
    refine l_if_eq (tgt := 106) d_L_commits_81 (by decide) (by first | assumption | exact hR _ _ (by decide) | (unfold R32; omega)) (fun z81 => by exfalso; omega) (fun z81 => ?_)
    refine l_aload_n d_L_commits_84 rfl ?_
    refine l_iload d_L_commits_85 rfl ?_
    refine l_iload d_L_commits_87 rfl ?_
    refine l_callH (rc' := 4 * m + 12) (rs' := 24 * m + 72) d_L_commits_89 q_L_commits_22 s_h_shown v_h_shown (t_h_shown hI hE (by first | assumption | exact hR _ _ (by decide) | (unfold R32; omega)) (by first | assumption | exact hR _ _ (by decide) | (unfold R32; omega))) (opX.no (show cd_shown S (n) ((k : Int)) = 0 by unfold cd_shown; (repeat' split) <;> omega)) h0 rfl rfl rfl (Nat.le_of_ble_eq_true rfl) rfl (by show 4 * (m + 1) + 10 = 4 * m + 12 + 2; omega) (by show 24 * (m + 1) + 60 = 24 * m + 72 + 12; omega) ?_
    rintro _ _ _ ⟨-, rfl, rfl, rfl⟩
    refine l_eqv (v := vl_shown S (n) ((k : Int))) (w := see S n (k : Int)) rfl ?_
    refine l_aload_n d_L_commits_92 rfl ?_
    refine l_iload_n d_L_commits_93 rfl ?_
    refine l_iload d_L_commits_94 rfl ?_
    refine l_callH (rc' := 4 * m + 10) (rs' := 24 * m + 60) d_L_commits_96 q_L_commits_65 s_h_fileOf v_h_fileOf (t_h_fileOf hI hE (by first | assumption | exact hR _ _ (by decide) | (unfold R32; omega)) (by first | assumption | exact hR _ _ (by decide) | (unfold R32; omega))) (opX.no (show cd_fileOf S (c) ((k : Int)) = 0 by unfold cd_fileOf; (repeat' split) <;> omega)) h0 rfl rfl rfl (Nat.le_of_ble_eq_true rfl) rfl (by show 4 * m + 12 = 4 * m + 10 + 2; omega) (by show 24 * m + 72 = 24 * m + 60 + 12; omega) ?_
    rintro _ _ _ ⟨-, rfl, rfl, rfl⟩
    refine l_eqv (v := vl_fileOf S (c) ((k : Int))) (w := see S n (k : Int)) (hf k (by omega) (by omega)) ?_
    refine l_icmp_ne (tgt := 106) d_L_commits_99 (by decide) (by first | assumption | exact hR _ _ (by decide) | (unfold R32; omega)) (by first | assumption | exact hR _ _ (by decide) | (unfold R32; omega)) (fun z99 => absurd rfl z99) (fun z99 => ?_)
    refine l_iconst d_L_commits_102 ?_
    refine l_goto (tgt := 107) d_L_commits_103 (by decide) ?_
    refine l_istore d_L_commits_107 (by decide) ?_
    refine l_iinc d_L_commits_109 rfl (by decide) ?_
    refine l_goto (tgt := 72) d_L_commits_112 (by decide) ?_
    have e := ih (k + 1) (by omega)
    rw [show ((k + 1 : Nat) : Int) = (k : Int) + 1 by omega] at e
    exact e
theorem t_L_commits {g : xG} {t u : Nat} {ad : cA} {S : gS} {ft fu : Int → Int} {c : Int} (hL : LI S ft fu) (hE : Ext S) (c0 : 0 ≤ c) (c1 : c < S 11 0) (hn : S 3 0 < 10) : lM g y_L_commits k_L_commits M_L_commits t u [.ref (g.2.2.2.2 5), .ref t, .ref u, .int (iI c)] ad S ft fu qOk := by
  refine lM.of rfl (by decide) rfl rfl rfl (by simp [Value.category]) (Nat.le_of_ble_eq_true rfl) rfl ?_
  have hI := hL.1.1
  have hR := hI.1
  have h0 := hE.h
  have h3 := hI.2.1.1
  have h6 := hI.2.1.2.1
  have h11 := hI.2.1.2.2.1
  have h23 := hI.2.1.2.2.2
  have hA := hL.2.2.2.1
  have hI6 := hI.2.2.2.2.2.2.1
  have hK := hL.2.2.2.2.2.2 c c0 c1
  have q3 := (hI.2.2.2.1 c (Or.inl ⟨c0, c1⟩)).1
  have hla := lay_8 hI q3.1 q3.2
  refine l_aload_n d_L_commits_0 rfl ?_
  refine l_bipush d_L_commits_1 (by decide) ?_
  refine l_uld (hA.1) d_L_commits_3 (by omega) (by omega) ?_
  refine l_istore d_L_commits_4 (by decide) ?_
  refine l_aload_n d_L_commits_6 rfl ?_
  refine l_iload_n d_L_commits_7 rfl ?_
  refine l_uld (hK.2) d_L_commits_8 (by omega) (by omega) ?_
  refine l_bipush d_L_commits_9 (by decide) ?_
  refine l_icmp_ne (tgt := 27) d_L_commits_11 (by decide) (by first | assumption | exact hR _ _ (by decide) | exact hR9 _ _ (by decide) | (unfold R32; omega)) (by first | assumption | exact hR _ _ (by decide) | exact hR9 _ _ (by decide) | (unfold R32; omega)) (fun z11 => ?_) (fun z11 => ?_)
  · have hcd : cd_commit S c = 0 := by unfold cd_commit; (repeat' split) <;> omega
    refine l_aload_n d_L_commits_27 rfl ?_
    refine l_iload d_L_commits_28 rfl ?_
    refine l_iconst d_L_commits_30 ?_
    refine l_tst d_L_commits_31 (by omega) (by omega) ?_
    refine l_aload_n d_L_commits_32 rfl ?_
    refine l_bipush d_L_commits_33 (by decide) ?_
    refine l_iload d_L_commits_35 rfl ?_
    refine l_iadd d_L_commits_37 ?_
    refine l_aload_n d_L_commits_38 rfl ?_
    refine l_iload_n d_L_commits_39 rfl ?_
    refine l_uld (hK.2) d_L_commits_40 (by omega) (by omega) ?_
    refine l_iconst d_L_commits_41 ?_
    refine l_iadd d_L_commits_42 ?_
    refine l_tst d_L_commits_43 (by omega) (by omega) ?_
    refine l_aload_n d_L_commits_44 rfl ?_
    refine l_bipush d_L_commits_45 (by decide) ?_
    refine l_dup2 d_L_commits_47 rfl rfl ?_
    refine l_uld (hA.1) d_L_commits_48 (by omega) (by omega) ?_
    refine l_iconst d_L_commits_49 ?_
    refine l_iadd d_L_commits_50 ?_
    refine l_ust d_L_commits_51 (by omega) (by omega) ?_
    refine l_aload_n d_L_commits_52 rfl ?_
    refine l_iload_n d_L_commits_53 rfl ?_
    refine l_callH d_L_commits_54 q_L_commits_111 s_h_commit v_h_commit (t_h_commit hI hE (by first | assumption | exact hR _ _ (by decide) | (unfold R32; omega))) (opX.no hcd) h0 rfl rfl rfl (Nat.le_of_ble_eq_true rfl) rfl rfl rfl ?_
    rintro _ ad9 S9 ⟨-, rfl, hag9, hE9⟩
    have hL9 := LI.agr (LI_commit hL hcd rfl) hag9 hE9
    have hI9 := hL9.1.1
    have hR9 := hI9.1
    have h09 := hE9.h
    refine l_eqv (v := vl_commit S (c)) (w := S 3 0) rfl ?_
    refine l_iload d_L_commits_57 rfl ?_
    refine l_icmp_ne (tgt := 66) d_L_commits_59 (by decide) (by first | assumption | exact hR _ _ (by decide) | exact hR9 _ _ (by decide) | (unfold R32; omega)) (by first | assumption | exact hR _ _ (by decide) | exact hR9 _ _ (by decide) | (unfold R32; omega)) (fun z59 => absurd rfl z59) (fun z59 => ?_)
    refine l_iconst d_L_commits_62 ?_
    refine l_goto (tgt := 67) d_L_commits_63 (by decide) ?_
    refine l_istore d_L_commits_67 (by decide) ?_
    refine l_iconst d_L_commits_69 ?_
    refine l_istore d_L_commits_70 (by decide) ?_
    have ea := a_commit hag9
    have el : lay S9 (S 3 0) = lay S (S 12 c) + 1 := by
      have y := (hL9.2.2.2.2.1 (S 3 0) (by omega) (by omega)).2
      rw [fset_e] at y
      exact y.symm
    exact l_mono (W_commits (n := S 3 0) (y := lay S (S 12 c)) hL9 hE9 c0 (by omega) (by omega) (by omega) (fun f f0 f1 => (a_commit_f hag9 hI9 (by omega) c0 f0 f1).symm) ((fset_o fu _ (by omega)).trans hK.2) (by omega) (by omega) 32 0 rfl) (by decide) (by decide)
  · refine l_iload d_L_commits_14 rfl ?_
    refine l_bipush d_L_commits_16 (by decide) ?_
    refine l_icmp_gt (tgt := 25) d_L_commits_18 (by decide) (by first | assumption | exact hR _ _ (by decide) | exact hR9 _ _ (by decide) | (unfold R32; omega)) (by first | assumption | exact hR _ _ (by decide) | exact hR9 _ _ (by decide) | (unfold R32; omega)) (fun z18 => by exfalso; omega) (fun z18 => ?_)
    refine l_iconst d_L_commits_21 ?_
    refine l_goto (tgt := 26) d_L_commits_22 (by decide) ?_
    exact l_zret rfl (Or.inr rfl) d_L_commits_26 (⟨rfl, hL, hE⟩)
theorem W_saves {g : xG} {t u : Nat} {ad : cA} {S : gS} {ft fu : Int → Int} {c n : Int} {v4 v5 v7 : Option Value} (hL : LI S ft fu) (hE : Ext S) (c0 : 0 ≤ c) (c1 : c < S 11 0) (n0 : 0 ≤ n) (n1 : n < S 11 0) (hf : ∀ f, 0 ≤ f → f < 32 → csee S n f = csee S c f) : ∀ m k : Nat, k + m = 32 → lW g M_L_saves t u qOk (4 * m) (24 * m) ad S ft fu 167 [some (.ref (g.2.2.2.2 5)), some (.ref t), some (.ref u), some (.int (iI c)), v4, v5, some (.int (iI 1)), v7, some (.int (iI n)), some (.int (iI (k : Int)))] [] := by
  have hI := hL.1.1
  have hR := hI.1
  have h0 := hE.h
  have h3 := hI.2.1.1
  have h6 := hI.2.1.2.1
  have h11 := hI.2.1.2.2.1
  have h23 := hI.2.1.2.2.2
  have hA := hL.2.2.2.1
  have hI6 := hI.2.2.2.2.2.2.1
  intro m
  induction m with
  | zero =>
    intro k hk
    have hk2 : k = 32 := by omega
    subst hk2
    refine l_iload d_L_saves_167 rfl ?_
    refine l_bipush d_L_saves_169 (by decide) ?_
    refine l_icmp_ge (tgt := 210) d_L_saves_171 (by decide) (by first | assumption | exact hR _ _ (by decide) | (unfold R32; omega)) (by first | assumption | exact hR _ _ (by decide) | (unfold R32; omega)) (fun z171 => ?_) (fun z171 => by exfalso; omega)
    refine l_iload d_L_saves_210 rfl ?_
    exact l_zret rfl (Or.inr rfl) d_L_saves_212 (⟨rfl, hL, hE⟩)
  | succ m ih =>
    intro k hk
    have hse := csee_b hI c (k : Int)
    refine l_iload d_L_saves_167 rfl ?_
    refine l_bipush d_L_saves_169 (by decide) ?_
    refine l_icmp_ge (tgt := 210) d_L_saves_171 (by decide) (by first | assumption | exact hR _ _ (by decide) | (unfold R32; omega)) (by first | assumption | exact hR _ _ (by decide) | (unfold R32; omega)) (fun z171 => by exfalso; omega) (fun z171 => ?_)
    refine l_iload d_L_saves_174 rfl ?_
    refine l_if_eq (tgt := 201) d_L_saves_176 (by decide) (by first | assumption | exact hR _ _ (by decide) | (unfold R32; omega)) (fun z176 => by exfalso; omega) (fun z176 => ?_)
    refine l_aload_n d_L_saves_179 rfl ?_
    refine l_iload d_L_saves_180 rfl ?_
    refine l_iload d_L_saves_182 rfl ?_
    refine l_callH (rc' := 4 * m + 2) (rs' := 24 * m + 12) d_L_saves_184 q_L_saves_65 s_h_fileOf v_h_fileOf (t_h_fileOf hI hE (by first | assumption | exact hR _ _ (by decide) | (unfold R32; omega)) (by first | assumption | exact hR _ _ (by decide) | (unfold R32; omega))) (opX.no (show cd_fileOf S (n) ((k : Int)) = 0 by unfold cd_fileOf; (repeat' split) <;> omega)) h0 rfl rfl rfl (Nat.le_of_ble_eq_true rfl) rfl (by show 4 * (m + 1) = 4 * m + 2 + 2; omega) (by show 24 * (m + 1) = 24 * m + 12 + 12; omega) ?_
    rintro _ _ _ ⟨-, rfl, rfl, rfl⟩
    refine l_eqv (v := vl_fileOf S (n) ((k : Int))) (w := csee S c (k : Int)) (hf k (by omega) (by omega)) ?_
    refine l_aload_n d_L_saves_187 rfl ?_
    refine l_iload_n d_L_saves_188 rfl ?_
    refine l_iload d_L_saves_189 rfl ?_
    refine l_callH (rc' := 4 * m) (rs' := 24 * m) d_L_saves_191 q_L_saves_65 s_h_fileOf v_h_fileOf (t_h_fileOf hI hE (by first | assumption | exact hR _ _ (by decide) | (unfold R32; omega)) (by first | assumption | exact hR _ _ (by decide) | (unfold R32; omega))) (opX.no (show cd_fileOf S (c) ((k : Int)) = 0 by unfold cd_fileOf; (repeat' split) <;> omega)) h0 rfl rfl rfl (Nat.le_of_ble_eq_true rfl) rfl (by show 4 * m + 2 = 4 * m + 2; omega) (by show 24 * m + 12 = 24 * m + 12; omega) ?_
    rintro _ _ _ ⟨-, rfl, rfl, rfl⟩
    refine l_eqv (v := vl_fileOf S (c) ((k : Int))) (w := csee S c (k : Int)) rfl ?_
    refine l_icmp_ne (tgt := 201) d_L_saves_194 (by decide) (by first | assumption | exact hR _ _ (by decide) | (unfold R32; omega)) (by first | assumption | exact hR _ _ (by decide) | (unfold R32; omega)) (fun z194 => absurd rfl z194) (fun z194 => ?_)
    refine l_iconst d_L_saves_197 ?_
    refine l_goto (tgt := 202) d_L_saves_198 (by decide) ?_
    refine l_istore d_L_saves_202 (by decide) ?_
    refine l_iinc d_L_saves_204 rfl (by decide) ?_
    refine l_goto (tgt := 167) d_L_saves_207 (by decide) ?_
    have e := ih (k + 1) (by omega)
    rw [show ((k + 1 : Nat) : Int) = (k : Int) + 1 by omega] at e
    exact e
theorem t_L_saves {g : xG} {t u : Nat} {ad : cA} {S : gS} {ft fu : Int → Int} {c : Int} (hL : LI S ft fu) (hE : Ext S) (c0 : 0 ≤ c) (c1 : c < S 11 0) (hs : S 19 c = 1) (hn : S 11 0 < 20) (hk : S 23 0 < 5) : lM g y_L_saves k_L_saves M_L_saves t u [.ref (g.2.2.2.2 5), .ref t, .ref u, .int (iI c)] ad S ft fu qOk := by
  refine lM.of rfl (by decide) rfl rfl rfl (by simp [Value.category]) (Nat.le_of_ble_eq_true rfl) rfl ?_
  have hI := hL.1.1
  have hR := hI.1
  have h0 := hE.h
  have h3 := hI.2.1.1
  have h6 := hI.2.1.2.1
  have h11 := hI.2.1.2.2.1
  have h23 := hI.2.1.2.2.2
  have hA := hL.2.2.2.1
  have hI6 := hI.2.2.2.2.2.2.1
  have hK := hL.2.2.2.2.2.2 c c0 c1
  have q20 := (hI.2.2.2.2.1 c c0 c1).2.1
  have q14 := (hI.2.2.2.1 c (Or.inl ⟨c0, c1⟩)).2.2.1
  have hcd : cd_save S c = 0 := by unfold cd_save; (repeat' split) <;> omega
  have hpb := prcI_b hI (S 20 c)
  refine l_aload_n d_L_saves_0 rfl ?_
  refine l_bipush d_L_saves_1 (by decide) ?_
  refine l_iload_n d_L_saves_3 rfl ?_
  refine l_iadd d_L_saves_4 ?_
  refine l_tld (hK.1) d_L_saves_5 (by omega) (by omega) ?_
  refine l_istore d_L_saves_6 (by decide) ?_
  refine l_aload_n d_L_saves_8 rfl ?_
  refine l_iload d_L_saves_9 rfl ?_
  refine l_callH d_L_saves_11 q_L_saves_36 s_h_groupProcesses v_h_groupProcesses (t_h_groupProcesses hI hE (by first | assumption | exact hR _ _ (by decide) | (unfold R32; omega))) (opX.no (show cd_groupProcesses S (S 20 c) = 0 by unfold cd_groupProcesses; (repeat' split) <;> omega)) h0 rfl rfl rfl (Nat.le_of_ble_eq_true rfl) rfl rfl rfl ?_
  rintro _ _ _ ⟨-, rfl, rfl, rfl⟩
  refine l_eqv (v := vl_groupProcesses S (S 20 c)) (w := prcI S (S 20 c)) rfl ?_
  refine l_istore d_L_saves_14 (by decide) ?_
  refine l_aload_n d_L_saves_16 rfl ?_
  refine l_iload_n d_L_saves_17 rfl ?_
  refine l_callH d_L_saves_18 q_L_saves_114 s_h_save v_h_save (t_h_save hI hE (by first | assumption | exact hR _ _ (by decide) | (unfold R32; omega))) (opX.no hcd) h0 rfl rfl rfl (Nat.le_of_ble_eq_true rfl) rfl rfl rfl ?_
  rintro _ ad1 S1 ⟨-, rfl, hag1, hE1⟩
  have hL1 := LI.agr (LI_save hL hcd) hag1 hE1
  have hI1 := hL1.1.1
  have hR1 := hI1.1
  have h01 := hE1.h
  have hr1 := save_rows (S := S) (c := c)
  have hs11 : S1 11 0 = S 11 0 := by rw [hag1 11 (by decide), hr1.1 11 rfl]
  have hs19 : S1 19 c = 1 := by rw [hag1 19 (by decide), hr1.1 19 rfl]; exact hs
  have hs14 : S1 14 c = S 14 c := by rw [hag1 14 (by decide), hr1.2.2 14 (by decide) (by decide), fset_o (S 14) _ (by omega)]
  refine l_eqv (v := vl_save S (c)) (w := S 23 0) rfl ?_
  refine l_aload_n d_L_saves_21 rfl ?_
  refine l_bipush d_L_saves_22 (by decide) ?_
  refine l_uld (hA.2.2.2) d_L_saves_24 (by omega) (by omega) ?_
  refine l_icmp_ne (tgt := 32) d_L_saves_25 (by decide) (by first | assumption | exact hR _ _ (by decide) | exact hR3 _ _ (by decide) | (unfold R32; omega)) (by first | assumption | exact hR _ _ (by decide) | exact hR3 _ _ (by decide) | (unfold R32; omega)) (fun z25 => absurd rfl z25) (fun z25 => ?_)
  refine l_iconst d_L_saves_28 ?_
  refine l_goto (tgt := 33) d_L_saves_29 (by decide) ?_
  refine l_istore d_L_saves_33 (by decide) ?_
  have hcd1 : cd_stop S1 c = 0 := by unfold cd_stop; (repeat' split) <;> omega
  refine l_aload_n d_L_saves_35 rfl ?_
  refine l_iload_n d_L_saves_36 rfl ?_
  refine l_callH d_L_saves_37 q_L_saves_94 s_h_stop v_h_stop (t_h_stop hI1 hE1 (by first | assumption | exact hR _ _ (by decide) | (unfold R32; omega))) (opX.no hcd1) h01 rfl rfl rfl (Nat.le_of_ble_eq_true rfl) rfl rfl rfl ?_
  rintro _ ad2 S2 ⟨-, rfl, hag2, hE2⟩
  have hL2 := LI.agr (LI_stop hL1 hcd1) hag2 hE2
  have hI2 := hL2.1.1
  have hR2 := hI2.1
  have h02 := hE2.h
  refine l_eqv (v := vl_stop S1 (c)) (w := S 14 c) hs14 ?_
  refine l_istore d_L_saves_40 (by decide) ?_
  refine l_aload_n d_L_saves_42 rfl ?_
  refine l_bipush d_L_saves_43 (by decide) ?_
  refine l_uld (hA.2.2.1) d_L_saves_45 (by omega) (by omega) ?_
  refine l_istore d_L_saves_46 (by decide) ?_
  refine l_aload_n d_L_saves_48 rfl ?_
  refine l_bipush d_L_saves_49 (by decide) ?_
  refine l_dup2 d_L_saves_51 rfl rfl ?_
  refine l_uld (hA.2.2.2) d_L_saves_52 (by omega) (by omega) ?_
  refine l_iconst d_L_saves_53 ?_
  refine l_iadd d_L_saves_54 ?_
  refine l_ust d_L_saves_55 (by omega) (by omega) ?_
  refine l_aload_n d_L_saves_56 rfl ?_
  refine l_bipush d_L_saves_57 (by decide) ?_
  refine l_iload d_L_saves_59 rfl ?_
  refine l_iadd d_L_saves_61 ?_
  refine l_iload d_L_saves_62 rfl ?_
  refine l_tst d_L_saves_64 (by omega) (by omega) ?_
  refine l_aload_n d_L_saves_65 rfl ?_
  refine l_iload d_L_saves_66 rfl ?_
  refine l_aload_n d_L_saves_68 rfl ?_
  refine l_iload_n d_L_saves_69 rfl ?_
  refine l_uld ((fset_o fu _ (by omega)).trans hK.2) d_L_saves_70 (by omega) (by omega) ?_
  refine l_ust d_L_saves_71 (by omega) (by omega) ?_
  refine l_aload_n d_L_saves_72 rfl ?_
  refine l_bipush d_L_saves_73 (by decide) ?_
  refine l_dup2 d_L_saves_75 rfl rfl ?_
  refine l_uld ((fset_o _ _ (by omega)).trans ((fset_o fu _ (by decide)).trans hA.2.2.1)) d_L_saves_76 (by omega) (by omega) ?_
  refine l_iconst d_L_saves_77 ?_
  refine l_iadd d_L_saves_78 ?_
  refine l_ust d_L_saves_79 (by omega) (by omega) ?_
  refine l_iload d_L_saves_80 rfl ?_
  refine l_if_eq (tgt := 161) d_L_saves_82 (by decide) (by first | assumption | exact hR _ _ (by decide) | exact hR3 _ _ (by decide) | (unfold R32; omega)) (fun z82 => by exfalso; omega) (fun z82 => ?_)
  have hg11 : S2 11 0 = S 11 0 := by rw [hag2 11 (by decide), show st_stop S1 c 11 = S1 11 from stp_k rfl, hs11]
  have hg23 : S2 23 0 = S 23 0 + 1 := by rw [hag2 23 (by decide), show st_stop S1 c 23 = S1 23 from stp_k rfl, hag1 23 (by decide), hr1.2.1, fset_e]
  have hg6 : S2 6 0 = S 6 0 := by rw [hag2 6 (by decide), show st_stop S1 c 6 = S1 6 from stp_k rfl, hag1 6 (by decide), hr1.1 6 rfl]
  have hcd2 : cd_restore S2 (S 23 0) (S 20 c) = 0 := a_saves hI hL.1.2 hL.2.1 hcd hag1 hI1 hag2 hI2 hn
  have hlay : lay S (S 12 c) = lay S2 (S2 12 (20 + S 23 0)) := a_lay hI hcd hag1 hag2
  refine l_aload_n d_L_saves_85 rfl ?_
  refine l_aload_n d_L_saves_86 rfl ?_
  refine l_bipush d_L_saves_87 (by decide) ?_
  refine l_uld ((fset_o _ _ (by decide)).trans ((fset_o _ _ (by omega)).trans (fset_e fu 23 _))) d_L_saves_89 (by omega) (by omega) ?_
  refine l_iconst d_L_saves_90 ?_
  refine l_isub d_L_saves_91 ?_
  refine l_eqv (v := S 23 0 + 1 - 1) (w := S 23 0) (by omega) ?_
  refine l_iload d_L_saves_92 rfl ?_
  refine l_callH d_L_saves_94 q_L_saves_117 s_h_restore v_h_restore (t_h_restore hI2 hE2 (by first | assumption | exact hR _ _ (by decide) | (unfold R32; omega)) (by first | assumption | exact hR _ _ (by decide) | (unfold R32; omega))) (opX.no hcd2) h02 rfl rfl rfl (Nat.le_of_ble_eq_true rfl) rfl rfl rfl ?_
  rintro _ ad3 S3 ⟨-, rfl, hag3, hE3⟩
  have hL3 := LI.agr ((by have y := LI_restore (y := lay S (S 12 c)) hL2 hcd2 (by rw [hlay]); rw [hg11] at y; exact y : LI _ (fset ft (44 + S 11 0) (S 20 c)) (fset (fset (fset fu 23 (S 23 0 + 1)) (S 11 0) (lay S (S 12 c))) 22 (S 11 0 + 1)))) hag3 hE3
  have hI3 := hL3.1.1
  have hR3 := hI3.1
  have h03 := hE3.h
  obtain ⟨r11, r6, r19, r14, rp, r21, rc, rf, -⟩ := a_restored hI hcd hag1 hI1 hag2 hI2 hag3 hI3 hn
  refine l_eqv (v := vl_restore S2 (S 23 0) (S 20 c)) (w := S 11 0) hg11 ?_
  refine l_iload d_L_saves_97 rfl ?_
  refine l_icmp_ne (tgt := 161) d_L_saves_99 (by decide) (by first | assumption | exact hR _ _ (by decide) | exact hR3 _ _ (by decide) | (unfold R32; omega)) (by first | assumption | exact hR _ _ (by decide) | exact hR3 _ _ (by decide) | (unfold R32; omega)) (fun z99 => absurd rfl z99) (fun z99 => ?_)
  refine l_aload_n d_L_saves_102 rfl ?_
  refine l_iload d_L_saves_103 rfl ?_
  refine l_callH d_L_saves_105 q_L_saves_50 s_h_stateOf v_h_stateOf (t_h_stateOf hI3 hE3 (by first | assumption | exact hR _ _ (by decide) | exact hR9 _ _ (by decide) | (unfold R32; omega))) (opX.no (show cd_stateOf S3 (S 11 0) = 0 by unfold cd_stateOf; (repeat' split) <;> omega)) h03 rfl rfl rfl (Nat.le_of_ble_eq_true rfl) rfl rfl rfl ?_
  rintro _ _ _ ⟨-, rfl, rfl, rfl⟩
  refine l_eqv (v := vl_stateOf S3 (S 11 0)) (w := 0) r19 ?_
  refine l_if_ne (tgt := 161) d_L_saves_108 (by decide) (by first | assumption | exact hR _ _ (by decide) | exact hR3 _ _ (by decide) | (unfold R32; omega)) (fun z108 => by exfalso; omega) (fun z108 => ?_)
  refine l_aload_n d_L_saves_111 rfl ?_
  refine l_iload d_L_saves_112 rfl ?_
  refine l_callH d_L_saves_114 q_L_saves_53 s_h_memoryOf v_h_memoryOf (t_h_memoryOf hI3 hE3 (by first | assumption | exact hR _ _ (by decide) | exact hR9 _ _ (by decide) | (unfold R32; omega))) (opX.no (show cd_memoryOf S3 (S 11 0) = 0 by unfold cd_memoryOf; (repeat' split) <;> omega)) h03 rfl rfl rfl (Nat.le_of_ble_eq_true rfl) rfl rfl rfl ?_
  rintro _ _ _ ⟨-, rfl, rfl, rfl⟩
  refine l_eqv (v := vl_memoryOf S3 (S 11 0)) (w := S 14 c) r14 ?_
  refine l_iload d_L_saves_117 rfl ?_
  refine l_icmp_ne (tgt := 161) d_L_saves_119 (by decide) (by first | assumption | exact hR _ _ (by decide) | exact hR3 _ _ (by decide) | (unfold R32; omega)) (by first | assumption | exact hR _ _ (by decide) | exact hR3 _ _ (by decide) | (unfold R32; omega)) (fun z119 => absurd rfl z119) (fun z119 => ?_)
  refine l_aload_n d_L_saves_122 rfl ?_
  refine l_iload d_L_saves_123 rfl ?_
  refine l_callH d_L_saves_125 q_L_saves_36 s_h_groupProcesses v_h_groupProcesses (t_h_groupProcesses hI3 hE3 (by first | assumption | exact hR _ _ (by decide) | exact hR9 _ _ (by decide) | (unfold R32; omega))) (opX.no (show cd_groupProcesses S3 (S 20 c) = 0 by unfold cd_groupProcesses; (repeat' split) <;> omega)) h03 rfl rfl rfl (Nat.le_of_ble_eq_true rfl) rfl rfl rfl ?_
  rintro _ _ _ ⟨-, rfl, rfl, rfl⟩
  refine l_eqv (v := vl_groupProcesses S3 (S 20 c)) (w := prcI S (S 20 c)) rp ?_
  refine l_iload d_L_saves_128 rfl ?_
  refine l_icmp_ne (tgt := 161) d_L_saves_130 (by decide) (by first | assumption | exact hR _ _ (by decide) | exact hR3 _ _ (by decide) | (unfold R32; omega)) (by first | assumption | exact hR _ _ (by decide) | exact hR3 _ _ (by decide) | (unfold R32; omega)) (fun z130 => absurd rfl z130) (fun z130 => ?_)
  refine l_aload_n d_L_saves_133 rfl ?_
  refine l_iload d_L_saves_134 rfl ?_
  refine l_callH d_L_saves_136 q_L_saves_59 s_h_addressOf v_h_addressOf (t_h_addressOf hI3 hE3 (by first | assumption | exact hR _ _ (by decide) | exact hR9 _ _ (by decide) | (unfold R32; omega))) (opX.no (show cd_addressOf S3 (S 11 0) = 0 by unfold cd_addressOf; (repeat' split) <;> omega)) h03 rfl rfl rfl (Nat.le_of_ble_eq_true rfl) rfl rfl rfl ?_
  rintro _ _ _ ⟨-, rfl, rfl, rfl⟩
  refine l_eqv (v := vl_addressOf S3 (S 11 0)) (w := -1) r21 ?_
  refine l_iconst d_L_saves_139 ?_
  refine l_icmp_ne (tgt := 161) d_L_saves_140 (by decide) (by first | assumption | exact hR _ _ (by decide) | exact hR3 _ _ (by decide) | (unfold R32; omega)) (by first | assumption | exact hR _ _ (by decide) | exact hR3 _ _ (by decide) | (unfold R32; omega)) (fun z140 => absurd rfl z140) (fun z140 => ?_)
  have hc3 := (hI3.2.2.2.1 c (Or.inl ⟨c0, by omega⟩)).2.2.2.2
  refine l_aload_n d_L_saves_143 rfl ?_
  refine l_iload d_L_saves_144 rfl ?_
  refine l_callH d_L_saves_146 q_L_saves_62 s_h_capabilitiesOf v_h_capabilitiesOf (t_h_capabilitiesOf hI3 hE3 (by first | assumption | exact hR _ _ (by decide) | exact hR9 _ _ (by decide) | (unfold R32; omega))) (opX.no (show cd_capabilitiesOf S3 (S 11 0) = 0 by unfold cd_capabilitiesOf; (repeat' split) <;> omega)) h03 rfl rfl rfl (Nat.le_of_ble_eq_true rfl) rfl rfl rfl ?_
  rintro _ _ _ ⟨-, rfl, rfl, rfl⟩
  refine l_eqv (v := vl_capabilitiesOf S3 (S 11 0)) (w := 16 * S3 16 c + S3 17 c) (by show 16 * S3 16 (S 11 0) + S3 17 (S 11 0) = _; rw [rc.1, rc.2]) ?_
  refine l_aload_n d_L_saves_149 rfl ?_
  refine l_iload_n d_L_saves_150 rfl ?_
  refine l_callH d_L_saves_151 q_L_saves_62 s_h_capabilitiesOf v_h_capabilitiesOf (t_h_capabilitiesOf hI3 hE3 (by first | assumption | exact hR _ _ (by decide) | exact hR9 _ _ (by decide) | (unfold R32; omega))) (opX.no (show cd_capabilitiesOf S3 (c) = 0 by unfold cd_capabilitiesOf; (repeat' split) <;> omega)) h03 rfl rfl rfl (Nat.le_of_ble_eq_true rfl) rfl rfl rfl ?_
  rintro _ _ _ ⟨-, rfl, rfl, rfl⟩
  refine l_eqv (v := vl_capabilitiesOf S3 (c)) (w := 16 * S3 16 c + S3 17 c) rfl ?_
  refine l_icmp_ne (tgt := 161) d_L_saves_154 (by decide) (by first | assumption | exact hR _ _ (by decide) | exact hR3 _ _ (by decide) | (unfold R32; omega)) (by first | assumption | exact hR _ _ (by decide) | exact hR3 _ _ (by decide) | (unfold R32; omega)) (fun z154 => absurd rfl z154) (fun z154 => ?_)
  refine l_iconst d_L_saves_157 ?_
  refine l_goto (tgt := 162) d_L_saves_158 (by decide) ?_
  refine l_istore d_L_saves_162 (by decide) ?_
  refine l_iconst d_L_saves_164 ?_
  refine l_istore d_L_saves_165 (by decide) ?_
  exact l_mono (W_saves (n := S 11 0) hL3 hE3 c0 (by omega) (by omega) (by omega) rf 32 0 rfl) (by decide) (by decide)
theorem t_L_checks {g : xG} {t u : Nat} {ad : cA} {S : gS} {ft fu : Int → Int} {c b : Int} (hL : LI S ft fu) (hE : Ext S) (c0 : 0 ≤ c) (c1 : c < S 11 0) (hb : 0 ≤ b ∧ b < 2147483648) : lM g y_L_checks k_L_checks M_L_checks t u [.ref (g.2.2.2.2 5), .ref t, .ref u, .int (iI c), .int (iI (S 19 c)), .int (iI b)] ad S ft fu qOk := by
  refine lM.of rfl (by decide) rfl rfl rfl (by simp [Value.category]) (Nat.le_of_ble_eq_true rfl) rfl ?_
  have hI := hL.1.1
  have hR := hI.1
  have h0 := hE.h
  have h3 := hI.2.1.1
  have h6 := hI.2.1.2.1
  have h11 := hI.2.1.2.2.1
  have h23 := hI.2.1.2.2.2
  have hA := hL.2.2.2.1
  have hI6 := hI.2.2.2.2.2.2.1
  have q4 := hI.2.2.2.2.1 c c0 c1
  have q14 := (hI.2.2.2.1 c (Or.inl ⟨c0, c1⟩)).2.2.1
  have k137 : S 19 c ≠ 0 → lW g M_L_checks t u qOk 332 2173 ad S ft fu 137 [some (.ref (g.2.2.2.2 5)), some (.ref t), some (.ref u), some (.int (iI c)), some (.int (iI (S 19 c))), some (.int (iI b)), none] [] := fun hs => by
    refine l_iload d_L_checks_137 rfl ?_
    refine l_iconst d_L_checks_139 ?_
    refine l_icmp_ne (tgt := 162) d_L_checks_140 (by decide) (by first | assumption | exact hR _ _ (by decide) | exact hR9 _ _ (by decide) | (unfold R32; omega)) (by first | assumption | exact hR _ _ (by decide) | exact hR9 _ _ (by decide) | (unfold R32; omega)) (fun z140 => ?_) (fun z140 => ?_)
    · refine l_aload_n d_L_checks_162 rfl ?_
      refine l_iload_n d_L_checks_163 rfl ?_
      refine l_callH d_L_checks_164 q_L_checks_53 s_h_memoryOf v_h_memoryOf (t_h_memoryOf hI hE (by first | assumption | exact hR _ _ (by decide) | exact hR9 _ _ (by decide) | (unfold R32; omega))) (opX.no (show cd_memoryOf S (c) = 0 by unfold cd_memoryOf; (repeat' split) <;> omega)) h0 rfl rfl rfl (Nat.le_of_ble_eq_true rfl) rfl rfl rfl ?_
      rintro _ _ _ ⟨-, rfl, rfl, rfl⟩
      refine l_eqv (v := vl_memoryOf S (c)) (w := 0) (show S 14 c = 0 from by omega) ?_
      refine l_if_ne (tgt := 174) d_L_checks_167 (by decide) (by first | assumption | exact hR _ _ (by decide) | exact hR9 _ _ (by decide) | (unfold R32; omega)) (fun z167 => by exfalso; omega) (fun z167 => ?_)
      refine l_iconst d_L_checks_170 ?_
      refine l_goto (tgt := 175) d_L_checks_171 (by decide) ?_
      exact l_zret rfl (Or.inr rfl) d_L_checks_175 (⟨rfl, hL, hE⟩)
    · have hcd : cd_resume S c = 0 := by unfold cd_resume ist; (repeat' split) <;> omega
      refine l_aload_n d_L_checks_143 rfl ?_
      refine l_iload_n d_L_checks_144 rfl ?_
      refine l_callH d_L_checks_145 q_L_checks_108 s_h_resume v_h_resume (t_h_resume hI hE (by first | assumption | exact hR _ _ (by decide) | (unfold R32; omega))) (opX.no hcd) h0 rfl rfl rfl (Nat.le_of_ble_eq_true rfl) rfl rfl rfl ?_
      rintro _ ad9 S9 ⟨-, rfl, hag9, hE9⟩
      have hL9 := LI.agr (LI_resume hL hcd) hag9 hE9
      have hI9 := hL9.1.1
      have hR9 := hI9.1
      have h09 := hE9.h
      have e11 : S9 11 0 = S 11 0 := by rw [hag9 11 (by decide)]; rfl
      have e19 : S9 19 c = 0 := by rw [hag9 19 (by decide)]; exact sset_e S 19 c 0
      refine l_aload_n d_L_checks_148 rfl ?_
      refine l_iload_n d_L_checks_149 rfl ?_
      refine l_callH d_L_checks_150 q_L_checks_50 s_h_stateOf v_h_stateOf (t_h_stateOf hI9 hE9 (by first | assumption | exact hR _ _ (by decide) | exact hR9 _ _ (by decide) | (unfold R32; omega))) (opX.no (show cd_stateOf S9 (c) = 0 by unfold cd_stateOf; (repeat' split) <;> omega)) h09 rfl rfl rfl (Nat.le_of_ble_eq_true rfl) rfl rfl rfl ?_
      rintro _ _ _ ⟨-, rfl, rfl, rfl⟩
      refine l_eqv (v := vl_stateOf S9 (c)) (w := 0) e19 ?_
      refine l_if_ne (tgt := 160) d_L_checks_153 (by decide) (by first | assumption | exact hR _ _ (by decide) | exact hR9 _ _ (by decide) | (unfold R32; omega)) (fun z153 => by exfalso; omega) (fun z153 => ?_)
      refine l_iconst d_L_checks_156 ?_
      refine l_goto (tgt := 161) d_L_checks_157 (by decide) ?_
      exact l_zret rfl (Or.inr rfl) d_L_checks_161 (⟨rfl, hL9, hE9⟩)
  have k97 : S 19 c ≠ 0 → lW g M_L_checks t u qOk 332 2173 ad S ft fu 97 [some (.ref (g.2.2.2.2 5)), some (.ref t), some (.ref u), some (.int (iI c)), some (.int (iI (S 19 c))), some (.int (iI b)), none] [] := fun hs => by
    refine l_iload d_L_checks_97 rfl ?_
    refine l_iconst d_L_checks_99 ?_
    refine l_icmp_ne (tgt := 137) d_L_checks_100 (by decide) (by first | assumption | exact hR _ _ (by decide) | (unfold R32; omega)) (by first | assumption | exact hR _ _ (by decide) | (unfold R32; omega)) (fun z100 => ?_) (fun z100 => ?_)
    · exact k137 hs
    · refine l_iload d_L_checks_103 rfl ?_
      refine l_bipush d_L_checks_105 (by decide) ?_
      refine l_iremI d_L_checks_107 (by omega) (by first | assumption | exact hR _ _ (by decide) | (unfold R32; omega)) (by omega) (by first | assumption | exact hR _ _ (by decide) | (unfold R32; omega)) ?_
      refine l_iconst d_L_checks_108 ?_
      refine l_icmp_ge (tgt := 137) d_L_checks_109 (by decide) (by first | assumption | exact hR _ _ (by decide) | (unfold R32; omega)) (by first | assumption | exact hR _ _ (by decide) | (unfold R32; omega)) (fun z109 => ?_) (fun z109 => ?_)
      · exact k137 hs
      · refine l_aload_n d_L_checks_112 rfl ?_
        refine l_bipush d_L_checks_113 (by decide) ?_
        refine l_uld (hA.2.2.2) d_L_checks_115 (by omega) (by omega) ?_
        refine l_iconst d_L_checks_116 ?_
        refine l_icmp_ge (tgt := 137) d_L_checks_117 (by decide) (by first | assumption | exact hR _ _ (by decide) | (unfold R32; omega)) (by first | assumption | exact hR _ _ (by decide) | (unfold R32; omega)) (fun z117 => ?_) (fun z117 => ?_)
        · exact k137 hs
        · refine l_aload_n d_L_checks_120 rfl ?_
          refine l_bipush d_L_checks_121 (by decide) ?_
          refine l_uld (hA.2.2.1) d_L_checks_123 (by omega) (by omega) ?_
          refine l_bipush d_L_checks_124 (by decide) ?_
          refine l_icmp_ge (tgt := 137) d_L_checks_126 (by decide) (by first | assumption | exact hR _ _ (by decide) | (unfold R32; omega)) (by first | assumption | exact hR _ _ (by decide) | (unfold R32; omega)) (fun z126 => ?_) (fun z126 => ?_)
          · exact k137 hs
          · refine l_aload_n d_L_checks_129 rfl ?_
            refine l_aload_n d_L_checks_130 rfl ?_
            refine l_aload_n d_L_checks_131 rfl ?_
            refine l_iload_n d_L_checks_132 rfl ?_
            refine l_callL d_L_checks_133 q_L_checks_105 s_L_saves (t_L_saves hL hE c0 c1 (by omega) (by omega) (by omega)) rfl rfl (Nat.le_of_ble_eq_true rfl) rfl rfl rfl ?_
            rintro _ ad9 S9 ft9 fu9 ⟨rfl, hL9, hE9⟩
            exact l_zret rfl (Or.inr rfl) d_L_checks_136 (⟨rfl, hL9, hE9⟩)
  refine l_iload d_L_checks_0 rfl ?_
  refine l_bipush d_L_checks_2 (by decide) ?_
  refine l_iremI d_L_checks_4 (by omega) (by first | assumption | exact hR _ _ (by decide) | exact hR9 _ _ (by decide) | (unfold R32; omega)) (by omega) (by first | assumption | exact hR _ _ (by decide) | exact hR9 _ _ (by decide) | (unfold R32; omega)) ?_
  refine l_if_ne (tgt := 46) d_L_checks_5 (by decide) (by first | assumption | exact hR _ _ (by decide) | exact hR9 _ _ (by decide) | (unfold R32; omega)) (fun z5 => ?_) (fun z5 => ?_)
  · refine l_iload d_L_checks_46 rfl ?_
    refine l_if_ne (tgt := 71) d_L_checks_48 (by decide) (by first | assumption | exact hR _ _ (by decide) | exact hR9 _ _ (by decide) | (unfold R32; omega)) (fun z48 => ?_) (fun z48 => ?_)
    · refine l_iload d_L_checks_71 rfl ?_
      refine l_bipush d_L_checks_73 (by decide) ?_
      refine l_iremI d_L_checks_75 (by omega) (by first | assumption | exact hR _ _ (by decide) | exact hR9 _ _ (by decide) | (unfold R32; omega)) (by omega) (by first | assumption | exact hR _ _ (by decide) | exact hR9 _ _ (by decide) | (unfold R32; omega)) ?_
      refine l_iconst d_L_checks_76 ?_
      refine l_icmp_ne (tgt := 97) d_L_checks_77 (by decide) (by first | assumption | exact hR _ _ (by decide) | exact hR9 _ _ (by decide) | (unfold R32; omega)) (by first | assumption | exact hR _ _ (by decide) | exact hR9 _ _ (by decide) | (unfold R32; omega)) (fun z77 => ?_) (fun z77 => ?_)
      · exact k97 (by omega)
      · refine l_aload_n d_L_checks_80 rfl ?_
        refine l_bipush d_L_checks_81 (by decide) ?_
        refine l_uld (hA.1) d_L_checks_83 (by omega) (by omega) ?_
        refine l_bipush d_L_checks_84 (by decide) ?_
        refine l_icmp_ge (tgt := 97) d_L_checks_86 (by decide) (by first | assumption | exact hR _ _ (by decide) | exact hR9 _ _ (by decide) | (unfold R32; omega)) (by first | assumption | exact hR _ _ (by decide) | exact hR9 _ _ (by decide) | (unfold R32; omega)) (fun z86 => ?_) (fun z86 => ?_)
        · exact k97 (by omega)
        · refine l_aload_n d_L_checks_89 rfl ?_
          refine l_aload_n d_L_checks_90 rfl ?_
          refine l_aload_n d_L_checks_91 rfl ?_
          refine l_iload_n d_L_checks_92 rfl ?_
          refine l_callL d_L_checks_93 q_L_checks_101 s_L_commits (t_L_commits hL hE c0 c1 (by omega)) rfl rfl (Nat.le_of_ble_eq_true rfl) rfl rfl rfl ?_
          rintro _ ad9 S9 ft9 fu9 ⟨rfl, hL9, hE9⟩
          exact l_zret rfl (Or.inr rfl) d_L_checks_96 (⟨rfl, hL9, hE9⟩)
    · have hcd : cd_pause S c = 0 := by unfold cd_pause ist; (repeat' split) <;> omega
      refine l_aload_n d_L_checks_51 rfl ?_
      refine l_iload_n d_L_checks_52 rfl ?_
      refine l_callH d_L_checks_53 q_L_checks_97 s_h_pause v_h_pause (t_h_pause hI hE (by first | assumption | exact hR _ _ (by decide) | (unfold R32; omega))) (opX.no hcd) h0 rfl rfl rfl (Nat.le_of_ble_eq_true rfl) rfl rfl rfl ?_
      rintro _ ad9 S9 ⟨-, rfl, hag9, hE9⟩
      have hL9 := LI.agr (LI_pause hL hcd) hag9 hE9
      have hI9 := hL9.1.1
      have hR9 := hI9.1
      have h09 := hE9.h
      have e11 : S9 11 0 = S 11 0 := by rw [hag9 11 (by decide)]; rfl
      have e19 : S9 19 c = 1 := by rw [hag9 19 (by decide)]; exact sset_e S 19 c 1
      refine l_aload_n d_L_checks_56 rfl ?_
      refine l_iload_n d_L_checks_57 rfl ?_
      refine l_callH d_L_checks_58 q_L_checks_50 s_h_stateOf v_h_stateOf (t_h_stateOf hI9 hE9 (by first | assumption | exact hR _ _ (by decide) | exact hR9 _ _ (by decide) | (unfold R32; omega))) (opX.no (show cd_stateOf S9 (c) = 0 by unfold cd_stateOf; (repeat' split) <;> omega)) h09 rfl rfl rfl (Nat.le_of_ble_eq_true rfl) rfl rfl rfl ?_
      rintro _ _ _ ⟨-, rfl, rfl, rfl⟩
      refine l_eqv (v := vl_stateOf S9 (c)) (w := 1) e19 ?_
      refine l_iconst d_L_checks_61 ?_
      refine l_icmp_ne (tgt := 69) d_L_checks_62 (by decide) (by first | assumption | exact hR _ _ (by decide) | exact hR9 _ _ (by decide) | (unfold R32; omega)) (by first | assumption | exact hR _ _ (by decide) | exact hR9 _ _ (by decide) | (unfold R32; omega)) (fun z62 => absurd rfl z62) (fun z62 => ?_)
      refine l_iconst d_L_checks_65 ?_
      refine l_goto (tgt := 70) d_L_checks_66 (by decide) ?_
      exact l_zret rfl (Or.inr rfl) d_L_checks_70 (⟨rfl, hL9, hE9⟩)
  · refine l_aload_n d_L_checks_8 rfl ?_
    refine l_iload_n d_L_checks_9 rfl ?_
    refine l_callH d_L_checks_10 q_L_checks_53 s_h_memoryOf v_h_memoryOf (t_h_memoryOf hI hE (by first | assumption | exact hR _ _ (by decide) | exact hR9 _ _ (by decide) | (unfold R32; omega))) (opX.no (show cd_memoryOf S (c) = 0 by unfold cd_memoryOf; (repeat' split) <;> omega)) h0 rfl rfl rfl (Nat.le_of_ble_eq_true rfl) rfl rfl rfl ?_
    rintro _ _ _ ⟨-, rfl, rfl, rfl⟩
    refine l_eqv (v := vl_memoryOf S (c)) (w := S 14 c) rfl ?_
    refine l_istore d_L_checks_13 (by decide) ?_
    refine l_iload d_L_checks_15 rfl ?_
    refine l_iconst d_L_checks_17 ?_
    refine l_icmp_eq (tgt := 40) d_L_checks_18 (by decide) (by first | assumption | exact hR _ _ (by decide) | exact hR9 _ _ (by decide) | (unfold R32; omega)) (by first | assumption | exact hR _ _ (by decide) | exact hR9 _ _ (by decide) | (unfold R32; omega)) (fun z18 => ?_) (fun z18 => ?_)
    · refine l_iconst d_L_checks_40 ?_
      refine l_goto (tgt := 45) d_L_checks_41 (by decide) ?_
      exact l_zret rfl (Or.inr rfl) d_L_checks_45 (⟨rfl, hL, hE⟩)
    · have hcd : cd_stop S c = 0 := by unfold cd_stop; (repeat' split) <;> omega
      refine l_aload_n d_L_checks_21 rfl ?_
      refine l_iload_n d_L_checks_22 rfl ?_
      refine l_callH d_L_checks_23 q_L_checks_94 s_h_stop v_h_stop (t_h_stop hI hE (by first | assumption | exact hR _ _ (by decide) | (unfold R32; omega))) (opX.no hcd) h0 rfl rfl rfl (Nat.le_of_ble_eq_true rfl) rfl rfl rfl ?_
      rintro _ ad9 S9 ⟨-, rfl, hag9, hE9⟩
      have hL9 := LI.agr (LI_stop hL hcd) hag9 hE9
      have hI9 := hL9.1.1
      have hR9 := hI9.1
      have h09 := hE9.h
      have e11 : S9 11 0 = S 11 0 := by rw [hag9 11 (by decide), show st_stop S c 11 = S 11 from stp_k rfl]
      have e19 : S9 19 c = 2 := by rw [hag9 19 (by decide)]; exact (stp_c S c).2.2.2.1
      refine l_eqv (v := vl_stop S (c)) (w := S 14 c) rfl ?_
      refine l_iload d_L_checks_26 rfl ?_
      refine l_icmp_ne (tgt := 44) d_L_checks_28 (by decide) (by first | assumption | exact hR _ _ (by decide) | exact hR9 _ _ (by decide) | (unfold R32; omega)) (by first | assumption | exact hR _ _ (by decide) | exact hR9 _ _ (by decide) | (unfold R32; omega)) (fun z28 => absurd rfl z28) (fun z28 => ?_)
      refine l_aload_n d_L_checks_31 rfl ?_
      refine l_iload_n d_L_checks_32 rfl ?_
      refine l_callH d_L_checks_33 q_L_checks_50 s_h_stateOf v_h_stateOf (t_h_stateOf hI9 hE9 (by first | assumption | exact hR _ _ (by decide) | exact hR9 _ _ (by decide) | (unfold R32; omega))) (opX.no (show cd_stateOf S9 (c) = 0 by unfold cd_stateOf; (repeat' split) <;> omega)) h09 rfl rfl rfl (Nat.le_of_ble_eq_true rfl) rfl rfl rfl ?_
      rintro _ _ _ ⟨-, rfl, rfl, rfl⟩
      refine l_eqv (v := vl_stateOf S9 (c)) (w := 2) e19 ?_
      refine l_iconst d_L_checks_36 ?_
      refine l_icmp_ne (tgt := 44) d_L_checks_37 (by decide) (by first | assumption | exact hR _ _ (by decide) | exact hR9 _ _ (by decide) | (unfold R32; omega)) (by first | assumption | exact hR _ _ (by decide) | exact hR9 _ _ (by decide) | (unfold R32; omega)) (fun z37 => absurd rfl z37) (fun z37 => ?_)
      refine l_iconst d_L_checks_40 ?_
      refine l_goto (tgt := 45) d_L_checks_41 (by decide) ?_
      exact l_zret rfl (Or.inr rfl) d_L_checks_45 (⟨rfl, hL9, hE9⟩)
